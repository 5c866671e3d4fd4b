def ns_inLowestTerms_13_X (σ : sg_S)  (f0 : Int32) (f1 : Int32) (f3 : Int32) : (Int32 ⊕ (Unit ⊕ Int32)) → sg_X
  | .inl a => .inr (13, [some (.int f0), some (.int f1), none, some (.int f3), some (.int a)], σ)
  | .inr (.inl _) => .inr (44, [none, none, none, some (.int f3), none], σ)
  | .inr (.inr r) => .inl (eRI σ r)
def ns_inLowestTerms_13_L (σ : sg_S)  (f0 : Int32) (f1 : Int32) (f3 : Int32) (a : Int32) : Option (Int32 ⊕ (Unit ⊕ Int32)) :=
  (if 1 < a then (if a = 0 then none else (if (jrem f0 a) = 0 then (if a = 0 then none else (if (jrem f1 a) = 0 then (if a = 0 then none else some (.inr (.inr (f3 / a)))) else (sg_leti (a + (-1)) (fun x1 => some (.inl x1))))) else (sg_leti (a + (-1)) (fun x2 => some (.inl x2))))) else some (.inr (.inl ())))
set_option maxRecDepth 20000 in
set_option maxHeartbeats 2000000 in
theorem e_ns_inLowestTerms_13_L (σ : sg_S)  (f0 : Int32) (f1 : Int32) (f3 : Int32)  : ∀ a : Int32, Ev mX4_inLowestTerms (rmL 0) 13 [some (.int f0), some (.int f1), none, some (.int f3), some (.int a)] [] σ (ns_inLowestTerms_13_X σ  f0 f1 f3) (ns_inLowestTerms_13_L σ  f0 f1 f3 a) := by
  intro a
  unfold ns_inLowestTerms_13_L
  refine ev_iload iX4_inLowestTerms_13 rfl ?_
  refine ev_iconst iX4_inLowestTerms_15 kI_1 ?_
  refine ev_icmp_le iX4_inLowestTerms_16 ?_ ?_
  · refine ev_iload_n iX4_inLowestTerms_19 rfl rfl ?_
    refine ev_iload iX4_inLowestTerms_20 rfl ?_
    refine ev_irem iX4_inLowestTerms_22 ?_
    refine ev_if_ne iX4_inLowestTerms_23 ?_ ?_
    · refine ev_iload_n iX4_inLowestTerms_26 rfl rfl ?_
      refine ev_iload iX4_inLowestTerms_27 rfl ?_
      refine ev_irem iX4_inLowestTerms_29 ?_
      refine ev_if_ne iX4_inLowestTerms_30 ?_ ?_
      · refine ev_iload_n iX4_inLowestTerms_33 rfl rfl ?_
        refine ev_iload iX4_inLowestTerms_34 rfl ?_
        refine ev_idiv iX4_inLowestTerms_36 ?_
        exact ev_iret iX4_inLowestTerms_37 rfl (narI rfl _)
      · refine ev_iincN (fun x1 => [some (.int f0), some (.int f1), none, some (.int f3), some (.int x1)]) iX4_inLowestTerms_38 rfl kI_m1 (Nat.le_of_ble_eq_true rfl) rfl (fun _ => rfl) (fun x1 => ?_)
        refine ev_goto iX4_inLowestTerms_41 ?_
        exact ev_exit rfl ⟨rfl, rfl, rfl, rfl, trivial⟩
    · refine ev_iincN (fun x2 => [some (.int f0), some (.int f1), none, some (.int f3), some (.int x2)]) iX4_inLowestTerms_38 rfl kI_m1 (Nat.le_of_ble_eq_true rfl) rfl (fun _ => rfl) (fun x2 => ?_)
      refine ev_goto iX4_inLowestTerms_41 ?_
      exact ev_exit rfl ⟨rfl, rfl, rfl, rfl, trivial⟩
  · exact ev_exit rfl ⟨rfl, trivial⟩
def ns_inLowestTerms_J9 (σ : sg_S)   (v0 : Int32) (v1 : Int32) (t0 : Int32) : Option Int32 :=
  ((sg_lp (ns_inLowestTerms_13_L σ  v0 v1 t0) 1000 v1).bind (Sum.elim (fun _ => some t0) (fun rr => some rr)))
set_option maxRecDepth 20000 in
set_option maxHeartbeats 2000000 in
theorem e_ns_inLowestTerms_J9 (σ : sg_S)   (v0 : Int32) (v1 : Int32) (t0 : Int32)  : Ev mX4_inLowestTerms (rmL 0) 9 [some (.int v0), some (.int v1), none, none, none] [.int t0] σ (fun b => Sum.inl (eRI σ b)) (ns_inLowestTerms_J9 σ   v0 v1 t0) := by
  unfold ns_inLowestTerms_J9
  refine ev_istore_n (ls2 := [some (.int v0), some (.int v1), none, some (.int t0), none]) iX4_inLowestTerms_9 rfl (Nat.le_of_ble_eq_true rfl) (Nat.le_of_ble_eq_true rfl) rfl rfl ?_
  refine ev_iload_n iX4_inLowestTerms_10 rfl rfl ?_
  refine ev_istore (ls2 := [some (.int v0), some (.int v1), none, some (.int t0), some (.int v1)]) iX4_inLowestTerms_11 (Nat.le_of_ble_eq_true rfl) (Nat.le_of_ble_eq_true rfl) rfl rfl ?_
  refine ev_less (ls2 := [some (.int v0), some (.int v1), none, some (.int t0), some (.int v1)]) ?_ ⟨rfl, rfl, rfl, rfl, trivial⟩
  refine ev_seqS 44 (fun _ => [none, none, none, some (.int t0), none]) (fun _ => σ) (ev_loop (embB := ns_inLowestTerms_13_X σ  v0 v1 t0) (ex := fun b => ns_inLowestTerms_13_X σ  v0 v1 t0 (.inr b)) 13 (fun z3 => [some (.int v0), some (.int v1), none, some (.int t0), some (.int z3)]) (fun _ => σ) (fun _ => rfl) (fun _ => rfl) (e_ns_inLowestTerms_13_L σ  v0 v1 t0 ) 1000 v1) (fun _ => rfl) (fun r => ⟨_, rfl, fun a h => by cases h; rfl⟩) (fun e5 => ?_)
  refine ev_iload_n iX4_inLowestTerms_44 rfl rfl ?_
  exact ev_iret iX4_inLowestTerms_45 rfl (narI rfl _)
def ns_inLowestTerms (σ : sg_S) (a0 : Int32) (a1 : Int32) (a2 : Int32) : Option Int32 :=
  (if a2 = 0 then ns_inLowestTerms_J9 σ a0 a1 a0 else ns_inLowestTerms_J9 σ a0 a1 a1)
set_option maxRecDepth 20000 in
set_option maxHeartbeats 2000000 in
theorem c_ns_inLowestTerms (σ : sg_S) (a0 : Int32) (a1 : Int32) (a2 : Int32)  : sg_Call yX4_inLowestTerms mX4_inLowestTerms (rmL 0) [.int a0, .int a1, .int a2] σ (eRI σ) (ns_inLowestTerms σ a0 a1 a2) := by
  refine sg_call_of (by decide +kernel) rfl (Nat.le_of_ble_eq_true rfl) rfl (fun _ => rfl) ?_
  refine ev_less (ls2 := [some (.int a0), some (.int a1), some (.int a2), none, none]) ?_ ⟨rfl, rfl, rfl, trivial⟩
  unfold ns_inLowestTerms
  refine ev_iload_n iX4_inLowestTerms_0 rfl rfl ?_
  refine ev_if_ne iX4_inLowestTerms_1 ?_ ?_
  · refine ev_iload_n iX4_inLowestTerms_4 rfl rfl ?_
    refine ev_goto iX4_inLowestTerms_5 ?_
    exact ev_less (e_ns_inLowestTerms_J9 σ   a0 a1 a0 ) ⟨rfl, rfl, trivial⟩
  · refine ev_iload_n iX4_inLowestTerms_8 rfl rfl ?_
    exact ev_less (e_ns_inLowestTerms_J9 σ   a0 a1 a1 ) ⟨rfl, rfl, trivial⟩
def ns_power_5_X (σ : sg_S)  (f0 : Int32) (f1 : Int32) : ((Int64 × Int32) ⊕ Int64) → sg_X
  | .inl a => .inr (5, [some (.int f0), some (.int f1), some (.long a.1), none, some (.int a.2)], σ)
  | .inr e => .inr (22, [none, none, some (.long e), none, none], σ)
def ns_power_5_L (σ : sg_S)  (f0 : Int32) (f1 : Int32) (a : (Int64 × Int32)) : Option ((Int64 × Int32) ⊕ Int64) :=
  (if a.2 < f1 then sg_letl (a.1 * f0.toInt64) (fun x1 => some (.inl (x1, (a.2 + 1)))) else some (.inr a.1))
set_option maxRecDepth 20000 in
set_option maxHeartbeats 2000000 in
theorem e_ns_power_5_L (σ : sg_S)  (f0 : Int32) (f1 : Int32)  : ∀ a : (Int64 × Int32), Ev mX4_power (rmL 0) 5 [some (.int f0), some (.int f1), some (.long a.1), none, some (.int a.2)] [] σ (ns_power_5_X σ  f0 f1) (ns_power_5_L σ  f0 f1 a) := by
  intro a
  unfold ns_power_5_L
  refine ev_iload iX4_power_5 rfl ?_
  refine ev_iload_n iX4_power_7 rfl rfl ?_
  refine ev_icmp_ge iX4_power_8 ?_ ?_
  · refine ev_lload_n iX4_power_11 rfl rfl ?_
    refine ev_iload_n iX4_power_12 rfl rfl ?_
    refine ev_i2l iX4_power_13 ?_
    refine ev_lmul iX4_power_14 ?_
    refine ev_letl (fun x1 => ?_)
    refine ev_lstore_n (ls2 := [some (.int f0), some (.int f1), some (.long x1), none, some (.int a.2)]) iX4_power_15 rfl (Nat.le_of_ble_eq_true rfl) (Nat.le_of_ble_eq_true rfl) rfl rfl ?_
    refine ev_iinc (v := (a.2 + 1)) (ls2 := [some (.int f0), some (.int f1), some (.long x1), none, some (.int (a.2 + 1))]) iX4_power_16 rfl (by rw [kI_1]) (Nat.le_of_ble_eq_true rfl) rfl rfl ?_
    refine ev_goto iX4_power_19 ?_
    exact ev_exit rfl ⟨rfl, rfl, rfl, rfl, trivial⟩
  · exact ev_exit rfl ⟨rfl, trivial⟩
def ns_power (σ : sg_S) (a0 : Int32) (a1 : Int32) : Option Int64 :=
  ((sg_lp (ns_power_5_L σ  a0 a1) 1000 (1, 0)).bind fun e4 => some e4)
set_option maxRecDepth 20000 in
set_option maxHeartbeats 2000000 in
theorem c_ns_power (σ : sg_S) (a0 : Int32) (a1 : Int32)  : sg_Call yX4_power mX4_power (rmL 0) [.int a0, .int a1] σ (eRL σ) (ns_power σ a0 a1) := by
  refine sg_call_of (by decide +kernel) rfl (Nat.le_of_ble_eq_true rfl) rfl (fun _ => rfl) ?_
  refine ev_less (ls2 := [some (.int a0), some (.int a1), none, none, none]) ?_ ⟨rfl, rfl, trivial⟩
  unfold ns_power
  refine ev_lconst (v := 1) iX4_power_0 rfl ?_
  refine ev_lstore_n (ls2 := [some (.int a0), some (.int a1), some (.long 1), none, none]) iX4_power_1 rfl (Nat.le_of_ble_eq_true rfl) (Nat.le_of_ble_eq_true rfl) rfl rfl ?_
  refine ev_iconst iX4_power_2 kI_0 ?_
  refine ev_istore (ls2 := [some (.int a0), some (.int a1), some (.long 1), none, some (.int 0)]) iX4_power_3 (Nat.le_of_ble_eq_true rfl) (Nat.le_of_ble_eq_true rfl) rfl rfl ?_
  refine ev_less (ls2 := [some (.int a0), some (.int a1), some (.long 1), none, some (.int 0)]) ?_ ⟨rfl, rfl, rfl, rfl, trivial⟩
  refine ev_seq1 22 (fun z3 => [none, none, some (.long z3), none, none]) (fun _ => σ) (ev_loop (embB := ns_power_5_X σ  a0 a1) (ex := fun b => ns_power_5_X σ  a0 a1 (.inr b)) 5 (fun z2 => [some (.int a0), some (.int a1), some (.long z2.1), none, some (.int z2.2)]) (fun _ => σ) (fun _ => rfl) (fun _ => rfl) (e_ns_power_5_L σ  a0 a1 ) 1000 (1, 0)) (fun _ => rfl) (fun e4 => ?_)
  refine ev_lload_n iX4_power_22 rfl rfl ?_
  exact ev_lret iX4_power_23 rfl
def ns_seed (σ : sg_S) (a1 : Int32) : Option (Int32 × sg_S) :=
  sg_leti (σ 1 14) (fun x1 => sg_let (sg_st σ 1 14 a1) (fun s2 => some (x1, s2)))
set_option maxRecDepth 20000 in
set_option maxHeartbeats 2000000 in
theorem c_ns_seed (σ : sg_S) (a1 : Int32)  : sg_Call yX4_seed mX4_seed (rmL 0) [.ref 0, .int a1] σ eMI (ns_seed σ a1) := by
  refine sg_call_of (by decide +kernel) rfl (Nat.le_of_ble_eq_true rfl) rfl (fun _ => rfl) ?_
  refine ev_less (ls2 := [some (.ref 0), some (.int a1), none]) ?_ ⟨rfl, rfl, trivial⟩
  unfold ns_seed
  refine ev_aload_n iX4_seed_0 rfl (by decide) rfl ?_
  refine ev_getR (k1 := 1) 4 0 iX4_seed_1 kF_X4_10 O_0 rfl (by decide) ?_
  refine ev_getI 3 14 iX4_seed_4 kF_X4_206 O_1 rfl ?_
  refine ev_leti (fun x1 => ?_)
  refine ev_istore_n (ls2 := [some (.ref 0), some (.int a1), some (.int x1)]) iX4_seed_7 rfl (Nat.le_of_ble_eq_true rfl) (Nat.le_of_ble_eq_true rfl) rfl rfl ?_
  refine ev_aload_n iX4_seed_8 rfl (by decide) rfl ?_
  refine ev_getR (k1 := 1) 4 0 iX4_seed_9 kF_X4_10 O_0 rfl (by decide) ?_
  refine ev_iload_n iX4_seed_12 rfl rfl ?_
  refine ev_putI 3 14 iX4_seed_13 kF_X4_206 fp_3_14 rfl rfl O_1 rfl ?_
  refine ev_let (fun s2 => ?_)
  refine ev_iload_n iX4_seed_16 rfl rfl ?_
  exact ev_iret iX4_seed_17 rfl (narI rfl _)
def ns_wipe (σ : sg_S)  : Option (Int32 × sg_S) :=
  sg_leti (σ 35 1) (fun x1 => sg_let (sg_st σ 35 1 0) (fun s2 => some (x1, s2)))
set_option maxRecDepth 20000 in
set_option maxHeartbeats 2000000 in
theorem c_ns_wipe (σ : sg_S)   : sg_Call yX4_wipe mX4_wipe (rmL 0) [.ref 0] σ eMI (ns_wipe σ ) := by
  refine sg_call_of (by decide +kernel) rfl (Nat.le_of_ble_eq_true rfl) rfl (fun _ => rfl) ?_
  refine ev_less (ls2 := [some (.ref 0), none]) ?_ ⟨rfl, trivial⟩
  unfold ns_wipe
  refine ev_aload_n iX4_wipe_0 rfl (by decide) rfl ?_
  refine ev_getR (k1 := 34) 4 4 iX4_wipe_1 kF_X4_29 O_0 rfl (by decide) ?_
  refine ev_getR (k1 := 35) 0 0 iX4_wipe_4 kF_X4_209 O_34 rfl (by decide) ?_
  refine ev_getI 2 1 iX4_wipe_7 kF_X4_213 O_35 rfl ?_
  refine ev_leti (fun x1 => ?_)
  refine ev_istore_n (ls2 := [some (.ref 0), some (.int x1)]) iX4_wipe_10 rfl (Nat.le_of_ble_eq_true rfl) (Nat.le_of_ble_eq_true rfl) rfl rfl ?_
  refine ev_aload_n iX4_wipe_11 rfl (by decide) rfl ?_
  refine ev_getR (k1 := 34) 4 4 iX4_wipe_12 kF_X4_29 O_0 rfl (by decide) ?_
  refine ev_getR (k1 := 35) 0 0 iX4_wipe_15 kF_X4_209 O_34 rfl (by decide) ?_
  refine ev_iconst iX4_wipe_18 kI_0 ?_
  refine ev_putI 2 1 iX4_wipe_19 kF_X4_213 fp_2_1 rfl rfl O_35 rfl ?_
  refine ev_let (fun s2 => ?_)
  refine ev_iload_n iX4_wipe_22 rfl rfl ?_
  exact ev_iret iX4_wipe_23 rfl (narI rfl _)
def ns_kindAbove (σ : sg_S) (a0 : Int32) : Option Int32 :=
  (sg_sw a0 [(1, some 0), (2, some 0), (3, some 2), (4, some 3), (5, some 0), (6, some 1)] (some (-1)))
set_option maxRecDepth 20000 in
set_option maxHeartbeats 2000000 in
theorem c_ns_kindAbove (σ : sg_S) (a0 : Int32)  : sg_Call yX4_kindAbove mX4_kindAbove (rmL 0) [.int a0] σ (eRI σ) (ns_kindAbove σ a0) := by
  refine sg_call_of (by decide +kernel) rfl (Nat.le_of_ble_eq_true rfl) rfl (fun _ => rfl) ?_
  refine ev_less (ls2 := [some (.int a0)]) ?_ ⟨rfl, trivial⟩
  unfold ns_kindAbove
  refine ev_iload_n iX4_kindAbove_0 rfl rfl ?_
  refine ev_table (dt := 48) [40, 40, 42, 44, 40, 46] iX4_kindAbove_1 rfl rfl ⟨rfl, rfl, rfl, rfl, rfl, rfl, rfl, rfl, rfl, rfl, rfl, rfl, trivial⟩ ?_ ⟨?_, ?_, ?_, ?_, ?_, ?_, trivial⟩
  · refine ev_iconst iX4_kindAbove_48 kI_m1 ?_
    exact ev_iret iX4_kindAbove_49 rfl (narI rfl _)
  · refine ev_iconst iX4_kindAbove_40 kI_0 ?_
    exact ev_iret iX4_kindAbove_41 rfl (fun ty _ => nar0 ty)
  · refine ev_iconst iX4_kindAbove_40 kI_0 ?_
    exact ev_iret iX4_kindAbove_41 rfl (fun ty _ => nar0 ty)
  · refine ev_iconst iX4_kindAbove_42 kI_2 ?_
    exact ev_iret iX4_kindAbove_43 rfl (narI rfl _)
  · refine ev_iconst iX4_kindAbove_44 kI_3 ?_
    exact ev_iret iX4_kindAbove_45 rfl (narI rfl _)
  · refine ev_iconst iX4_kindAbove_40 kI_0 ?_
    exact ev_iret iX4_kindAbove_41 rfl (fun ty _ => nar0 ty)
  · refine ev_iconst iX4_kindAbove_46 kI_1 ?_
    exact ev_iret iX4_kindAbove_47 rfl (fun ty _ => nar1 ty)
def ns_tear (σ : sg_S)  : Option (Int32 × sg_S) :=
  (if (σ 0 3) = 0 then sg_let (sg_st σ 0 3 0) (fun s1 => some (0, s1)) else sg_let (sg_st σ 0 3 0) (fun s2 => some (1, s2)))
set_option maxRecDepth 20000 in
set_option maxHeartbeats 2000000 in
theorem c_ns_tear (σ : sg_S)   : sg_Call yX4_tear mX4_tear (rmL 0) [.ref 0] σ eMI (ns_tear σ ) := by
  refine sg_call_of (by decide +kernel) rfl (Nat.le_of_ble_eq_true rfl) rfl (fun _ => rfl) ?_
  refine ev_less (ls2 := [some (.ref 0), none]) ?_ ⟨rfl, trivial⟩
  unfold ns_tear
  refine ev_aload_n iX4_tear_0 rfl (by decide) rfl ?_
  refine ev_getI 4 3 iX4_tear_1 kF_X4_22 O_0 rfl ?_
  refine ev_if_eq iX4_tear_4 ?_ ?_
  · refine ev_iconst iX4_tear_11 kI_0 ?_
    refine ev_istore_n (ls2 := [some (.ref 0), some (.int 0)]) iX4_tear_12 rfl (Nat.le_of_ble_eq_true rfl) (Nat.le_of_ble_eq_true rfl) rfl rfl ?_
    refine ev_aload_n iX4_tear_13 rfl (by decide) rfl ?_
    refine ev_iconst iX4_tear_14 kI_0 ?_
    refine ev_putI 4 3 iX4_tear_15 kF_X4_22 fp_4_3 rfl rfl O_0 rfl ?_
    refine ev_let (fun s1 => ?_)
    refine ev_iload_n iX4_tear_18 rfl rfl ?_
    exact ev_iret iX4_tear_19 rfl (fun ty _ => nar0 ty)
  · refine ev_iconst iX4_tear_7 kI_1 ?_
    refine ev_goto iX4_tear_8 ?_
    refine ev_istore_n (ls2 := [some (.ref 0), some (.int 1)]) iX4_tear_12 rfl (Nat.le_of_ble_eq_true rfl) (Nat.le_of_ble_eq_true rfl) rfl rfl ?_
    refine ev_aload_n iX4_tear_13 rfl (by decide) rfl ?_
    refine ev_iconst iX4_tear_14 kI_0 ?_
    refine ev_putI 4 3 iX4_tear_15 kF_X4_22 fp_4_3 rfl rfl O_0 rfl ?_
    refine ev_let (fun s2 => ?_)
    refine ev_iload_n iX4_tear_18 rfl rfl ?_
    exact ev_iret iX4_tear_19 rfl (fun ty _ => nar1 ty)
def ns_finding (σ : sg_S) (a1 : Int32) : Option (Int32 × sg_S) :=
  (if sg_in a1 7 = true then (if sg_in a1 7 = true then sg_let (sg_st σ 61 a1.toNatClampNeg ((σ 61 a1.toNatClampNeg) + 1)) (fun s1 => some (((-1000001) - a1), s1)) else none) else none)
set_option maxRecDepth 20000 in
set_option maxHeartbeats 2000000 in
theorem c_ns_finding (σ : sg_S) (a1 : Int32)  : sg_Call yX4_finding mX4_finding (rmL 0) [.ref 0, .int a1] σ eMI (ns_finding σ a1) := by
  refine sg_call_of (by decide +kernel) rfl (Nat.le_of_ble_eq_true rfl) rfl (fun _ => rfl) ?_
  refine ev_less (ls2 := [some (.ref 0), some (.int a1)]) ?_ ⟨rfl, rfl, trivial⟩
  unfold ns_finding
  refine ev_aload_n iX4_finding_0 rfl (by decide) rfl ?_
  refine ev_getR (k1 := 61) 4 6 iX4_finding_1 kF_X4_40 O_0 rfl (by decide) ?_
  refine ev_iload_n iX4_finding_4 rfl rfl ?_
  refine ev_dup2 iX4_finding_5 (by decide) ?_
  refine ev_iald iX4_finding_6 A_61 ?_
  refine ev_iconst iX4_finding_7 kI_1 ?_
  refine ev_iadd iX4_finding_8 ?_
  refine ev_iast iX4_finding_9 A_61 ?_
  refine ev_let (fun s1 => ?_)
  refine ev_ldcw iX4_finding_10 kC_X4_258 ?_
  refine ev_iload_n iX4_finding_13 rfl rfl ?_
  refine ev_isub iX4_finding_14 ?_
  exact ev_iret iX4_finding_15 rfl (narI rfl _)
def ns_list (σ : sg_S) (a1 : Int32) (a2 : Int32) (a3 : Int32) : Option (Int32 × sg_S) :=
  ((ns_within σ a1 5).bind fun r1 => (if r1 = 0 then ((ns_finding σ 0).bind fun r2 => some (r2.1, r2.2)) else ((ns_within σ a2 7).bind fun r3 => (if r3 = 0 then ((ns_finding σ 0).bind fun r4 => some (r4.1, r4.2)) else ((ns_within σ a3 7).bind fun r5 => (if r5 = 0 then ((ns_finding σ 0).bind fun r6 => some (r6.1, r6.2)) else (if sg_in a1 6 = true then sg_leti (σ 2 a1.toNatClampNeg) (fun x7 => (if sg_in a1 6 = true then sg_let (sg_st σ 2 a1.toNatClampNeg ((10 * a2) + a3)) (fun s8 => some (x7, s8)) else none)) else none)))))))
set_option maxRecDepth 20000 in
set_option maxHeartbeats 2000000 in
theorem c_ns_list (σ : sg_S) (a1 : Int32) (a2 : Int32) (a3 : Int32)  : sg_Call yX4_list mX4_list (rmL 1) [.ref 0, .int a1, .int a2, .int a3] σ eMI (ns_list σ a1 a2 a3) := by
  refine sg_call_of (by decide +kernel) rfl (Nat.le_of_ble_eq_true rfl) rfl (fun _ => rfl) ?_
  refine ev_less (ls2 := [some (.ref 0), some (.int a1), some (.int a2), some (.int a3), none]) ?_ ⟨rfl, rfl, rfl, rfl, trivial⟩
  unfold ns_list
  refine ev_iload_n iX4_list_0 rfl rfl ?_
  refine ev_iconst iX4_list_1 kI_5 ?_
  refine ev_SRI iX4_list_2 kS_X4_44 (c_ns_within σ a1 5) rfl rfl (Nat.le_of_ble_eq_true rfl) (sg_fitL (by decide) (Nat.le_of_ble_eq_true rfl)) (fun r1 => ?_)
  refine ev_if_eq iX4_list_5 ?_ ?_
  · refine ev_aload_n iX4_list_26 rfl (by decide) rfl ?_
    refine ev_iconst iX4_list_27 kI_0 ?_
    refine ev_VMI iX4_list_28 kV_X4_48 (c_ns_finding σ 0) rc_0 rfl rfl (Nat.le_of_ble_eq_true rfl) (sg_fitL (by decide) (Nat.le_of_ble_eq_true rfl)) (fun r2 => ?_)
    exact ev_iret iX4_list_31 rfl (narI rfl _)
  · refine ev_iload_n iX4_list_8 rfl rfl ?_
    refine ev_bipush iX4_list_9 kB_7 ?_
    refine ev_SRI iX4_list_11 kS_X4_44 (c_ns_within σ a2 7) rfl rfl (Nat.le_of_ble_eq_true rfl) (sg_fitL (by decide) (Nat.le_of_ble_eq_true rfl)) (fun r3 => ?_)
    refine ev_if_eq iX4_list_14 ?_ ?_
    · refine ev_aload_n iX4_list_26 rfl (by decide) rfl ?_
      refine ev_iconst iX4_list_27 kI_0 ?_
      refine ev_VMI iX4_list_28 kV_X4_48 (c_ns_finding σ 0) rc_0 rfl rfl (Nat.le_of_ble_eq_true rfl) (sg_fitL (by decide) (Nat.le_of_ble_eq_true rfl)) (fun r4 => ?_)
      exact ev_iret iX4_list_31 rfl (narI rfl _)
    · refine ev_iload_n iX4_list_17 rfl rfl ?_
      refine ev_bipush iX4_list_18 kB_7 ?_
      refine ev_SRI iX4_list_20 kS_X4_44 (c_ns_within σ a3 7) rfl rfl (Nat.le_of_ble_eq_true rfl) (sg_fitL (by decide) (Nat.le_of_ble_eq_true rfl)) (fun r5 => ?_)
      refine ev_if_ne iX4_list_23 ?_ ?_
      · refine ev_aload_n iX4_list_26 rfl (by decide) rfl ?_
        refine ev_iconst iX4_list_27 kI_0 ?_
        refine ev_VMI iX4_list_28 kV_X4_48 (c_ns_finding σ 0) rc_0 rfl rfl (Nat.le_of_ble_eq_true rfl) (sg_fitL (by decide) (Nat.le_of_ble_eq_true rfl)) (fun r6 => ?_)
        exact ev_iret iX4_list_31 rfl (narI rfl _)
      · refine ev_aload_n iX4_list_32 rfl (by decide) rfl ?_
        refine ev_getR (k1 := 1) 4 0 iX4_list_33 kF_X4_10 O_0 rfl (by decide) ?_
        refine ev_getR (k1 := 2) 3 0 iX4_list_36 kF_X4_52 O_1 rfl (by decide) ?_
        refine ev_iload_n iX4_list_39 rfl rfl ?_
        refine ev_iald iX4_list_40 A_2 ?_
        refine ev_leti (fun x7 => ?_)
        refine ev_istore (ls2 := [some (.ref 0), some (.int a1), some (.int a2), some (.int a3), some (.int x7)]) iX4_list_41 (Nat.le_of_ble_eq_true rfl) (Nat.le_of_ble_eq_true rfl) rfl rfl ?_
        refine ev_aload_n iX4_list_43 rfl (by decide) rfl ?_
        refine ev_getR (k1 := 1) 4 0 iX4_list_44 kF_X4_10 O_0 rfl (by decide) ?_
        refine ev_getR (k1 := 2) 3 0 iX4_list_47 kF_X4_52 O_1 rfl (by decide) ?_
        refine ev_iload_n iX4_list_50 rfl rfl ?_
        refine ev_bipush iX4_list_51 kB_10 ?_
        refine ev_iload_n iX4_list_53 rfl rfl ?_
        refine ev_imul iX4_list_54 ?_
        refine ev_iload_n iX4_list_55 rfl rfl ?_
        refine ev_iadd iX4_list_56 ?_
        refine ev_iast iX4_list_57 A_2 ?_
        refine ev_let (fun s8 => ?_)
        refine ev_iload iX4_list_58 rfl ?_
        exact ev_iret iX4_list_60 rfl (narI rfl _)
def ns_listed (σ : sg_S) (a1 : Int32) : Option (Int32 × sg_S) :=
  ((ns_within σ a1 5).bind fun r1 => (if r1 = 0 then ((ns_finding σ 0).bind fun r2 => some (r2.1, r2.2)) else (if sg_in a1 6 = true then some ((σ 2 a1.toNatClampNeg), σ) else none)))
set_option maxRecDepth 20000 in
set_option maxHeartbeats 2000000 in
theorem c_ns_listed (σ : sg_S) (a1 : Int32)  : sg_Call yX4_listed mX4_listed (rmL 1) [.ref 0, .int a1] σ eMI (ns_listed σ a1) := by
  refine sg_call_of (by decide +kernel) rfl (Nat.le_of_ble_eq_true rfl) rfl (fun _ => rfl) ?_
  refine ev_less (ls2 := [some (.ref 0), some (.int a1)]) ?_ ⟨rfl, rfl, trivial⟩
  unfold ns_listed
  refine ev_iload_n iX4_listed_0 rfl rfl ?_
  refine ev_iconst iX4_listed_1 kI_5 ?_
  refine ev_SRI iX4_listed_2 kS_X4_44 (c_ns_within σ a1 5) rfl rfl (Nat.le_of_ble_eq_true rfl) (sg_fitL (by decide) (Nat.le_of_ble_eq_true rfl)) (fun r1 => ?_)
  refine ev_if_eq iX4_listed_5 ?_ ?_
  · refine ev_aload_n iX4_listed_20 rfl (by decide) rfl ?_
    refine ev_iconst iX4_listed_21 kI_0 ?_
    refine ev_VMI iX4_listed_22 kV_X4_48 (c_ns_finding σ 0) rc_0 rfl rfl (Nat.le_of_ble_eq_true rfl) (sg_fitL (by decide) (Nat.le_of_ble_eq_true rfl)) (fun r2 => ?_)
    exact ev_iret iX4_listed_25 rfl (narI rfl _)
  · refine ev_aload_n iX4_listed_8 rfl (by decide) rfl ?_
    refine ev_getR (k1 := 1) 4 0 iX4_listed_9 kF_X4_10 O_0 rfl (by decide) ?_
    refine ev_getR (k1 := 2) 3 0 iX4_listed_12 kF_X4_52 O_1 rfl (by decide) ?_
    refine ev_iload_n iX4_listed_15 rfl rfl ?_
    refine ev_iald iX4_listed_16 A_2 ?_
    refine ev_goto iX4_listed_17 ?_
    exact ev_iret iX4_listed_25 rfl (narI rfl _)
def ns_person (σ : sg_S) (a1 : Int32) (a2 : Int32) : Option (Int32 × sg_S) :=
  ((ns_within σ a1 6).bind fun r1 => (if r1 = 0 then ((ns_finding σ 0).bind fun r2 => some (r2.1, r2.2)) else ((ns_within σ a2 9).bind fun r3 => (if r3 = 0 then ((ns_finding σ 0).bind fun r4 => some (r4.1, r4.2)) else (if (σ 1 10) < 8 then ((tn_settle σ 1 a1 a2 0).bind fun r5 => some (r5.1, r5.2)) else ((ns_finding σ 1).bind fun r6 => some (r6.1, r6.2)))))))
set_option maxRecDepth 20000 in
set_option maxHeartbeats 2000000 in
theorem c_ns_person (σ : sg_S) (a1 : Int32) (a2 : Int32)  : sg_Call yX4_person mX4_person (rmL 1) [.ref 0, .int a1, .int a2] σ eMI (ns_person σ a1 a2) := by
  refine sg_call_of (by decide +kernel) rfl (Nat.le_of_ble_eq_true rfl) rfl (fun _ => rfl) ?_
  refine ev_less (ls2 := [some (.ref 0), some (.int a1), some (.int a2)]) ?_ ⟨rfl, rfl, rfl, trivial⟩
  unfold ns_person
  refine ev_iload_n iX4_person_0 rfl rfl ?_
  refine ev_bipush iX4_person_1 kB_6 ?_
  refine ev_SRI iX4_person_3 kS_X4_44 (c_ns_within σ a1 6) rfl rfl (Nat.le_of_ble_eq_true rfl) (sg_fitL (by decide) (Nat.le_of_ble_eq_true rfl)) (fun r1 => ?_)
  refine ev_if_eq iX4_person_6 ?_ ?_
  · refine ev_aload_n iX4_person_18 rfl (by decide) rfl ?_
    refine ev_iconst iX4_person_19 kI_0 ?_
    refine ev_VMI iX4_person_20 kV_X4_48 (c_ns_finding σ 0) rc_0 rfl rfl (Nat.le_of_ble_eq_true rfl) (sg_fitL (by decide) (Nat.le_of_ble_eq_true rfl)) (fun r2 => ?_)
    exact ev_iret iX4_person_23 rfl (narI rfl _)
  · refine ev_iload_n iX4_person_9 rfl rfl ?_
    refine ev_bipush iX4_person_10 kB_9 ?_
    refine ev_SRI iX4_person_12 kS_X4_44 (c_ns_within σ a2 9) rfl rfl (Nat.le_of_ble_eq_true rfl) (sg_fitL (by decide) (Nat.le_of_ble_eq_true rfl)) (fun r3 => ?_)
    refine ev_if_ne iX4_person_15 ?_ ?_
    · refine ev_aload_n iX4_person_18 rfl (by decide) rfl ?_
      refine ev_iconst iX4_person_19 kI_0 ?_
      refine ev_VMI iX4_person_20 kV_X4_48 (c_ns_finding σ 0) rc_0 rfl rfl (Nat.le_of_ble_eq_true rfl) (sg_fitL (by decide) (Nat.le_of_ble_eq_true rfl)) (fun r4 => ?_)
      exact ev_iret iX4_person_23 rfl (narI rfl _)
    · refine ev_aload_n iX4_person_24 rfl (by decide) rfl ?_
      refine ev_getR (k1 := 1) 4 0 iX4_person_25 kF_X4_10 O_0 rfl (by decide) ?_
      refine ev_getI 3 10 iX4_person_28 kF_X4_55 O_1 rfl ?_
      refine ev_bipush iX4_person_31 kB_8 ?_
      refine ev_icmp_lt iX4_person_33 ?_ ?_
      · refine ev_aload_n iX4_person_42 rfl (by decide) rfl ?_
        refine ev_getR (k1 := 1) 4 0 iX4_person_43 kF_X4_10 O_0 rfl (by decide) ?_
        refine ev_iload_n iX4_person_46 rfl rfl ?_
        refine ev_iload_n iX4_person_47 rfl rfl ?_
        refine ev_iconst iX4_person_48 kI_0 ?_
        refine ev_VMI iX4_person_49 kV_X4_59 (c_tn_settle σ 1 a1 a2 0 isT_1) (rc_T isT_1) rfl rfl (Nat.le_of_ble_eq_true rfl) (sg_fitL (by decide) (Nat.le_of_ble_eq_true rfl)) (fun r5 => ?_)
        exact ev_iret iX4_person_52 rfl (narI rfl _)
      · refine ev_aload_n iX4_person_36 rfl (by decide) rfl ?_
        refine ev_iconst iX4_person_37 kI_1 ?_
        refine ev_VMI iX4_person_38 kV_X4_48 (c_ns_finding σ 1) rc_0 rfl rfl (Nat.le_of_ble_eq_true rfl) (sg_fitL (by decide) (Nat.le_of_ble_eq_true rfl)) (fun r6 => ?_)
        exact ev_iret iX4_person_41 rfl (narI rfl _)
def ns_ofSaying (σ : sg_S) (a1 : Int32) (a2 : Int32) : Option (Int32 × sg_S) :=
  ((tn_isSaying σ 1 a1).bind fun r1 => (if r1 = 0 then ((ns_finding σ 0).bind fun r2 => some (r2.1, r2.2)) else (sg_sw a2 [(0, (if sg_in a1 6 = true then some ((σ 7 a1.toNatClampNeg), σ) else none)), (1, (if sg_in a1 6 = true then some ((σ 8 a1.toNatClampNeg), σ) else none)), (2, (if sg_in a1 6 = true then some ((σ 9 a1.toNatClampNeg), σ) else none))] ((ns_finding σ 0).bind fun r3 => some (r3.1, r3.2)))))
set_option maxRecDepth 20000 in
set_option maxHeartbeats 2000000 in
theorem c_ns_ofSaying (σ : sg_S) (a1 : Int32) (a2 : Int32)  : sg_Call yX4_ofSaying mX4_ofSaying (rmL 1) [.ref 0, .int a1, .int a2] σ eMI (ns_ofSaying σ a1 a2) := by
  refine sg_call_of (by decide +kernel) rfl (Nat.le_of_ble_eq_true rfl) rfl (fun _ => rfl) ?_
  refine ev_less (ls2 := [some (.ref 0), some (.int a1), some (.int a2)]) ?_ ⟨rfl, rfl, rfl, trivial⟩
  unfold ns_ofSaying
  refine ev_aload_n iX4_ofSaying_0 rfl (by decide) rfl ?_
  refine ev_getR (k1 := 1) 4 0 iX4_ofSaying_1 kF_X4_10 O_0 rfl (by decide) ?_
  refine ev_iload_n iX4_ofSaying_4 rfl rfl ?_
  refine ev_VRI iX4_ofSaying_5 kV_X4_92 (c_tn_isSaying σ 1 a1 isT_1) (rc_T isT_1) rfl rfl (Nat.le_of_ble_eq_true rfl) (sg_fitL (by decide) (Nat.le_of_ble_eq_true rfl)) (fun r1 => ?_)
  refine ev_if_ne iX4_ofSaying_8 ?_ ?_
  · refine ev_aload_n iX4_ofSaying_11 rfl (by decide) rfl ?_
    refine ev_iconst iX4_ofSaying_12 kI_0 ?_
    refine ev_VMI iX4_ofSaying_13 kV_X4_48 (c_ns_finding σ 0) rc_0 rfl rfl (Nat.le_of_ble_eq_true rfl) (sg_fitL (by decide) (Nat.le_of_ble_eq_true rfl)) (fun r2 => ?_)
    exact ev_iret iX4_ofSaying_16 rfl (narI rfl _)
  · refine ev_iload_n iX4_ofSaying_17 rfl rfl ?_
    refine ev_table (dt := 74) [44, 54, 64] iX4_ofSaying_18 rfl rfl ⟨rfl, rfl, rfl, rfl, rfl, rfl, trivial⟩ ?_ ⟨?_, ?_, ?_, trivial⟩
    · refine ev_aload_n iX4_ofSaying_74 rfl (by decide) rfl ?_
      refine ev_iconst iX4_ofSaying_75 kI_0 ?_
      refine ev_VMI iX4_ofSaying_76 kV_X4_48 (c_ns_finding σ 0) rc_0 rfl rfl (Nat.le_of_ble_eq_true rfl) (sg_fitL (by decide) (Nat.le_of_ble_eq_true rfl)) (fun r3 => ?_)
      exact ev_iret iX4_ofSaying_79 rfl (narI rfl _)
    · refine ev_aload_n iX4_ofSaying_44 rfl (by decide) rfl ?_
      refine ev_getR (k1 := 1) 4 0 iX4_ofSaying_45 kF_X4_10 O_0 rfl (by decide) ?_
      refine ev_getR (k1 := 7) 3 5 iX4_ofSaying_48 kF_X4_95 O_1 rfl (by decide) ?_
      refine ev_iload_n iX4_ofSaying_51 rfl rfl ?_
      refine ev_iald iX4_ofSaying_52 A_7 ?_
      exact ev_iret iX4_ofSaying_53 rfl (narI rfl _)
    · refine ev_aload_n iX4_ofSaying_54 rfl (by decide) rfl ?_
      refine ev_getR (k1 := 1) 4 0 iX4_ofSaying_55 kF_X4_10 O_0 rfl (by decide) ?_
      refine ev_getR (k1 := 8) 3 6 iX4_ofSaying_58 kF_X4_98 O_1 rfl (by decide) ?_
      refine ev_iload_n iX4_ofSaying_61 rfl rfl ?_
      refine ev_iald iX4_ofSaying_62 A_8 ?_
      exact ev_iret iX4_ofSaying_63 rfl (narI rfl _)
    · refine ev_aload_n iX4_ofSaying_64 rfl (by decide) rfl ?_
      refine ev_getR (k1 := 1) 4 0 iX4_ofSaying_65 kF_X4_10 O_0 rfl (by decide) ?_
      refine ev_getR (k1 := 9) 3 7 iX4_ofSaying_68 kF_X4_101 O_1 rfl (by decide) ?_
      refine ev_iload_n iX4_ofSaying_71 rfl rfl ?_
      refine ev_iald iX4_ofSaying_72 A_9 ?_
      exact ev_iret iX4_ofSaying_73 rfl (narI rfl _)
def ns_from (σ : sg_S) (a1 : Int32) (a2 : Int32) : Option (Int32 × sg_S) :=
  ((tn_isSaying σ 1 a1).bind fun r1 => (if r1 = 0 then ((ns_finding σ 0).bind fun r2 => some (r2.1, r2.2)) else ((tn_isPerson σ 1 a2).bind fun r3 => (if r3 = 0 then ((ns_finding σ 0).bind fun r4 => some (r4.1, r4.2)) else ((tn_hasHeard σ 1 a1 a2).bind fun r5 => (if r5 = 0 then ((ns_finding σ 3).bind fun r6 => some (r6.1, r6.2)) else ((tn_source σ 1 a1 a2).bind fun r7 => some (r7, σ))))))))
set_option maxRecDepth 20000 in
set_option maxHeartbeats 2000000 in
theorem c_ns_from (σ : sg_S) (a1 : Int32) (a2 : Int32)  : sg_Call yX4_from mX4_from (rmL 1) [.ref 0, .int a1, .int a2] σ eMI (ns_from σ a1 a2) := by
  refine sg_call_of (by decide +kernel) rfl (Nat.le_of_ble_eq_true rfl) rfl (fun _ => rfl) ?_
  refine ev_less (ls2 := [some (.ref 0), some (.int a1), some (.int a2)]) ?_ ⟨rfl, rfl, rfl, trivial⟩
  unfold ns_from
  refine ev_aload_n iX4_from_0 rfl (by decide) rfl ?_
  refine ev_getR (k1 := 1) 4 0 iX4_from_1 kF_X4_10 O_0 rfl (by decide) ?_
  refine ev_iload_n iX4_from_4 rfl rfl ?_
  refine ev_VRI iX4_from_5 kV_X4_92 (c_tn_isSaying σ 1 a1 isT_1) (rc_T isT_1) rfl rfl (Nat.le_of_ble_eq_true rfl) (sg_fitL (by decide) (Nat.le_of_ble_eq_true rfl)) (fun r1 => ?_)
  refine ev_if_eq iX4_from_8 ?_ ?_
  · refine ev_aload_n iX4_from_22 rfl (by decide) rfl ?_
    refine ev_iconst iX4_from_23 kI_0 ?_
    refine ev_VMI iX4_from_24 kV_X4_48 (c_ns_finding σ 0) rc_0 rfl rfl (Nat.le_of_ble_eq_true rfl) (sg_fitL (by decide) (Nat.le_of_ble_eq_true rfl)) (fun r2 => ?_)
    exact ev_iret iX4_from_27 rfl (narI rfl _)
  · refine ev_aload_n iX4_from_11 rfl (by decide) rfl ?_
    refine ev_getR (k1 := 1) 4 0 iX4_from_12 kF_X4_10 O_0 rfl (by decide) ?_
    refine ev_iload_n iX4_from_15 rfl rfl ?_
    refine ev_VRI iX4_from_16 kV_X4_63 (c_tn_isPerson σ 1 a2 isT_1) (rc_T isT_1) rfl rfl (Nat.le_of_ble_eq_true rfl) (sg_fitL (by decide) (Nat.le_of_ble_eq_true rfl)) (fun r3 => ?_)
    refine ev_if_ne iX4_from_19 ?_ ?_
    · refine ev_aload_n iX4_from_22 rfl (by decide) rfl ?_
      refine ev_iconst iX4_from_23 kI_0 ?_
      refine ev_VMI iX4_from_24 kV_X4_48 (c_ns_finding σ 0) rc_0 rfl rfl (Nat.le_of_ble_eq_true rfl) (sg_fitL (by decide) (Nat.le_of_ble_eq_true rfl)) (fun r4 => ?_)
      exact ev_iret iX4_from_27 rfl (narI rfl _)
    · refine ev_aload_n iX4_from_28 rfl (by decide) rfl ?_
      refine ev_getR (k1 := 1) 4 0 iX4_from_29 kF_X4_10 O_0 rfl (by decide) ?_
      refine ev_iload_n iX4_from_32 rfl rfl ?_
      refine ev_iload_n iX4_from_33 rfl rfl ?_
      refine ev_VRI iX4_from_34 kV_X4_104 (c_tn_hasHeard σ 1 a1 a2 isT_1) (rc_T isT_1) rfl rfl (Nat.le_of_ble_eq_true rfl) (sg_fitL (by decide) (Nat.le_of_ble_eq_true rfl)) (fun r5 => ?_)
      refine ev_if_eq iX4_from_37 ?_ ?_
      · refine ev_aload_n iX4_from_52 rfl (by decide) rfl ?_
        refine ev_iconst iX4_from_53 kI_3 ?_
        refine ev_VMI iX4_from_54 kV_X4_48 (c_ns_finding σ 3) rc_0 rfl rfl (Nat.le_of_ble_eq_true rfl) (sg_fitL (by decide) (Nat.le_of_ble_eq_true rfl)) (fun r6 => ?_)
        exact ev_iret iX4_from_57 rfl (narI rfl _)
      · refine ev_aload_n iX4_from_40 rfl (by decide) rfl ?_
        refine ev_getR (k1 := 1) 4 0 iX4_from_41 kF_X4_10 O_0 rfl (by decide) ?_
        refine ev_iload_n iX4_from_44 rfl rfl ?_
        refine ev_iload_n iX4_from_45 rfl rfl ?_
        refine ev_VRI iX4_from_46 kV_X4_107 (c_tn_source σ 1 a1 a2 isT_1) (rc_T isT_1) rfl rfl (Nat.le_of_ble_eq_true rfl) (sg_fitL (by decide) (Nat.le_of_ble_eq_true rfl)) (fun r7 => ?_)
        refine ev_goto iX4_from_49 ?_
        exact ev_iret iX4_from_57 rfl (narI rfl _)
def ns_odds_53_X (σ : sg_S)  (f1 : Int32) (f2 : Int32) (f3 : Int32) (f4 : Int32) : ((Int32 × Int32) ⊕ Int32) → sg_X
  | .inl a => .inr (53, [some (.ref 0), some (.int f1), some (.int f2), some (.int f3), some (.int f4), some (.int a.1), some (.int a.2)], σ)
  | .inr e => .inr (91, [none, none, none, some (.int f3), some (.int f4), some (.int e), none], σ)
def ns_odds_53_L (σ : sg_S)  (f1 : Int32) (f2 : Int32) (f3 : Int32) (f4 : Int32) (a : (Int32 × Int32)) : Option ((Int32 × Int32) ⊕ Int32) :=
  (if 9 < a.2 then some (.inr a.1) else (if sg_in f1 6 = true then ((tn_wouldBelieve σ 1 f2 (σ 7 f1.toNatClampNeg) a.2).bind fun r9 => (if r9 = 0 then some (.inl (a.1, (a.2 + 1))) else some (.inl ((a.1 + 1), (a.2 + 1))))) else none))
set_option maxRecDepth 20000 in
set_option maxHeartbeats 2000000 in
theorem e_ns_odds_53_L (σ : sg_S)  (f1 : Int32) (f2 : Int32) (f3 : Int32) (f4 : Int32)  : ∀ a : (Int32 × Int32), Ev mX4_odds (rmL 1) 53 [some (.ref 0), some (.int f1), some (.int f2), some (.int f3), some (.int f4), some (.int a.1), some (.int a.2)] [] σ (ns_odds_53_X σ  f1 f2 f3 f4) (ns_odds_53_L σ  f1 f2 f3 f4 a) := by
  intro a
  unfold ns_odds_53_L
  refine ev_iload iX4_odds_53 rfl ?_
  refine ev_bipush iX4_odds_55 kB_9 ?_
  refine ev_icmp_gt iX4_odds_57 ?_ ?_
  · exact ev_exit rfl ⟨rfl, rfl, rfl, trivial⟩
  · refine ev_aload_n iX4_odds_60 rfl (by decide) rfl ?_
    refine ev_getR (k1 := 1) 4 0 iX4_odds_61 kF_X4_10 O_0 rfl (by decide) ?_
    refine ev_iload_n iX4_odds_64 rfl rfl ?_
    refine ev_aload_n iX4_odds_65 rfl (by decide) rfl ?_
    refine ev_getR (k1 := 1) 4 0 iX4_odds_66 kF_X4_10 O_0 rfl (by decide) ?_
    refine ev_getR (k1 := 7) 3 5 iX4_odds_69 kF_X4_95 O_1 rfl (by decide) ?_
    refine ev_iload_n iX4_odds_72 rfl rfl ?_
    refine ev_iald iX4_odds_73 A_7 ?_
    refine ev_iload iX4_odds_74 rfl ?_
    refine ev_VRI iX4_odds_76 kV_X4_195 (c_tn_wouldBelieve σ 1 f2 (σ 7 f1.toNatClampNeg) a.2 isT_1) (rc_T isT_1) rfl rfl (Nat.le_of_ble_eq_true rfl) (sg_fitL (by decide) (Nat.le_of_ble_eq_true rfl)) (fun r9 => ?_)
    refine ev_if_eq iX4_odds_79 ?_ ?_
    · refine ev_iinc (v := (a.2 + 1)) (ls2 := [some (.ref 0), some (.int f1), some (.int f2), some (.int f3), some (.int f4), some (.int a.1), some (.int (a.2 + 1))]) iX4_odds_85 rfl (by rw [kI_1]) (Nat.le_of_ble_eq_true rfl) rfl rfl ?_
      refine ev_goto iX4_odds_88 ?_
      exact ev_exit rfl ⟨rfl, rfl, rfl, rfl, rfl, rfl, rfl, trivial⟩
    · refine ev_iinc (v := (a.1 + 1)) (ls2 := [some (.ref 0), some (.int f1), some (.int f2), some (.int f3), some (.int f4), some (.int (a.1 + 1)), some (.int a.2)]) iX4_odds_82 rfl (by rw [kI_1]) (Nat.le_of_ble_eq_true rfl) rfl rfl ?_
      refine ev_iinc (v := (a.2 + 1)) (ls2 := [some (.ref 0), some (.int f1), some (.int f2), some (.int f3), some (.int f4), some (.int (a.1 + 1)), some (.int (a.2 + 1))]) iX4_odds_85 rfl (by rw [kI_1]) (Nat.le_of_ble_eq_true rfl) rfl rfl ?_
      refine ev_goto iX4_odds_88 ?_
      exact ev_exit rfl ⟨rfl, rfl, rfl, rfl, rfl, rfl, rfl, trivial⟩
def ns_odds (σ : sg_S) (a1 : Int32) (a2 : Int32) (a3 : Int32) (a4 : Int32) : Option (Int64 × sg_S) :=
  ((tn_isSaying σ 1 a1).bind fun r1 => (if r1 = 0 then ((ns_finding σ 0).bind fun r2 => some (r2.1.toInt64, r2.2)) else ((tn_isPerson σ 1 a2).bind fun r3 => (if r3 = 0 then ((ns_finding σ 0).bind fun r4 => some (r4.1.toInt64, r4.2)) else ((ns_within σ a3 18).bind fun r5 => (if r5 = 0 then ((ns_finding σ 0).bind fun r6 => some (r6.1.toInt64, r6.2)) else ((ns_within σ a4 1).bind fun r7 => (if r7 = 0 then ((ns_finding σ 0).bind fun r8 => some (r8.1.toInt64, r8.2)) else ((sg_lp (ns_odds_53_L σ  a1 a2 a3 a4) 1000 (0, 0)).bind fun e12 => ((ns_inLowestTerms σ e12 10 a4).bind fun r13 => ((ns_power σ r13 a3).bind fun r14 => some (r14, σ))))))))))))
set_option maxRecDepth 20000 in
set_option maxHeartbeats 2000000 in
theorem c_ns_odds (σ : sg_S) (a1 : Int32) (a2 : Int32) (a3 : Int32) (a4 : Int32)  : sg_Call yX4_odds mX4_odds (rmL 1) [.ref 0, .int a1, .int a2, .int a3, .int a4] σ eML (ns_odds σ a1 a2 a3 a4) := by
  refine sg_call_of (by decide +kernel) rfl (Nat.le_of_ble_eq_true rfl) rfl (fun _ => rfl) ?_
  refine ev_less (ls2 := [some (.ref 0), some (.int a1), some (.int a2), some (.int a3), some (.int a4), none, none]) ?_ ⟨rfl, rfl, rfl, rfl, rfl, trivial⟩
  unfold ns_odds
  refine ev_aload_n iX4_odds_0 rfl (by decide) rfl ?_
  refine ev_getR (k1 := 1) 4 0 iX4_odds_1 kF_X4_10 O_0 rfl (by decide) ?_
  refine ev_iload_n iX4_odds_4 rfl rfl ?_
  refine ev_VRI iX4_odds_5 kV_X4_92 (c_tn_isSaying σ 1 a1 isT_1) (rc_T isT_1) rfl rfl (Nat.le_of_ble_eq_true rfl) (sg_fitL (by decide) (Nat.le_of_ble_eq_true rfl)) (fun r1 => ?_)
  refine ev_if_eq iX4_odds_8 ?_ ?_
  · refine ev_aload_n iX4_odds_40 rfl (by decide) rfl ?_
    refine ev_iconst iX4_odds_41 kI_0 ?_
    refine ev_VMI iX4_odds_42 kV_X4_48 (c_ns_finding σ 0) rc_0 rfl rfl (Nat.le_of_ble_eq_true rfl) (sg_fitL (by decide) (Nat.le_of_ble_eq_true rfl)) (fun r2 => ?_)
    refine ev_i2l iX4_odds_45 ?_
    exact ev_lret iX4_odds_46 rfl
  · refine ev_aload_n iX4_odds_11 rfl (by decide) rfl ?_
    refine ev_getR (k1 := 1) 4 0 iX4_odds_12 kF_X4_10 O_0 rfl (by decide) ?_
    refine ev_iload_n iX4_odds_15 rfl rfl ?_
    refine ev_VRI iX4_odds_16 kV_X4_63 (c_tn_isPerson σ 1 a2 isT_1) (rc_T isT_1) rfl rfl (Nat.le_of_ble_eq_true rfl) (sg_fitL (by decide) (Nat.le_of_ble_eq_true rfl)) (fun r3 => ?_)
    refine ev_if_eq iX4_odds_19 ?_ ?_
    · refine ev_aload_n iX4_odds_40 rfl (by decide) rfl ?_
      refine ev_iconst iX4_odds_41 kI_0 ?_
      refine ev_VMI iX4_odds_42 kV_X4_48 (c_ns_finding σ 0) rc_0 rfl rfl (Nat.le_of_ble_eq_true rfl) (sg_fitL (by decide) (Nat.le_of_ble_eq_true rfl)) (fun r4 => ?_)
      refine ev_i2l iX4_odds_45 ?_
      exact ev_lret iX4_odds_46 rfl
    · refine ev_iload_n iX4_odds_22 rfl rfl ?_
      refine ev_bipush iX4_odds_23 kB_18 ?_
      refine ev_SRI iX4_odds_25 kS_X4_44 (c_ns_within σ a3 18) rfl rfl (Nat.le_of_ble_eq_true rfl) (sg_fitL (by decide) (Nat.le_of_ble_eq_true rfl)) (fun r5 => ?_)
      refine ev_if_eq iX4_odds_28 ?_ ?_
      · refine ev_aload_n iX4_odds_40 rfl (by decide) rfl ?_
        refine ev_iconst iX4_odds_41 kI_0 ?_
        refine ev_VMI iX4_odds_42 kV_X4_48 (c_ns_finding σ 0) rc_0 rfl rfl (Nat.le_of_ble_eq_true rfl) (sg_fitL (by decide) (Nat.le_of_ble_eq_true rfl)) (fun r6 => ?_)
        refine ev_i2l iX4_odds_45 ?_
        exact ev_lret iX4_odds_46 rfl
      · refine ev_iload iX4_odds_31 rfl ?_
        refine ev_iconst iX4_odds_33 kI_1 ?_
        refine ev_SRI iX4_odds_34 kS_X4_44 (c_ns_within σ a4 1) rfl rfl (Nat.le_of_ble_eq_true rfl) (sg_fitL (by decide) (Nat.le_of_ble_eq_true rfl)) (fun r7 => ?_)
        refine ev_if_ne iX4_odds_37 ?_ ?_
        · refine ev_aload_n iX4_odds_40 rfl (by decide) rfl ?_
          refine ev_iconst iX4_odds_41 kI_0 ?_
          refine ev_VMI iX4_odds_42 kV_X4_48 (c_ns_finding σ 0) rc_0 rfl rfl (Nat.le_of_ble_eq_true rfl) (sg_fitL (by decide) (Nat.le_of_ble_eq_true rfl)) (fun r8 => ?_)
          refine ev_i2l iX4_odds_45 ?_
          exact ev_lret iX4_odds_46 rfl
        · refine ev_iconst iX4_odds_47 kI_0 ?_
          refine ev_istore (ls2 := [some (.ref 0), some (.int a1), some (.int a2), some (.int a3), some (.int a4), some (.int 0), none]) iX4_odds_48 (Nat.le_of_ble_eq_true rfl) (Nat.le_of_ble_eq_true rfl) rfl rfl ?_
          refine ev_iconst iX4_odds_50 kI_0 ?_
          refine ev_istore (ls2 := [some (.ref 0), some (.int a1), some (.int a2), some (.int a3), some (.int a4), some (.int 0), some (.int 0)]) iX4_odds_51 (Nat.le_of_ble_eq_true rfl) (Nat.le_of_ble_eq_true rfl) rfl rfl ?_
          refine ev_less (ls2 := [some (.ref 0), some (.int a1), some (.int a2), some (.int a3), some (.int a4), some (.int 0), some (.int 0)]) ?_ ⟨rfl, rfl, rfl, rfl, rfl, rfl, rfl, trivial⟩
          refine ev_seq1 91 (fun z11 => [none, none, none, some (.int a3), some (.int a4), some (.int z11), none]) (fun _ => σ) (ev_loop (embB := ns_odds_53_X σ  a1 a2 a3 a4) (ex := fun b => ns_odds_53_X σ  a1 a2 a3 a4 (.inr b)) 53 (fun z10 => [some (.ref 0), some (.int a1), some (.int a2), some (.int a3), some (.int a4), some (.int z10.1), some (.int z10.2)]) (fun _ => σ) (fun _ => rfl) (fun _ => rfl) (e_ns_odds_53_L σ  a1 a2 a3 a4 ) 1000 (0, 0)) (fun _ => rfl) (fun e12 => ?_)
          refine ev_iload iX4_odds_91 rfl ?_
          refine ev_bipush iX4_odds_93 kB_10 ?_
          refine ev_iload iX4_odds_95 rfl ?_
          refine ev_SRI iX4_odds_97 kS_X4_199 (c_ns_inLowestTerms σ e12 10 a4) rfl rfl (Nat.le_of_ble_eq_true rfl) (sg_fitL (by decide) (Nat.le_of_ble_eq_true rfl)) (fun r13 => ?_)
          refine ev_iload_n iX4_odds_100 rfl rfl ?_
          refine ev_SRL iX4_odds_101 kS_X4_202 (c_ns_power σ r13 a3) rfl rfl (Nat.le_of_ble_eq_true rfl) (sg_fitL (by decide) (Nat.le_of_ble_eq_true rfl)) (fun r14 => ?_)
          exact ev_lret iX4_odds_104 rfl
def ns_feed_43_X (σ : sg_S)  (f1 : Int32) : ((Int32 × sg_S) ⊕ sg_S) → sg_X
  | .inl a => .inr (43, [some (.ref 0), some (.int f1), none, some (.int a.1)], a.2)
  | .inr e => .inr (73, [some (.ref 0), none, none, none], e)
def ns_feed_43_L (σ : sg_S)  (f1 : Int32) (a : (Int32 × sg_S)) : Option ((Int32 × sg_S) ⊕ sg_S) :=
  (if a.1 < 0 then some (.inr a.2) else ((tp_append a.2 ((jushr f1 (8 * a.1)) &&& 255)).bind fun r5 => (sg_leti (a.1 + (-1)) (fun x6 => some (.inl (x6, r5))))))
set_option maxRecDepth 20000 in
set_option maxHeartbeats 2000000 in
theorem e_ns_feed_43_L (σ : sg_S)  (f1 : Int32)  : ∀ a : (Int32 × sg_S), Ev mX4_feed (rmL 1) 43 [some (.ref 0), some (.int f1), none, some (.int a.1)] [] a.2 (ns_feed_43_X σ  f1) (ns_feed_43_L σ  f1 a) := by
  intro a
  unfold ns_feed_43_L
  refine ev_iload_n iX4_feed_43 rfl rfl ?_
  refine ev_if_lt iX4_feed_44 ?_ ?_
  · exact ev_exit rfl ⟨rfl, trivial⟩
  · refine ev_aload_n iX4_feed_47 rfl (by decide) rfl ?_
    refine ev_getR (k1 := 34) 4 4 iX4_feed_48 kF_X4_29 O_0 rfl (by decide) ?_
    refine ev_getR (k1 := 35) 0 0 iX4_feed_51 kF_X4_209 O_34 rfl (by decide) ?_
    refine ev_iload_n iX4_feed_54 rfl rfl ?_
    refine ev_bipush iX4_feed_55 kB_8 ?_
    refine ev_iload_n iX4_feed_57 rfl rfl ?_
    refine ev_imul iX4_feed_58 ?_
    refine ev_iushr iX4_feed_59 ?_
    refine ev_sipush iX4_feed_60 kH_255 ?_
    refine ev_iand iX4_feed_63 ?_
    refine ev_VMV iX4_feed_64 kV_X4_216 (c_tp_append a.2 ((jushr f1 (8 * a.1)) &&& 255)) rc_35 rfl rfl (Nat.le_of_ble_eq_true rfl) (sg_fitL (by decide) (Nat.le_of_ble_eq_true rfl)) (fun r5 => ?_)
    refine ev_iincN (fun x6 => [some (.ref 0), some (.int f1), none, some (.int x6)]) iX4_feed_67 rfl kI_m1 (Nat.le_of_ble_eq_true rfl) rfl (fun _ => rfl) (fun x6 => ?_)
    refine ev_goto iX4_feed_70 ?_
    exact ev_exit rfl ⟨rfl, rfl, rfl, trivial⟩
def ns_feed (σ : sg_S) (a1 : Int32) (a2 : Int32) : Option (Int32 × sg_S) :=
  (if a2 < 1 then ((ns_finding σ 0).bind fun r1 => some (r1.1, r1.2)) else (if 4 < a2 then ((ns_finding σ 0).bind fun r2 => some (r2.1, r2.2)) else (if 120 < ((σ 35 1) + a2) then ((ns_finding σ 1).bind fun r3 => some (r3.1, r3.2)) else sg_leti (a2 - 1) (fun x4 => ((sg_lp (ns_feed_43_L σ  a1) 1000 (x4, σ)).bind fun e9 => some ((e9 35 1), e9))))))
set_option maxRecDepth 20000 in
set_option maxHeartbeats 2000000 in
theorem c_ns_feed (σ : sg_S) (a1 : Int32) (a2 : Int32)  : sg_Call yX4_feed mX4_feed (rmL 1) [.ref 0, .int a1, .int a2] σ eMI (ns_feed σ a1 a2) := by
  refine sg_call_of (by decide +kernel) rfl (Nat.le_of_ble_eq_true rfl) rfl (fun _ => rfl) ?_
  refine ev_less (ls2 := [some (.ref 0), some (.int a1), some (.int a2), none]) ?_ ⟨rfl, rfl, rfl, trivial⟩
  unfold ns_feed
  refine ev_iload_n iX4_feed_0 rfl rfl ?_
  refine ev_iconst iX4_feed_1 kI_1 ?_
  refine ev_icmp_lt iX4_feed_2 ?_ ?_
  · refine ev_aload_n iX4_feed_10 rfl (by decide) rfl ?_
    refine ev_iconst iX4_feed_11 kI_0 ?_
    refine ev_VMI iX4_feed_12 kV_X4_48 (c_ns_finding σ 0) rc_0 rfl rfl (Nat.le_of_ble_eq_true rfl) (sg_fitL (by decide) (Nat.le_of_ble_eq_true rfl)) (fun r1 => ?_)
    exact ev_iret iX4_feed_15 rfl (narI rfl _)
  · refine ev_iload_n iX4_feed_5 rfl rfl ?_
    refine ev_iconst iX4_feed_6 kI_4 ?_
    refine ev_icmp_le iX4_feed_7 ?_ ?_
    · refine ev_aload_n iX4_feed_10 rfl (by decide) rfl ?_
      refine ev_iconst iX4_feed_11 kI_0 ?_
      refine ev_VMI iX4_feed_12 kV_X4_48 (c_ns_finding σ 0) rc_0 rfl rfl (Nat.le_of_ble_eq_true rfl) (sg_fitL (by decide) (Nat.le_of_ble_eq_true rfl)) (fun r2 => ?_)
      exact ev_iret iX4_feed_15 rfl (narI rfl _)
    · refine ev_aload_n iX4_feed_16 rfl (by decide) rfl ?_
      refine ev_getR (k1 := 34) 4 4 iX4_feed_17 kF_X4_29 O_0 rfl (by decide) ?_
      refine ev_getR (k1 := 35) 0 0 iX4_feed_20 kF_X4_209 O_34 rfl (by decide) ?_
      refine ev_getI 2 1 iX4_feed_23 kF_X4_213 O_35 rfl ?_
      refine ev_iload_n iX4_feed_26 rfl rfl ?_
      refine ev_iadd iX4_feed_27 ?_
      refine ev_bipush iX4_feed_28 kB_120 ?_
      refine ev_icmp_le iX4_feed_30 ?_ ?_
      · refine ev_aload_n iX4_feed_33 rfl (by decide) rfl ?_
        refine ev_iconst iX4_feed_34 kI_1 ?_
        refine ev_VMI iX4_feed_35 kV_X4_48 (c_ns_finding σ 1) rc_0 rfl rfl (Nat.le_of_ble_eq_true rfl) (sg_fitL (by decide) (Nat.le_of_ble_eq_true rfl)) (fun r3 => ?_)
        exact ev_iret iX4_feed_38 rfl (narI rfl _)
      · refine ev_iload_n iX4_feed_39 rfl rfl ?_
        refine ev_iconst iX4_feed_40 kI_1 ?_
        refine ev_isub iX4_feed_41 ?_
        refine ev_leti (fun x4 => ?_)
        refine ev_istore_n (ls2 := [some (.ref 0), some (.int a1), some (.int a2), some (.int x4)]) iX4_feed_42 rfl (Nat.le_of_ble_eq_true rfl) (Nat.le_of_ble_eq_true rfl) rfl rfl ?_
        refine ev_less (ls2 := [some (.ref 0), some (.int a1), none, some (.int x4)]) ?_ ⟨rfl, rfl, rfl, trivial⟩
        refine ev_seq1 73 (fun z8 => [some (.ref 0), none, none, none]) (fun z8 => z8) (ev_loop (embB := ns_feed_43_X σ  a1) (ex := fun b => ns_feed_43_X σ  a1 (.inr b)) 43 (fun z7 => [some (.ref 0), some (.int a1), none, some (.int z7.1)]) (fun z7 => z7.2) (fun _ => rfl) (fun _ => rfl) (e_ns_feed_43_L σ  a1 ) 1000 (x4, σ)) (fun _ => rfl) (fun e9 => ?_)
        refine ev_aload_n iX4_feed_73 rfl (by decide) rfl ?_
        refine ev_getR (k1 := 34) 4 4 iX4_feed_74 kF_X4_29 O_0 rfl (by decide) ?_
        refine ev_getR (k1 := 35) 0 0 iX4_feed_77 kF_X4_209 O_34 rfl (by decide) ?_
        refine ev_getI 2 1 iX4_feed_80 kF_X4_213 O_35 rfl ?_
        exact ev_iret iX4_feed_83 rfl (narI rfl _)
def ns_hold (σ : sg_S) (a1 : Int32) (a2 : Int32) : Option (Int32 × sg_S) :=
  ((ns_within σ a1 9).bind fun r1 => (if r1 = 0 then ((ns_finding σ 0).bind fun r2 => some (r2.1, r2.2)) else (if a2 = (-1) then (if sg_in a1 10 = true then sg_let (sg_st σ 11 a1.toNatClampNeg a2) (fun s3 => some (1, s3)) else none) else ((tn_isPerson σ 1 a2).bind fun r4 => (if r4 = 0 then ((ns_finding σ 0).bind fun r5 => some (r5.1, r5.2)) else (if sg_in a1 10 = true then sg_let (sg_st σ 11 a1.toNatClampNeg a2) (fun s6 => some (1, s6)) else none))))))
set_option maxRecDepth 20000 in
set_option maxHeartbeats 2000000 in
theorem c_ns_hold (σ : sg_S) (a1 : Int32) (a2 : Int32)  : sg_Call yX4_hold mX4_hold (rmL 1) [.ref 0, .int a1, .int a2] σ eMI (ns_hold σ a1 a2) := by
  refine sg_call_of (by decide +kernel) rfl (Nat.le_of_ble_eq_true rfl) rfl (fun _ => rfl) ?_
  refine ev_less (ls2 := [some (.ref 0), some (.int a1), some (.int a2)]) ?_ ⟨rfl, rfl, rfl, trivial⟩
  unfold ns_hold
  refine ev_iload_n iX4_hold_0 rfl rfl ?_
  refine ev_bipush iX4_hold_1 kB_9 ?_
  refine ev_SRI iX4_hold_3 kS_X4_44 (c_ns_within σ a1 9) rfl rfl (Nat.le_of_ble_eq_true rfl) (sg_fitL (by decide) (Nat.le_of_ble_eq_true rfl)) (fun r1 => ?_)
  refine ev_if_eq iX4_hold_6 ?_ ?_
  · refine ev_aload_n iX4_hold_25 rfl (by decide) rfl ?_
    refine ev_iconst iX4_hold_26 kI_0 ?_
    refine ev_VMI iX4_hold_27 kV_X4_48 (c_ns_finding σ 0) rc_0 rfl rfl (Nat.le_of_ble_eq_true rfl) (sg_fitL (by decide) (Nat.le_of_ble_eq_true rfl)) (fun r2 => ?_)
    exact ev_iret iX4_hold_30 rfl (narI rfl _)
  · refine ev_iload_n iX4_hold_9 rfl rfl ?_
    refine ev_iconst iX4_hold_10 kI_m1 ?_
    refine ev_icmp_eq iX4_hold_11 ?_ ?_
    · refine ev_aload_n iX4_hold_31 rfl (by decide) rfl ?_
      refine ev_getR (k1 := 1) 4 0 iX4_hold_32 kF_X4_10 O_0 rfl (by decide) ?_
      refine ev_getR (k1 := 11) 3 9 iX4_hold_35 kF_X4_223 O_1 rfl (by decide) ?_
      refine ev_iload_n iX4_hold_38 rfl rfl ?_
      refine ev_iload_n iX4_hold_39 rfl rfl ?_
      refine ev_iast iX4_hold_40 A_11 ?_
      refine ev_let (fun s3 => ?_)
      refine ev_iconst iX4_hold_41 kI_1 ?_
      exact ev_iret iX4_hold_42 rfl (fun ty _ => nar1 ty)
    · refine ev_aload_n iX4_hold_14 rfl (by decide) rfl ?_
      refine ev_getR (k1 := 1) 4 0 iX4_hold_15 kF_X4_10 O_0 rfl (by decide) ?_
      refine ev_iload_n iX4_hold_18 rfl rfl ?_
      refine ev_VRI iX4_hold_19 kV_X4_63 (c_tn_isPerson σ 1 a2 isT_1) (rc_T isT_1) rfl rfl (Nat.le_of_ble_eq_true rfl) (sg_fitL (by decide) (Nat.le_of_ble_eq_true rfl)) (fun r4 => ?_)
      refine ev_if_ne iX4_hold_22 ?_ ?_
      · refine ev_aload_n iX4_hold_25 rfl (by decide) rfl ?_
        refine ev_iconst iX4_hold_26 kI_0 ?_
        refine ev_VMI iX4_hold_27 kV_X4_48 (c_ns_finding σ 0) rc_0 rfl rfl (Nat.le_of_ble_eq_true rfl) (sg_fitL (by decide) (Nat.le_of_ble_eq_true rfl)) (fun r5 => ?_)
        exact ev_iret iX4_hold_30 rfl (narI rfl _)
      · refine ev_aload_n iX4_hold_31 rfl (by decide) rfl ?_
        refine ev_getR (k1 := 1) 4 0 iX4_hold_32 kF_X4_10 O_0 rfl (by decide) ?_
        refine ev_getR (k1 := 11) 3 9 iX4_hold_35 kF_X4_223 O_1 rfl (by decide) ?_
        refine ev_iload_n iX4_hold_38 rfl rfl ?_
        refine ev_iload_n iX4_hold_39 rfl rfl ?_
        refine ev_iast iX4_hold_40 A_11 ?_
        refine ev_let (fun s6 => ?_)
        refine ev_iconst iX4_hold_41 kI_1 ?_
        exact ev_iret iX4_hold_42 rfl (fun ty _ => nar1 ty)
def ns_isUnder_4_X (σ : sg_S)  (f1 : Int32) : ((Int32 × Int32) ⊕ Int32) → sg_X
  | .inl a => .inr (4, [none, some (.int f1), some (.int a.1), some (.int a.2)], σ)
  | .inr e => .inr (26, [none, some (.int f1), some (.int e), none], σ)
def ns_isUnder_4_L (σ : sg_S)  (f1 : Int32) (a : (Int32 × Int32)) : Option ((Int32 × Int32) ⊕ Int32) :=
  (if a.2 < 7 then (if a.1 = f1 then some (.inr a.1) else ((ns_kindAbove σ a.1).bind fun r1 => some (.inl (r1, (a.2 + 1))))) else some (.inr a.1))
set_option maxRecDepth 20000 in
set_option maxHeartbeats 2000000 in
theorem e_ns_isUnder_4_L (σ : sg_S)  (f1 : Int32)  : ∀ a : (Int32 × Int32), Ev mX4_isUnder (rmL 1) 4 [none, some (.int f1), some (.int a.1), some (.int a.2)] [] σ (ns_isUnder_4_X σ  f1) (ns_isUnder_4_L σ  f1 a) := by
  intro a
  unfold ns_isUnder_4_L
  refine ev_iload_n iX4_isUnder_4 rfl rfl ?_
  refine ev_bipush iX4_isUnder_5 kB_7 ?_
  refine ev_icmp_ge iX4_isUnder_7 ?_ ?_
  · refine ev_iload_n iX4_isUnder_10 rfl rfl ?_
    refine ev_iload_n iX4_isUnder_11 rfl rfl ?_
    refine ev_icmp_eq iX4_isUnder_12 ?_ ?_
    · exact ev_exit rfl ⟨rfl, rfl, trivial⟩
    · refine ev_iload_n iX4_isUnder_15 rfl rfl ?_
      refine ev_SRI iX4_isUnder_16 kS_X4_229 (c_ns_kindAbove σ a.1) rfl rfl (Nat.le_of_ble_eq_true rfl) (sg_fitL (by decide) (Nat.le_of_ble_eq_true rfl)) (fun r1 => ?_)
      refine ev_istore_n (ls2 := [none, some (.int f1), some (.int r1), some (.int a.2)]) iX4_isUnder_19 rfl (Nat.le_of_ble_eq_true rfl) (Nat.le_of_ble_eq_true rfl) rfl rfl ?_
      refine ev_iinc (v := (a.2 + 1)) (ls2 := [none, some (.int f1), some (.int r1), some (.int (a.2 + 1))]) iX4_isUnder_20 rfl (by rw [kI_1]) (Nat.le_of_ble_eq_true rfl) rfl rfl ?_
      refine ev_goto iX4_isUnder_23 ?_
      exact ev_exit rfl ⟨rfl, rfl, rfl, trivial⟩
  · exact ev_exit rfl ⟨rfl, rfl, trivial⟩
def ns_isUnder (σ : sg_S) (a0 : Int32) (a1 : Int32) : Option Int32 :=
  ((sg_lp (ns_isUnder_4_L σ  a1) 1000 (a0, 0)).bind fun e4 => (if e4 = a1 then some 1 else some 0))
set_option maxRecDepth 20000 in
set_option maxHeartbeats 2000000 in
theorem c_ns_isUnder (σ : sg_S) (a0 : Int32) (a1 : Int32)  : sg_Call yX4_isUnder mX4_isUnder (rmL 1) [.int a0, .int a1] σ (eRI σ) (ns_isUnder σ a0 a1) := by
  refine sg_call_of (by decide +kernel) rfl (Nat.le_of_ble_eq_true rfl) rfl (fun _ => rfl) ?_
  refine ev_less (ls2 := [some (.int a0), some (.int a1), none, none]) ?_ ⟨rfl, rfl, trivial⟩
  unfold ns_isUnder
  refine ev_iload_n iX4_isUnder_0 rfl rfl ?_
  refine ev_istore_n (ls2 := [some (.int a0), some (.int a1), some (.int a0), none]) iX4_isUnder_1 rfl (Nat.le_of_ble_eq_true rfl) (Nat.le_of_ble_eq_true rfl) rfl rfl ?_
  refine ev_iconst iX4_isUnder_2 kI_0 ?_
  refine ev_istore_n (ls2 := [some (.int a0), some (.int a1), some (.int a0), some (.int 0)]) iX4_isUnder_3 rfl (Nat.le_of_ble_eq_true rfl) (Nat.le_of_ble_eq_true rfl) rfl rfl ?_
  refine ev_less (ls2 := [none, some (.int a1), some (.int a0), some (.int 0)]) ?_ ⟨rfl, rfl, rfl, trivial⟩
  refine ev_seq1 26 (fun z3 => [none, some (.int a1), some (.int z3), none]) (fun _ => σ) (ev_loop (embB := ns_isUnder_4_X σ  a1) (ex := fun b => ns_isUnder_4_X σ  a1 (.inr b)) 4 (fun z2 => [none, some (.int a1), some (.int z2.1), some (.int z2.2)]) (fun _ => σ) (fun _ => rfl) (fun _ => rfl) (e_ns_isUnder_4_L σ  a1 ) 1000 (a0, 0)) (fun _ => rfl) (fun e4 => ?_)
  refine ev_iload_n iX4_isUnder_26 rfl rfl ?_
  refine ev_iload_n iX4_isUnder_27 rfl rfl ?_
  refine ev_icmp_ne iX4_isUnder_28 ?_ ?_
  · refine ev_iconst iX4_isUnder_31 kI_1 ?_
    refine ev_goto iX4_isUnder_32 ?_
    exact ev_iret iX4_isUnder_36 rfl (fun ty _ => nar1 ty)
  · refine ev_iconst iX4_isUnder_35 kI_0 ?_
    exact ev_iret iX4_isUnder_36 rfl (fun ty _ => nar0 ty)
def ns_write (σ : sg_S) (a1 : Int32) (a2 : Int32) (a3 : Int32) : Option (Int32 × sg_S) :=
  ((ns_within σ a1 3).bind fun r1 => (if r1 = 0 then ((ns_finding σ 0).bind fun r2 => some (r2.1, r2.2)) else (if sg_in a1 4 = true then (if (σ (53 + 2 * a1.toNatClampNeg) 1) = 0 then ((ns_finding σ 5).bind fun r4 => some (r4.1, r4.2)) else (if sg_in a1 4 = true then ((ns_within σ a2 ((σ (53 + 2 * a1.toNatClampNeg) 2) - 1)).bind fun r6 => (if r6 = 0 then ((ns_finding σ 0).bind fun r7 => some (r7.1, r7.2)) else (if sg_in a1 4 = true then ((sh_put σ (53 + 2 * a1.toNatClampNeg) a2 a3).bind fun r9 => some (1, r9)) else none))) else none)) else none)))
set_option maxRecDepth 20000 in
set_option maxHeartbeats 2000000 in
theorem c_ns_write (σ : sg_S) (a1 : Int32) (a2 : Int32) (a3 : Int32)  : sg_Call yX4_write mX4_write (rmL 1) [.ref 0, .int a1, .int a2, .int a3] σ eMI (ns_write σ a1 a2 a3) := by
  refine sg_call_of (by decide +kernel) rfl (Nat.le_of_ble_eq_true rfl) rfl (fun _ => rfl) ?_
  refine ev_less (ls2 := [some (.ref 0), some (.int a1), some (.int a2), some (.int a3)]) ?_ ⟨rfl, rfl, rfl, rfl, trivial⟩
  unfold ns_write
  refine ev_iload_n iX4_write_0 rfl rfl ?_
  refine ev_iconst iX4_write_1 kI_3 ?_
  refine ev_SRI iX4_write_2 kS_X4_44 (c_ns_within σ a1 3) rfl rfl (Nat.le_of_ble_eq_true rfl) (sg_fitL (by decide) (Nat.le_of_ble_eq_true rfl)) (fun r1 => ?_)
  refine ev_if_ne iX4_write_5 ?_ ?_
  · refine ev_aload_n iX4_write_8 rfl (by decide) rfl ?_
    refine ev_iconst iX4_write_9 kI_0 ?_
    refine ev_VMI iX4_write_10 kV_X4_48 (c_ns_finding σ 0) rc_0 rfl rfl (Nat.le_of_ble_eq_true rfl) (sg_fitL (by decide) (Nat.le_of_ble_eq_true rfl)) (fun r2 => ?_)
    exact ev_iret iX4_write_13 rfl (narI rfl _)
  · refine ev_aload_n iX4_write_14 rfl (by decide) rfl ?_
    refine ev_getR (k1 := 52) 4 5 iX4_write_15 kF_X4_35 O_0 rfl (by decide) ?_
    refine ev_iload_n iX4_write_18 rfl rfl ?_
    refine ev_aaldS iX4_write_19 (fun h3 => ?_)
    refine ev_getI 1 1 iX4_write_20 kF_X4_173 (isS_O (sg_isS_of h3)) rfl ?_
    refine ev_if_ne iX4_write_23 ?_ ?_
    · refine ev_aload_n iX4_write_26 rfl (by decide) rfl ?_
      refine ev_iconst iX4_write_27 kI_5 ?_
      refine ev_VMI iX4_write_28 kV_X4_48 (c_ns_finding σ 5) rc_0 rfl rfl (Nat.le_of_ble_eq_true rfl) (sg_fitL (by decide) (Nat.le_of_ble_eq_true rfl)) (fun r4 => ?_)
      exact ev_iret iX4_write_31 rfl (narI rfl _)
    · refine ev_iload_n iX4_write_32 rfl rfl ?_
      refine ev_aload_n iX4_write_33 rfl (by decide) rfl ?_
      refine ev_getR (k1 := 52) 4 5 iX4_write_34 kF_X4_35 O_0 rfl (by decide) ?_
      refine ev_iload_n iX4_write_37 rfl rfl ?_
      refine ev_aaldS iX4_write_38 (fun h5 => ?_)
      refine ev_getI 1 2 iX4_write_39 kF_X4_183 (isS_O (sg_isS_of h5)) rfl ?_
      refine ev_iconst iX4_write_42 kI_1 ?_
      refine ev_isub iX4_write_43 ?_
      refine ev_SRI iX4_write_44 kS_X4_44 (c_ns_within σ a2 ((σ (53 + 2 * a1.toNatClampNeg) 2) - 1)) rfl rfl (Nat.le_of_ble_eq_true rfl) (sg_fitL (by decide) (Nat.le_of_ble_eq_true rfl)) (fun r6 => ?_)
      refine ev_if_ne iX4_write_47 ?_ ?_
      · refine ev_aload_n iX4_write_50 rfl (by decide) rfl ?_
        refine ev_iconst iX4_write_51 kI_0 ?_
        refine ev_VMI iX4_write_52 kV_X4_48 (c_ns_finding σ 0) rc_0 rfl rfl (Nat.le_of_ble_eq_true rfl) (sg_fitL (by decide) (Nat.le_of_ble_eq_true rfl)) (fun r7 => ?_)
        exact ev_iret iX4_write_55 rfl (narI rfl _)
      · refine ev_aload_n iX4_write_56 rfl (by decide) rfl ?_
        refine ev_getR (k1 := 52) 4 5 iX4_write_57 kF_X4_35 O_0 rfl (by decide) ?_
        refine ev_iload_n iX4_write_60 rfl rfl ?_
        refine ev_aaldS iX4_write_61 (fun h8 => ?_)
        refine ev_iload_n iX4_write_62 rfl rfl ?_
        refine ev_iload_n iX4_write_63 rfl rfl ?_
        refine ev_VMV iX4_write_64 kV_X4_235 (c_sh_put σ (53 + 2 * a1.toNatClampNeg) a2 a3 (sg_isS_of h8)) (rc_S (sg_isS_of h8)) rfl rfl (Nat.le_of_ble_eq_true rfl) (sg_fitL (by decide) (Nat.le_of_ble_eq_true rfl)) (fun r9 => ?_)
        refine ev_iconst iX4_write_67 kI_1 ?_
        exact ev_iret iX4_write_68 rfl (fun ty _ => nar1 ty)
def ns_copy (σ : sg_S) (a1 : Int32) (a2 : Int32) (a3 : Int32) (a4 : Int32) (a5 : Int32) : Option (Int32 × sg_S) :=
  ((ns_within σ a1 3).bind fun r1 => (if r1 = 0 then ((ns_finding σ 0).bind fun r2 => some (r2.1, r2.2)) else ((ns_within σ a3 3).bind fun r3 => (if r3 = 0 then ((ns_finding σ 0).bind fun r4 => some (r4.1, r4.2)) else (if sg_in a1 4 = true then (if (σ (53 + 2 * a1.toNatClampNeg) 1) = 0 then ((ns_finding σ 5).bind fun r6 => some (r6.1, r6.2)) else (if sg_in a3 4 = true then (if (σ (53 + 2 * a3.toNatClampNeg) 1) = 0 then ((ns_finding σ 5).bind fun r8 => some (r8.1, r8.2)) else (if sg_in a1 4 = true then (if sg_in a3 4 = true then (if (σ (53 + 2 * a1.toNatClampNeg) 1) = (σ (53 + 2 * a3.toNatClampNeg) 1) then (if sg_in a1 4 = true then ((sh_has σ (53 + 2 * a1.toNatClampNeg) a2 a5).bind fun r12 => (if r12 = 0 then ((ns_finding σ 0).bind fun r13 => some (r13.1, r13.2)) else (if sg_in a3 4 = true then ((sh_has σ (53 + 2 * a3.toNatClampNeg) a4 a5).bind fun r15 => (if r15 = 0 then ((ns_finding σ 0).bind fun r16 => some (r16.1, r16.2)) else (if sg_in a1 4 = true then (if sg_in a3 4 = true then (if sg_cp a2 a4 a5 40 40 = true then sg_let (sg_cpy σ ((53 + 2 * a1.toNatClampNeg) + 1) ((53 + 2 * a3.toNatClampNeg) + 1) a2 a4 a5) (fun s19 => some (a5, s19)) else none) else none) else none))) else none))) else none) else ((ns_finding σ 2).bind fun r20 => some (r20.1, r20.2))) else none) else none)) else none)) else none)))))
set_option maxRecDepth 20000 in
set_option maxHeartbeats 2000000 in
theorem c_ns_copy (σ : sg_S) (a1 : Int32) (a2 : Int32) (a3 : Int32) (a4 : Int32) (a5 : Int32)  : sg_Call yX4_copy mX4_copy (rmL 1) [.ref 0, .int a1, .int a2, .int a3, .int a4, .int a5] σ eMI (ns_copy σ a1 a2 a3 a4 a5) := by
  refine sg_call_of (by decide +kernel) rfl (Nat.le_of_ble_eq_true rfl) rfl (fun _ => rfl) ?_
  refine ev_less (ls2 := [some (.ref 0), some (.int a1), some (.int a2), some (.int a3), some (.int a4), some (.int a5)]) ?_ ⟨rfl, rfl, rfl, rfl, rfl, rfl, trivial⟩
  unfold ns_copy
  refine ev_iload_n iX4_copy_0 rfl rfl ?_
  refine ev_iconst iX4_copy_1 kI_3 ?_
  refine ev_SRI iX4_copy_2 kS_X4_44 (c_ns_within σ a1 3) rfl rfl (Nat.le_of_ble_eq_true rfl) (sg_fitL (by decide) (Nat.le_of_ble_eq_true rfl)) (fun r1 => ?_)
  refine ev_if_eq iX4_copy_5 ?_ ?_
  · refine ev_aload_n iX4_copy_16 rfl (by decide) rfl ?_
    refine ev_iconst iX4_copy_17 kI_0 ?_
    refine ev_VMI iX4_copy_18 kV_X4_48 (c_ns_finding σ 0) rc_0 rfl rfl (Nat.le_of_ble_eq_true rfl) (sg_fitL (by decide) (Nat.le_of_ble_eq_true rfl)) (fun r2 => ?_)
    exact ev_iret iX4_copy_21 rfl (narI rfl _)
  · refine ev_iload_n iX4_copy_8 rfl rfl ?_
    refine ev_iconst iX4_copy_9 kI_3 ?_
    refine ev_SRI iX4_copy_10 kS_X4_44 (c_ns_within σ a3 3) rfl rfl (Nat.le_of_ble_eq_true rfl) (sg_fitL (by decide) (Nat.le_of_ble_eq_true rfl)) (fun r3 => ?_)
    refine ev_if_ne iX4_copy_13 ?_ ?_
    · refine ev_aload_n iX4_copy_16 rfl (by decide) rfl ?_
      refine ev_iconst iX4_copy_17 kI_0 ?_
      refine ev_VMI iX4_copy_18 kV_X4_48 (c_ns_finding σ 0) rc_0 rfl rfl (Nat.le_of_ble_eq_true rfl) (sg_fitL (by decide) (Nat.le_of_ble_eq_true rfl)) (fun r4 => ?_)
      exact ev_iret iX4_copy_21 rfl (narI rfl _)
    · refine ev_aload_n iX4_copy_22 rfl (by decide) rfl ?_
      refine ev_getR (k1 := 52) 4 5 iX4_copy_23 kF_X4_35 O_0 rfl (by decide) ?_
      refine ev_iload_n iX4_copy_26 rfl rfl ?_
      refine ev_aaldS iX4_copy_27 (fun h5 => ?_)
      refine ev_getI 1 1 iX4_copy_28 kF_X4_173 (isS_O (sg_isS_of h5)) rfl ?_
      refine ev_if_eq iX4_copy_31 ?_ ?_
      · refine ev_aload_n iX4_copy_46 rfl (by decide) rfl ?_
        refine ev_iconst iX4_copy_47 kI_5 ?_
        refine ev_VMI iX4_copy_48 kV_X4_48 (c_ns_finding σ 5) rc_0 rfl rfl (Nat.le_of_ble_eq_true rfl) (sg_fitL (by decide) (Nat.le_of_ble_eq_true rfl)) (fun r6 => ?_)
        exact ev_iret iX4_copy_51 rfl (narI rfl _)
      · refine ev_aload_n iX4_copy_34 rfl (by decide) rfl ?_
        refine ev_getR (k1 := 52) 4 5 iX4_copy_35 kF_X4_35 O_0 rfl (by decide) ?_
        refine ev_iload_n iX4_copy_38 rfl rfl ?_
        refine ev_aaldS iX4_copy_39 (fun h7 => ?_)
        refine ev_getI 1 1 iX4_copy_40 kF_X4_173 (isS_O (sg_isS_of h7)) rfl ?_
        refine ev_if_ne iX4_copy_43 ?_ ?_
        · refine ev_aload_n iX4_copy_46 rfl (by decide) rfl ?_
          refine ev_iconst iX4_copy_47 kI_5 ?_
          refine ev_VMI iX4_copy_48 kV_X4_48 (c_ns_finding σ 5) rc_0 rfl rfl (Nat.le_of_ble_eq_true rfl) (sg_fitL (by decide) (Nat.le_of_ble_eq_true rfl)) (fun r8 => ?_)
          exact ev_iret iX4_copy_51 rfl (narI rfl _)
        · refine ev_aload_n iX4_copy_52 rfl (by decide) rfl ?_
          refine ev_getR (k1 := 52) 4 5 iX4_copy_53 kF_X4_35 O_0 rfl (by decide) ?_
          refine ev_iload_n iX4_copy_56 rfl rfl ?_
          refine ev_aaldS iX4_copy_57 (fun h9 => ?_)
          refine ev_getI 1 1 iX4_copy_58 kF_X4_173 (isS_O (sg_isS_of h9)) rfl ?_
          refine ev_aload_n iX4_copy_61 rfl (by decide) rfl ?_
          refine ev_getR (k1 := 52) 4 5 iX4_copy_62 kF_X4_35 O_0 rfl (by decide) ?_
          refine ev_iload_n iX4_copy_65 rfl rfl ?_
          refine ev_aaldS iX4_copy_66 (fun h10 => ?_)
          refine ev_getI 1 1 iX4_copy_67 kF_X4_173 (isS_O (sg_isS_of h10)) rfl ?_
          refine ev_icmp_eq iX4_copy_70 ?_ ?_
          · refine ev_aload_n iX4_copy_79 rfl (by decide) rfl ?_
            refine ev_getR (k1 := 52) 4 5 iX4_copy_80 kF_X4_35 O_0 rfl (by decide) ?_
            refine ev_iload_n iX4_copy_83 rfl rfl ?_
            refine ev_aaldS iX4_copy_84 (fun h11 => ?_)
            refine ev_iload_n iX4_copy_85 rfl rfl ?_
            refine ev_iload iX4_copy_86 rfl ?_
            refine ev_VRI iX4_copy_88 kV_X4_238 (c_sh_has σ (53 + 2 * a1.toNatClampNeg) a2 a5 (sg_isS_of h11)) (rc_S (sg_isS_of h11)) rfl rfl (Nat.le_of_ble_eq_true rfl) (sg_fitL (by decide) (Nat.le_of_ble_eq_true rfl)) (fun r12 => ?_)
            refine ev_if_eq iX4_copy_91 ?_ ?_
            · refine ev_aload_n iX4_copy_110 rfl (by decide) rfl ?_
              refine ev_iconst iX4_copy_111 kI_0 ?_
              refine ev_VMI iX4_copy_112 kV_X4_48 (c_ns_finding σ 0) rc_0 rfl rfl (Nat.le_of_ble_eq_true rfl) (sg_fitL (by decide) (Nat.le_of_ble_eq_true rfl)) (fun r13 => ?_)
              exact ev_iret iX4_copy_115 rfl (narI rfl _)
            · refine ev_aload_n iX4_copy_94 rfl (by decide) rfl ?_
              refine ev_getR (k1 := 52) 4 5 iX4_copy_95 kF_X4_35 O_0 rfl (by decide) ?_
              refine ev_iload_n iX4_copy_98 rfl rfl ?_
              refine ev_aaldS iX4_copy_99 (fun h14 => ?_)
              refine ev_iload iX4_copy_100 rfl ?_
              refine ev_iload iX4_copy_102 rfl ?_
              refine ev_VRI iX4_copy_104 kV_X4_238 (c_sh_has σ (53 + 2 * a3.toNatClampNeg) a4 a5 (sg_isS_of h14)) (rc_S (sg_isS_of h14)) rfl rfl (Nat.le_of_ble_eq_true rfl) (sg_fitL (by decide) (Nat.le_of_ble_eq_true rfl)) (fun r15 => ?_)
              refine ev_if_ne iX4_copy_107 ?_ ?_
              · refine ev_aload_n iX4_copy_110 rfl (by decide) rfl ?_
                refine ev_iconst iX4_copy_111 kI_0 ?_
                refine ev_VMI iX4_copy_112 kV_X4_48 (c_ns_finding σ 0) rc_0 rfl rfl (Nat.le_of_ble_eq_true rfl) (sg_fitL (by decide) (Nat.le_of_ble_eq_true rfl)) (fun r16 => ?_)
                exact ev_iret iX4_copy_115 rfl (narI rfl _)
              · refine ev_aload_n iX4_copy_116 rfl (by decide) rfl ?_
                refine ev_getR (k1 := 52) 4 5 iX4_copy_117 kF_X4_35 O_0 rfl (by decide) ?_
                refine ev_iload_n iX4_copy_120 rfl rfl ?_
                refine ev_aaldS iX4_copy_121 (fun h17 => ?_)
                refine ev_getR (k1 := ((53 + 2 * a1.toNatClampNeg) + 1)) 1 0 iX4_copy_122 kF_X4_241 (isS_O (sg_isS_of h17)) rfl (isS_ne1 (sg_isS_of h17)) ?_
                refine ev_iload_n iX4_copy_125 rfl rfl ?_
                refine ev_aload_n iX4_copy_126 rfl (by decide) rfl ?_
                refine ev_getR (k1 := 52) 4 5 iX4_copy_127 kF_X4_35 O_0 rfl (by decide) ?_
                refine ev_iload_n iX4_copy_130 rfl rfl ?_
                refine ev_aaldS iX4_copy_131 (fun h18 => ?_)
                refine ev_getR (k1 := ((53 + 2 * a3.toNatClampNeg) + 1)) 1 0 iX4_copy_132 kF_X4_241 (isS_O (sg_isS_of h18)) rfl (isS_ne1 (sg_isS_of h18)) ?_
                refine ev_iload iX4_copy_135 rfl ?_
                refine ev_iload iX4_copy_137 rfl ?_
                refine ev_acopy iX4_copy_139 kA_X4_244 kA_n kA_s kA_i (isS_A (sg_isS_of h17)) (isS_A (sg_isS_of h18)) (Nat.le_of_ble_eq_true rfl) ⟨Nat.le_of_ble_eq_true rfl, Nat.le_of_ble_eq_true rfl⟩ ?_
                refine ev_let (fun s19 => ?_)
                refine ev_iload iX4_copy_142 rfl ?_
                exact ev_iret iX4_copy_144 rfl (narI rfl _)
          · refine ev_aload_n iX4_copy_73 rfl (by decide) rfl ?_
            refine ev_iconst iX4_copy_74 kI_2 ?_
            refine ev_VMI iX4_copy_75 kV_X4_48 (c_ns_finding σ 2) rc_0 rfl rfl (Nat.le_of_ble_eq_true rfl) (sg_fitL (by decide) (Nat.le_of_ble_eq_true rfl)) (fun r20 => ?_)
            exact ev_iret iX4_copy_78 rfl (narI rfl _)
def ns_load_54_X (σ : sg_S)  (f1 : Int32) (f2 : Int32) : ((Int32 × sg_S) ⊕ (Int32 × sg_S)) → sg_X
  | .inl a => .inr (54, [some (.ref 0), some (.int f1), some (.int f2), some (.int a.1)], a.2)
  | .inr e => .inr (104, [none, none, none, some (.int e.1)], e.2)
def ns_load_54_L (σ : sg_S)  (f1 : Int32) (f2 : Int32) (a : (Int32 × sg_S)) : Option ((Int32 × sg_S) ⊕ (Int32 × sg_S)) :=
  (if a.1 < f2 then (if sg_in f1 4 = true then (if sg_in a.1 40 = true then ((ns_within a.2 (a.2 ((53 + 2 * f1.toNatClampNeg) + 1) a.1.toNatClampNeg) 9).bind fun r8 => (if r8 = 0 then some (.inr (a.1, a.2)) else (if sg_in f1 4 = true then (if sg_in a.1 40 = true then (if sg_in a.1 8 = true then sg_let (sg_st a.2 4 a.1.toNatClampNeg (a.2 ((53 + 2 * f1.toNatClampNeg) + 1) a.1.toNatClampNeg)) (fun s10 => some (.inl ((a.1 + 1), s10))) else none) else none) else none))) else none) else none) else some (.inr (a.1, a.2)))
set_option maxRecDepth 20000 in
set_option maxHeartbeats 2000000 in
theorem e_ns_load_54_L (σ : sg_S)  (f1 : Int32) (f2 : Int32)  : ∀ a : (Int32 × sg_S), Ev mX4_load (rmL 1) 54 [some (.ref 0), some (.int f1), some (.int f2), some (.int a.1)] [] a.2 (ns_load_54_X σ  f1 f2) (ns_load_54_L σ  f1 f2 a) := by
  intro a
  unfold ns_load_54_L
  refine ev_iload_n iX4_load_54 rfl rfl ?_
  refine ev_iload_n iX4_load_55 rfl rfl ?_
  refine ev_icmp_ge iX4_load_56 ?_ ?_
  · refine ev_aload_n iX4_load_59 rfl (by decide) rfl ?_
    refine ev_getR (k1 := 52) 4 5 iX4_load_60 kF_X4_35 O_0 rfl (by decide) ?_
    refine ev_iload_n iX4_load_63 rfl rfl ?_
    refine ev_aaldS iX4_load_64 (fun h7 => ?_)
    refine ev_getR (k1 := ((53 + 2 * f1.toNatClampNeg) + 1)) 1 0 iX4_load_65 kF_X4_241 (isS_O (sg_isS_of h7)) rfl (isS_ne1 (sg_isS_of h7)) ?_
    refine ev_iload_n iX4_load_68 rfl rfl ?_
    refine ev_iald iX4_load_69 (isS_A (sg_isS_of h7)) ?_
    refine ev_bipush iX4_load_70 kB_9 ?_
    refine ev_SRI iX4_load_72 kS_X4_44 (c_ns_within a.2 (a.2 ((53 + 2 * f1.toNatClampNeg) + 1) a.1.toNatClampNeg) 9) rfl rfl (Nat.le_of_ble_eq_true rfl) (sg_fitL (by decide) (Nat.le_of_ble_eq_true rfl)) (fun r8 => ?_)
    refine ev_if_eq iX4_load_75 ?_ ?_
    · exact ev_exit rfl ⟨rfl, trivial⟩
    · refine ev_aload_n iX4_load_78 rfl (by decide) rfl ?_
      refine ev_getR (k1 := 1) 4 0 iX4_load_79 kF_X4_10 O_0 rfl (by decide) ?_
      refine ev_getR (k1 := 4) 3 2 iX4_load_82 kF_X4_76 O_1 rfl (by decide) ?_
      refine ev_iload_n iX4_load_85 rfl rfl ?_
      refine ev_aload_n iX4_load_86 rfl (by decide) rfl ?_
      refine ev_getR (k1 := 52) 4 5 iX4_load_87 kF_X4_35 O_0 rfl (by decide) ?_
      refine ev_iload_n iX4_load_90 rfl rfl ?_
      refine ev_aaldS iX4_load_91 (fun h9 => ?_)
      refine ev_getR (k1 := ((53 + 2 * f1.toNatClampNeg) + 1)) 1 0 iX4_load_92 kF_X4_241 (isS_O (sg_isS_of h9)) rfl (isS_ne1 (sg_isS_of h9)) ?_
      refine ev_iload_n iX4_load_95 rfl rfl ?_
      refine ev_iald iX4_load_96 (isS_A (sg_isS_of h9)) ?_
      refine ev_iast iX4_load_97 A_4 ?_
      refine ev_let (fun s10 => ?_)
      refine ev_iinc (v := (a.1 + 1)) (ls2 := [some (.ref 0), some (.int f1), some (.int f2), some (.int (a.1 + 1))]) iX4_load_98 rfl (by rw [kI_1]) (Nat.le_of_ble_eq_true rfl) rfl rfl ?_
      refine ev_goto iX4_load_101 ?_
      exact ev_exit rfl ⟨rfl, rfl, rfl, rfl, trivial⟩
  · exact ev_exit rfl ⟨rfl, trivial⟩
def ns_load (σ : sg_S) (a1 : Int32) : Option (Int32 × sg_S) :=
  ((ns_within σ a1 3).bind fun r1 => (if r1 = 0 then ((ns_finding σ 0).bind fun r2 => some (r2.1, r2.2)) else (if sg_in a1 4 = true then (if (σ (53 + 2 * a1.toNatClampNeg) 1) = 0 then ((ns_finding σ 5).bind fun r4 => some (r4.1, r4.2)) else (if sg_in a1 4 = true then sg_leti (jmin (σ (53 + 2 * a1.toNatClampNeg) 2) (σ 1 10)) (fun x6 => ((sg_lp (ns_load_54_L σ  a1 x6) 1000 (0, σ)).bind fun e13 => some (e13.1, e13.2))) else none)) else none)))
set_option maxRecDepth 20000 in
set_option maxHeartbeats 2000000 in
theorem c_ns_load (σ : sg_S) (a1 : Int32)  : sg_Call yX4_load mX4_load (rmL 1) [.ref 0, .int a1] σ eMI (ns_load σ a1) := by
  refine sg_call_of (by decide +kernel) rfl (Nat.le_of_ble_eq_true rfl) rfl (fun _ => rfl) ?_
  refine ev_less (ls2 := [some (.ref 0), some (.int a1), none, none]) ?_ ⟨rfl, rfl, trivial⟩
  unfold ns_load
  refine ev_iload_n iX4_load_0 rfl rfl ?_
  refine ev_iconst iX4_load_1 kI_3 ?_
  refine ev_SRI iX4_load_2 kS_X4_44 (c_ns_within σ a1 3) rfl rfl (Nat.le_of_ble_eq_true rfl) (sg_fitL (by decide) (Nat.le_of_ble_eq_true rfl)) (fun r1 => ?_)
  refine ev_if_ne iX4_load_5 ?_ ?_
  · refine ev_aload_n iX4_load_8 rfl (by decide) rfl ?_
    refine ev_iconst iX4_load_9 kI_0 ?_
    refine ev_VMI iX4_load_10 kV_X4_48 (c_ns_finding σ 0) rc_0 rfl rfl (Nat.le_of_ble_eq_true rfl) (sg_fitL (by decide) (Nat.le_of_ble_eq_true rfl)) (fun r2 => ?_)
    exact ev_iret iX4_load_13 rfl (narI rfl _)
  · refine ev_aload_n iX4_load_14 rfl (by decide) rfl ?_
    refine ev_getR (k1 := 52) 4 5 iX4_load_15 kF_X4_35 O_0 rfl (by decide) ?_
    refine ev_iload_n iX4_load_18 rfl rfl ?_
    refine ev_aaldS iX4_load_19 (fun h3 => ?_)
    refine ev_getI 1 1 iX4_load_20 kF_X4_173 (isS_O (sg_isS_of h3)) rfl ?_
    refine ev_if_ne iX4_load_23 ?_ ?_
    · refine ev_aload_n iX4_load_26 rfl (by decide) rfl ?_
      refine ev_iconst iX4_load_27 kI_5 ?_
      refine ev_VMI iX4_load_28 kV_X4_48 (c_ns_finding σ 5) rc_0 rfl rfl (Nat.le_of_ble_eq_true rfl) (sg_fitL (by decide) (Nat.le_of_ble_eq_true rfl)) (fun r4 => ?_)
      exact ev_iret iX4_load_31 rfl (narI rfl _)
    · refine ev_aload_n iX4_load_32 rfl (by decide) rfl ?_
      refine ev_getR (k1 := 52) 4 5 iX4_load_33 kF_X4_35 O_0 rfl (by decide) ?_
      refine ev_iload_n iX4_load_36 rfl rfl ?_
      refine ev_aaldS iX4_load_37 (fun h5 => ?_)
      refine ev_getI 1 2 iX4_load_38 kF_X4_183 (isS_O (sg_isS_of h5)) rfl ?_
      refine ev_aload_n iX4_load_41 rfl (by decide) rfl ?_
      refine ev_getR (k1 := 1) 4 0 iX4_load_42 kF_X4_10 O_0 rfl (by decide) ?_
      refine ev_getI 3 10 iX4_load_45 kF_X4_55 O_1 rfl ?_
      refine ev_min iX4_load_48 kM_X4_250 kM_s kM_i kM_c (Nat.le_of_ble_eq_true rfl) ⟨Nat.le_of_ble_eq_true rfl, Nat.le_of_ble_eq_true rfl⟩ ?_
      refine ev_leti (fun x6 => ?_)
      refine ev_istore_n (ls2 := [some (.ref 0), some (.int a1), some (.int x6), none]) iX4_load_51 rfl (Nat.le_of_ble_eq_true rfl) (Nat.le_of_ble_eq_true rfl) rfl rfl ?_
      refine ev_iconst iX4_load_52 kI_0 ?_
      refine ev_istore_n (ls2 := [some (.ref 0), some (.int a1), some (.int x6), some (.int 0)]) iX4_load_53 rfl (Nat.le_of_ble_eq_true rfl) (Nat.le_of_ble_eq_true rfl) rfl rfl ?_
      refine ev_less (ls2 := [some (.ref 0), some (.int a1), some (.int x6), some (.int 0)]) ?_ ⟨rfl, rfl, rfl, rfl, trivial⟩
      refine ev_seq1 104 (fun z12 => [none, none, none, some (.int z12.1)]) (fun z12 => z12.2) (ev_loop (embB := ns_load_54_X σ  a1 x6) (ex := fun b => ns_load_54_X σ  a1 x6 (.inr b)) 54 (fun z11 => [some (.ref 0), some (.int a1), some (.int x6), some (.int z11.1)]) (fun z11 => z11.2) (fun _ => rfl) (fun _ => rfl) (e_ns_load_54_L σ  a1 x6 ) 1000 (0, σ)) (fun _ => rfl) (fun e13 => ?_)
      refine ev_iload_n iX4_load_104 rfl rfl ?_
      exact ev_iret iX4_load_105 rfl (narI rfl _)
def ns_judge_34_X (σ : sg_S)  (f1 : Int32) : (Int32 ⊕ (Unit ⊕ (Int32 × sg_S))) → sg_X
  | .inl a => .inr (34, [some (.ref 0), some (.int f1), some (.int a)], σ)
  | .inr (.inl _) => .inr (91, [none, none, none], σ)
  | .inr (.inr r) => .inl (eMI r)
def ns_judge_34_L (σ : sg_S)  (f1 : Int32) (a : Int32) : Option (Int32 ⊕ (Unit ⊕ (Int32 × sg_S))) :=
  (if sg_in f1 4 = true then (if a < (σ (53 + 2 * f1.toNatClampNeg) 2) then ((tn_isSaying σ 1 a).bind fun r6 => (if r6 = 0 then some (.inr (.inr ((1 + a), σ))) else (if sg_in f1 4 = true then (if sg_in a 40 = true then (if sg_in a 6 = true then (if (σ ((53 + 2 * f1.toNatClampNeg) + 1) a.toNatClampNeg) = (σ 9 a.toNatClampNeg) then some (.inl (a + 1)) else some (.inr (.inr ((1 + a), σ)))) else none) else none) else none))) else some (.inr (.inl ()))) else none)
set_option maxRecDepth 20000 in
set_option maxHeartbeats 2000000 in
theorem e_ns_judge_34_L (σ : sg_S)  (f1 : Int32)  : ∀ a : Int32, Ev mX4_judge (rmL 1) 34 [some (.ref 0), some (.int f1), some (.int a)] [] σ (ns_judge_34_X σ  f1) (ns_judge_34_L σ  f1 a) := by
  intro a
  unfold ns_judge_34_L
  refine ev_iload_n iX4_judge_34 rfl rfl ?_
  refine ev_aload_n iX4_judge_35 rfl (by decide) rfl ?_
  refine ev_getR (k1 := 52) 4 5 iX4_judge_36 kF_X4_35 O_0 rfl (by decide) ?_
  refine ev_iload_n iX4_judge_39 rfl rfl ?_
  refine ev_aaldS iX4_judge_40 (fun h5 => ?_)
  refine ev_getI 1 2 iX4_judge_41 kF_X4_183 (isS_O (sg_isS_of h5)) rfl ?_
  refine ev_icmp_ge iX4_judge_44 ?_ ?_
  · refine ev_aload_n iX4_judge_47 rfl (by decide) rfl ?_
    refine ev_getR (k1 := 1) 4 0 iX4_judge_48 kF_X4_10 O_0 rfl (by decide) ?_
    refine ev_iload_n iX4_judge_51 rfl rfl ?_
    refine ev_VRI iX4_judge_52 kV_X4_92 (c_tn_isSaying σ 1 a isT_1) (rc_T isT_1) rfl rfl (Nat.le_of_ble_eq_true rfl) (sg_fitL (by decide) (Nat.le_of_ble_eq_true rfl)) (fun r6 => ?_)
    refine ev_if_eq iX4_judge_55 ?_ ?_
    · refine ev_iconst iX4_judge_81 kI_1 ?_
      refine ev_iload_n iX4_judge_82 rfl rfl ?_
      refine ev_iadd iX4_judge_83 ?_
      exact ev_iret iX4_judge_84 rfl (narI rfl _)
    · refine ev_aload_n iX4_judge_58 rfl (by decide) rfl ?_
      refine ev_getR (k1 := 52) 4 5 iX4_judge_59 kF_X4_35 O_0 rfl (by decide) ?_
      refine ev_iload_n iX4_judge_62 rfl rfl ?_
      refine ev_aaldS iX4_judge_63 (fun h7 => ?_)
      refine ev_getR (k1 := ((53 + 2 * f1.toNatClampNeg) + 1)) 1 0 iX4_judge_64 kF_X4_241 (isS_O (sg_isS_of h7)) rfl (isS_ne1 (sg_isS_of h7)) ?_
      refine ev_iload_n iX4_judge_67 rfl rfl ?_
      refine ev_iald iX4_judge_68 (isS_A (sg_isS_of h7)) ?_
      refine ev_aload_n iX4_judge_69 rfl (by decide) rfl ?_
      refine ev_getR (k1 := 1) 4 0 iX4_judge_70 kF_X4_10 O_0 rfl (by decide) ?_
      refine ev_getR (k1 := 9) 3 7 iX4_judge_73 kF_X4_101 O_1 rfl (by decide) ?_
      refine ev_iload_n iX4_judge_76 rfl rfl ?_
      refine ev_iald iX4_judge_77 A_9 ?_
      refine ev_icmp_eq iX4_judge_78 ?_ ?_
      · refine ev_iinc (v := (a + 1)) (ls2 := [some (.ref 0), some (.int f1), some (.int (a + 1))]) iX4_judge_85 rfl (by rw [kI_1]) (Nat.le_of_ble_eq_true rfl) rfl rfl ?_
        refine ev_goto iX4_judge_88 ?_
        exact ev_exit rfl ⟨rfl, rfl, rfl, trivial⟩
      · refine ev_iconst iX4_judge_81 kI_1 ?_
        refine ev_iload_n iX4_judge_82 rfl rfl ?_
        refine ev_iadd iX4_judge_83 ?_
        exact ev_iret iX4_judge_84 rfl (narI rfl _)
  · exact ev_exit rfl trivial
def ns_judge (σ : sg_S) (a1 : Int32) : Option (Int32 × sg_S) :=
  ((ns_within σ a1 3).bind fun r1 => (if r1 = 0 then ((ns_finding σ 0).bind fun r2 => some (r2.1, r2.2)) else (if sg_in a1 4 = true then (if (σ (53 + 2 * a1.toNatClampNeg) 1) = 0 then ((ns_finding σ 5).bind fun r4 => some (r4.1, r4.2)) else ((sg_lp (ns_judge_34_L σ  a1) 1000 0).bind (Sum.elim (fun _ => some (0, σ)) (fun rr => some rr)))) else none)))
set_option maxRecDepth 20000 in
set_option maxHeartbeats 2000000 in
theorem c_ns_judge (σ : sg_S) (a1 : Int32)  : sg_Call yX4_judge mX4_judge (rmL 1) [.ref 0, .int a1] σ eMI (ns_judge σ a1) := by
  refine sg_call_of (by decide +kernel) rfl (Nat.le_of_ble_eq_true rfl) rfl (fun _ => rfl) ?_
  refine ev_less (ls2 := [some (.ref 0), some (.int a1), none]) ?_ ⟨rfl, rfl, trivial⟩
  unfold ns_judge
  refine ev_iload_n iX4_judge_0 rfl rfl ?_
  refine ev_iconst iX4_judge_1 kI_3 ?_
  refine ev_SRI iX4_judge_2 kS_X4_44 (c_ns_within σ a1 3) rfl rfl (Nat.le_of_ble_eq_true rfl) (sg_fitL (by decide) (Nat.le_of_ble_eq_true rfl)) (fun r1 => ?_)
  refine ev_if_ne iX4_judge_5 ?_ ?_
  · refine ev_aload_n iX4_judge_8 rfl (by decide) rfl ?_
    refine ev_iconst iX4_judge_9 kI_0 ?_
    refine ev_VMI iX4_judge_10 kV_X4_48 (c_ns_finding σ 0) rc_0 rfl rfl (Nat.le_of_ble_eq_true rfl) (sg_fitL (by decide) (Nat.le_of_ble_eq_true rfl)) (fun r2 => ?_)
    exact ev_iret iX4_judge_13 rfl (narI rfl _)
  · refine ev_aload_n iX4_judge_14 rfl (by decide) rfl ?_
    refine ev_getR (k1 := 52) 4 5 iX4_judge_15 kF_X4_35 O_0 rfl (by decide) ?_
    refine ev_iload_n iX4_judge_18 rfl rfl ?_
    refine ev_aaldS iX4_judge_19 (fun h3 => ?_)
    refine ev_getI 1 1 iX4_judge_20 kF_X4_173 (isS_O (sg_isS_of h3)) rfl ?_
    refine ev_if_ne iX4_judge_23 ?_ ?_
    · refine ev_aload_n iX4_judge_26 rfl (by decide) rfl ?_
      refine ev_iconst iX4_judge_27 kI_5 ?_
      refine ev_VMI iX4_judge_28 kV_X4_48 (c_ns_finding σ 5) rc_0 rfl rfl (Nat.le_of_ble_eq_true rfl) (sg_fitL (by decide) (Nat.le_of_ble_eq_true rfl)) (fun r4 => ?_)
      exact ev_iret iX4_judge_31 rfl (narI rfl _)
    · refine ev_iconst iX4_judge_32 kI_0 ?_
      refine ev_istore_n (ls2 := [some (.ref 0), some (.int a1), some (.int 0)]) iX4_judge_33 rfl (Nat.le_of_ble_eq_true rfl) (Nat.le_of_ble_eq_true rfl) rfl rfl ?_
      refine ev_less (ls2 := [some (.ref 0), some (.int a1), some (.int 0)]) ?_ ⟨rfl, rfl, rfl, trivial⟩
      refine ev_seqS 91 (fun _ => [none, none, none]) (fun _ => σ) (ev_loop (embB := ns_judge_34_X σ  a1) (ex := fun b => ns_judge_34_X σ  a1 (.inr b)) 34 (fun z8 => [some (.ref 0), some (.int a1), some (.int z8)]) (fun _ => σ) (fun _ => rfl) (fun _ => rfl) (e_ns_judge_34_L σ  a1 ) 1000 0) (fun _ => rfl) (fun r => ⟨_, rfl, fun a h => by cases h; rfl⟩) (fun e10 => ?_)
      refine ev_iconst iX4_judge_91 kI_0 ?_
      exact ev_iret iX4_judge_92 rfl (fun ty _ => nar0 ty)
def ns_count (σ : sg_S) (a1 : Int32) : Option (Int32 × sg_S) :=
  (sg_sw a1 [(0, some ((σ 1 13), σ)), (1, some ((σ 1 10), σ)), (2, some ((σ 1 11), σ)), (3, some ((σ 1 12), σ)), (4, ((tn_blames σ 1).bind fun r2 => some (r2, σ))), (5, some ((σ 35 1), σ)), (6, some ((σ 1 14), σ)), (7, ((tn_spotsHeld σ 1).bind fun r3 => some (r3, σ)))] ((ns_finding σ 0).bind fun r1 => some (r1.1, r1.2)))
set_option maxRecDepth 20000 in
set_option maxHeartbeats 2000000 in
theorem c_ns_count (σ : sg_S) (a1 : Int32)  : sg_Call yX4_count mX4_count (rmL 1) [.ref 0, .int a1] σ eMI (ns_count σ a1) := by
  refine sg_call_of (by decide +kernel) rfl (Nat.le_of_ble_eq_true rfl) rfl (fun _ => rfl) ?_
  refine ev_less (ls2 := [some (.ref 0), some (.int a1)]) ?_ ⟨rfl, rfl, trivial⟩
  unfold ns_count
  refine ev_iload_n iX4_count_0 rfl rfl ?_
  refine ev_table (dt := 115) [48, 56, 64, 72, 80, 88, 99, 107] iX4_count_1 rfl rfl ⟨rfl, rfl, rfl, rfl, rfl, rfl, rfl, rfl, rfl, rfl, rfl, rfl, rfl, rfl, rfl, rfl, trivial⟩ ?_ ⟨?_, ?_, ?_, ?_, ?_, ?_, ?_, ?_, trivial⟩
  · refine ev_aload_n iX4_count_115 rfl (by decide) rfl ?_
    refine ev_iconst iX4_count_116 kI_0 ?_
    refine ev_VMI iX4_count_117 kV_X4_48 (c_ns_finding σ 0) rc_0 rfl rfl (Nat.le_of_ble_eq_true rfl) (sg_fitL (by decide) (Nat.le_of_ble_eq_true rfl)) (fun r1 => ?_)
    exact ev_iret iX4_count_120 rfl (narI rfl _)
  · refine ev_aload_n iX4_count_48 rfl (by decide) rfl ?_
    refine ev_getR (k1 := 1) 4 0 iX4_count_49 kF_X4_10 O_0 rfl (by decide) ?_
    refine ev_getI 3 13 iX4_count_52 kF_X4_117 O_1 rfl ?_
    exact ev_iret iX4_count_55 rfl (narI rfl _)
  · refine ev_aload_n iX4_count_56 rfl (by decide) rfl ?_
    refine ev_getR (k1 := 1) 4 0 iX4_count_57 kF_X4_10 O_0 rfl (by decide) ?_
    refine ev_getI 3 10 iX4_count_60 kF_X4_55 O_1 rfl ?_
    exact ev_iret iX4_count_63 rfl (narI rfl _)
  · refine ev_aload_n iX4_count_64 rfl (by decide) rfl ?_
    refine ev_getR (k1 := 1) 4 0 iX4_count_65 kF_X4_10 O_0 rfl (by decide) ?_
    refine ev_getI 3 11 iX4_count_68 kF_X4_67 O_1 rfl ?_
    exact ev_iret iX4_count_71 rfl (narI rfl _)
  · refine ev_aload_n iX4_count_72 rfl (by decide) rfl ?_
    refine ev_getR (k1 := 1) 4 0 iX4_count_73 kF_X4_10 O_0 rfl (by decide) ?_
    refine ev_getI 3 12 iX4_count_76 kF_X4_125 O_1 rfl ?_
    exact ev_iret iX4_count_79 rfl (narI rfl _)
  · refine ev_aload_n iX4_count_80 rfl (by decide) rfl ?_
    refine ev_getR (k1 := 1) 4 0 iX4_count_81 kF_X4_10 O_0 rfl (by decide) ?_
    refine ev_VRI iX4_count_84 kV_X4_135 (c_tn_blames σ 1 isT_1) (rc_T isT_1) rfl rfl (Nat.le_of_ble_eq_true rfl) (sg_fitL (by decide) (Nat.le_of_ble_eq_true rfl)) (fun r2 => ?_)
    exact ev_iret iX4_count_87 rfl (narI rfl _)
  · refine ev_aload_n iX4_count_88 rfl (by decide) rfl ?_
    refine ev_getR (k1 := 34) 4 4 iX4_count_89 kF_X4_29 O_0 rfl (by decide) ?_
    refine ev_getR (k1 := 35) 0 0 iX4_count_92 kF_X4_209 O_34 rfl (by decide) ?_
    refine ev_getI 2 1 iX4_count_95 kF_X4_213 O_35 rfl ?_
    exact ev_iret iX4_count_98 rfl (narI rfl _)
  · refine ev_aload_n iX4_count_99 rfl (by decide) rfl ?_
    refine ev_getR (k1 := 1) 4 0 iX4_count_100 kF_X4_10 O_0 rfl (by decide) ?_
    refine ev_getI 3 14 iX4_count_103 kF_X4_206 O_1 rfl ?_
    exact ev_iret iX4_count_106 rfl (narI rfl _)
  · refine ev_aload_n iX4_count_107 rfl (by decide) rfl ?_
    refine ev_getR (k1 := 1) 4 0 iX4_count_108 kF_X4_10 O_0 rfl (by decide) ?_
    refine ev_VRI iX4_count_111 kV_X4_255 (c_tn_spotsHeld σ 1 isT_1) (rc_T isT_1) rfl rfl (Nat.le_of_ble_eq_true rfl) (sg_fitL (by decide) (Nat.le_of_ble_eq_true rfl)) (fun r3 => ?_)
    exact ev_iret iX4_count_114 rfl (narI rfl _)
def ns_status_9_X (σ : sg_S)   : ((Int32 × Int32) ⊕ Int32) → sg_X
  | .inl a => .inr (9, [some (.ref 0), none, some (.int a.1), some (.int a.2)], σ)
  | .inr e => .inr (30, [none, none, some (.int e), none], σ)
def ns_status_9_L (σ : sg_S)   (a : (Int32 × Int32)) : Option ((Int32 × Int32) ⊕ Int32) :=
  (if a.2 < 7 then (if sg_in a.2 7 = true then sg_leti (a.1 + (σ 61 a.2.toNatClampNeg)) (fun x1 => some (.inl (x1, (a.2 + 1)))) else none) else some (.inr a.1))
set_option maxRecDepth 20000 in
set_option maxHeartbeats 2000000 in
theorem e_ns_status_9_L (σ : sg_S)    : ∀ a : (Int32 × Int32), Ev mX4_status (rmL 1) 9 [some (.ref 0), none, some (.int a.1), some (.int a.2)] [] σ (ns_status_9_X σ  ) (ns_status_9_L σ   a) := by
  intro a
  unfold ns_status_9_L
  refine ev_iload_n iX4_status_9 rfl rfl ?_
  refine ev_bipush iX4_status_10 kB_7 ?_
  refine ev_icmp_ge iX4_status_12 ?_ ?_
  · refine ev_iload_n iX4_status_15 rfl rfl ?_
    refine ev_aload_n iX4_status_16 rfl (by decide) rfl ?_
    refine ev_getR (k1 := 61) 4 6 iX4_status_17 kF_X4_40 O_0 rfl (by decide) ?_
    refine ev_iload_n iX4_status_20 rfl rfl ?_
    refine ev_iald iX4_status_21 A_61 ?_
    refine ev_iadd iX4_status_22 ?_
    refine ev_leti (fun x1 => ?_)
    refine ev_istore_n (ls2 := [some (.ref 0), none, some (.int x1), some (.int a.2)]) iX4_status_23 rfl (Nat.le_of_ble_eq_true rfl) (Nat.le_of_ble_eq_true rfl) rfl rfl ?_
    refine ev_iinc (v := (a.2 + 1)) (ls2 := [some (.ref 0), none, some (.int x1), some (.int (a.2 + 1))]) iX4_status_24 rfl (by rw [kI_1]) (Nat.le_of_ble_eq_true rfl) rfl rfl ?_
    refine ev_goto iX4_status_27 ?_
    exact ev_exit rfl ⟨rfl, rfl, rfl, trivial⟩
  · exact ev_exit rfl ⟨rfl, trivial⟩
def ns_status (σ : sg_S) (a1 : Int32) : Option (Int32 × sg_S) :=
  (if a1 = (-1) then ((sg_lp (ns_status_9_L σ  ) 1000 (0, 0)).bind fun e4 => some (e4, σ)) else ((ns_within σ a1 6).bind fun r5 => (if r5 = 0 then ((ns_finding σ 0).bind fun r6 => some (r6.1, r6.2)) else (if sg_in a1 7 = true then some ((σ 61 a1.toNatClampNeg), σ) else none))))
set_option maxRecDepth 20000 in
set_option maxHeartbeats 2000000 in
theorem c_ns_status (σ : sg_S) (a1 : Int32)  : sg_Call yX4_status mX4_status (rmL 1) [.ref 0, .int a1] σ eMI (ns_status σ a1) := by
  refine sg_call_of (by decide +kernel) rfl (Nat.le_of_ble_eq_true rfl) rfl (fun _ => rfl) ?_
  refine ev_less (ls2 := [some (.ref 0), some (.int a1), none, none]) ?_ ⟨rfl, rfl, trivial⟩
  unfold ns_status
  refine ev_iload_n iX4_status_0 rfl rfl ?_
  refine ev_iconst iX4_status_1 kI_m1 ?_
  refine ev_icmp_ne iX4_status_2 ?_ ?_
  · refine ev_iconst iX4_status_5 kI_0 ?_
    refine ev_istore_n (ls2 := [some (.ref 0), some (.int a1), some (.int 0), none]) iX4_status_6 rfl (Nat.le_of_ble_eq_true rfl) (Nat.le_of_ble_eq_true rfl) rfl rfl ?_
    refine ev_iconst iX4_status_7 kI_0 ?_
    refine ev_istore_n (ls2 := [some (.ref 0), some (.int a1), some (.int 0), some (.int 0)]) iX4_status_8 rfl (Nat.le_of_ble_eq_true rfl) (Nat.le_of_ble_eq_true rfl) rfl rfl ?_
    refine ev_less (ls2 := [some (.ref 0), none, some (.int 0), some (.int 0)]) ?_ ⟨rfl, rfl, rfl, trivial⟩
    refine ev_seq1 30 (fun z3 => [none, none, some (.int z3), none]) (fun _ => σ) (ev_loop (embB := ns_status_9_X σ  ) (ex := fun b => ns_status_9_X σ   (.inr b)) 9 (fun z2 => [some (.ref 0), none, some (.int z2.1), some (.int z2.2)]) (fun _ => σ) (fun _ => rfl) (fun _ => rfl) (e_ns_status_9_L σ   ) 1000 (0, 0)) (fun _ => rfl) (fun e4 => ?_)
    refine ev_iload_n iX4_status_30 rfl rfl ?_
    exact ev_iret iX4_status_31 rfl (narI rfl _)
  · refine ev_iload_n iX4_status_32 rfl rfl ?_
    refine ev_bipush iX4_status_33 kB_6 ?_
    refine ev_SRI iX4_status_35 kS_X4_44 (c_ns_within σ a1 6) rfl rfl (Nat.le_of_ble_eq_true rfl) (sg_fitL (by decide) (Nat.le_of_ble_eq_true rfl)) (fun r5 => ?_)
    refine ev_if_eq iX4_status_38 ?_ ?_
    · refine ev_aload_n iX4_status_50 rfl (by decide) rfl ?_
      refine ev_iconst iX4_status_51 kI_0 ?_
      refine ev_VMI iX4_status_52 kV_X4_48 (c_ns_finding σ 0) rc_0 rfl rfl (Nat.le_of_ble_eq_true rfl) (sg_fitL (by decide) (Nat.le_of_ble_eq_true rfl)) (fun r6 => ?_)
      exact ev_iret iX4_status_55 rfl (narI rfl _)
    · refine ev_aload_n iX4_status_41 rfl (by decide) rfl ?_
      refine ev_getR (k1 := 61) 4 6 iX4_status_42 kF_X4_40 O_0 rfl (by decide) ?_
      refine ev_iload_n iX4_status_45 rfl rfl ?_
      refine ev_iald iX4_status_46 A_61 ?_
      refine ev_goto iX4_status_47 ?_
      exact ev_iret iX4_status_55 rfl (narI rfl _)
def ns_exchange (σ : sg_S) (k1 n1 : Nat) (a2 : Int32) (a3 : Int32) (a4 : Int32) : Option (Int32 × sg_S) :=
  ((ns_within σ a3 a4).bind fun r1 => (if r1 = 0 then ((ns_finding σ 0).bind fun r2 => some (r2.1, r2.2)) else (if sg_in a2 n1 = true then sg_leti (σ k1 a2.toNatClampNeg) (fun x3 => (if sg_in a2 n1 = true then sg_let (sg_st σ k1 a2.toNatClampNeg a3) (fun s4 => some (x3, s4)) else none)) else none)))
set_option maxRecDepth 20000 in
set_option maxHeartbeats 2000000 in
theorem c_ns_exchange (σ : sg_S) (k1 n1 : Nat) (a2 : Int32) (a3 : Int32) (a4 : Int32) (hk1 : sg_A k1 = some n1) : sg_Call yX4_exchange mX4_exchange (rmL 1) [.ref 0, .ref k1, .int a2, .int a3, .int a4] σ eMI (ns_exchange σ k1 n1 a2 a3 a4) := by
  refine sg_call_of (by decide +kernel) rfl (Nat.le_of_ble_eq_true rfl) rfl (fun _ => rfl) ?_
  refine ev_less (ls2 := [some (.ref 0), some (.ref k1), some (.int a2), some (.int a3), some (.int a4), none]) ?_ ⟨rfl, rfl, rfl, rfl, rfl, trivial⟩
  unfold ns_exchange
  refine ev_iload_n iX4_exchange_0 rfl rfl ?_
  refine ev_iload iX4_exchange_1 rfl ?_
  refine ev_SRI iX4_exchange_3 kS_X4_44 (c_ns_within σ a3 a4) rfl rfl (Nat.le_of_ble_eq_true rfl) (sg_fitL (by decide) (Nat.le_of_ble_eq_true rfl)) (fun r1 => ?_)
  refine ev_if_ne iX4_exchange_6 ?_ ?_
  · refine ev_aload_n iX4_exchange_9 rfl (by decide) rfl ?_
    refine ev_iconst iX4_exchange_10 kI_0 ?_
    refine ev_VMI iX4_exchange_11 kV_X4_48 (c_ns_finding σ 0) rc_0 rfl rfl (Nat.le_of_ble_eq_true rfl) (sg_fitL (by decide) (Nat.le_of_ble_eq_true rfl)) (fun r2 => ?_)
    exact ev_iret iX4_exchange_14 rfl (narI rfl _)
  · refine ev_aload_n iX4_exchange_15 rfl (sg_A_ne hk1) rfl ?_
    refine ev_iload_n iX4_exchange_16 rfl rfl ?_
    refine ev_iald iX4_exchange_17 hk1 ?_
    refine ev_leti (fun x3 => ?_)
    refine ev_istore (ls2 := [some (.ref 0), some (.ref k1), some (.int a2), some (.int a3), some (.int a4), some (.int x3)]) iX4_exchange_18 (Nat.le_of_ble_eq_true rfl) (Nat.le_of_ble_eq_true rfl) rfl rfl ?_
    refine ev_aload_n iX4_exchange_20 rfl (sg_A_ne hk1) rfl ?_
    refine ev_iload_n iX4_exchange_21 rfl rfl ?_
    refine ev_iload_n iX4_exchange_22 rfl rfl ?_
    refine ev_iast iX4_exchange_23 hk1 ?_
    refine ev_let (fun s4 => ?_)
    refine ev_iload iX4_exchange_24 rfl ?_
    exact ev_iret iX4_exchange_26 rfl (narI rfl _)
def ns_saying (σ : sg_S) (a1 : Int32) (a2 : Int32) (a3 : Int32) : Option (Int32 × sg_S) :=
  ((tn_isPerson σ 1 a1).bind fun r1 => (if r1 = 0 then ((ns_finding σ 0).bind fun r2 => some (r2.1, r2.2)) else ((ns_within σ a2 7).bind fun r3 => (if r3 = 0 then ((ns_finding σ 0).bind fun r4 => some (r4.1, r4.2)) else ((ns_within σ a3 9).bind fun r5 => (if r5 = 0 then ((ns_finding σ 0).bind fun r6 => some (r6.1, r6.2)) else (if (σ 1 11) < 6 then ((tn_putAbout σ 1 a1 a2 a3).bind fun r7 => some (r7.1, r7.2)) else ((ns_finding σ 1).bind fun r8 => some (r8.1, r8.2)))))))))
set_option maxRecDepth 20000 in
set_option maxHeartbeats 2000000 in
theorem c_ns_saying (σ : sg_S) (a1 : Int32) (a2 : Int32) (a3 : Int32)  : sg_Call yX4_saying mX4_saying (rmL 2) [.ref 0, .int a1, .int a2, .int a3] σ eMI (ns_saying σ a1 a2 a3) := by
  refine sg_call_of (by decide +kernel) rfl (Nat.le_of_ble_eq_true rfl) rfl (fun _ => rfl) ?_
  refine ev_less (ls2 := [some (.ref 0), some (.int a1), some (.int a2), some (.int a3)]) ?_ ⟨rfl, rfl, rfl, rfl, trivial⟩
  unfold ns_saying
  refine ev_aload_n iX4_saying_0 rfl (by decide) rfl ?_
  refine ev_getR (k1 := 1) 4 0 iX4_saying_1 kF_X4_10 O_0 rfl (by decide) ?_
  refine ev_iload_n iX4_saying_4 rfl rfl ?_
  refine ev_VRI iX4_saying_5 kV_X4_63 (c_tn_isPerson σ 1 a1 isT_1) (rc_T isT_1) rfl rfl (Nat.le_of_ble_eq_true rfl) (sg_fitL (by decide) (Nat.le_of_ble_eq_true rfl)) (fun r1 => ?_)
  refine ev_if_eq iX4_saying_8 ?_ ?_
  · refine ev_aload_n iX4_saying_29 rfl (by decide) rfl ?_
    refine ev_iconst iX4_saying_30 kI_0 ?_
    refine ev_VMI iX4_saying_31 kV_X4_48 (c_ns_finding σ 0) rc_0 rfl rfl (Nat.le_of_ble_eq_true rfl) (sg_fitL (by decide) (Nat.le_of_ble_eq_true rfl)) (fun r2 => ?_)
    exact ev_iret iX4_saying_34 rfl (narI rfl _)
  · refine ev_iload_n iX4_saying_11 rfl rfl ?_
    refine ev_bipush iX4_saying_12 kB_7 ?_
    refine ev_SRI iX4_saying_14 kS_X4_44 (c_ns_within σ a2 7) rfl rfl (Nat.le_of_ble_eq_true rfl) (sg_fitL (by decide) (Nat.le_of_ble_eq_true rfl)) (fun r3 => ?_)
    refine ev_if_eq iX4_saying_17 ?_ ?_
    · refine ev_aload_n iX4_saying_29 rfl (by decide) rfl ?_
      refine ev_iconst iX4_saying_30 kI_0 ?_
      refine ev_VMI iX4_saying_31 kV_X4_48 (c_ns_finding σ 0) rc_0 rfl rfl (Nat.le_of_ble_eq_true rfl) (sg_fitL (by decide) (Nat.le_of_ble_eq_true rfl)) (fun r4 => ?_)
      exact ev_iret iX4_saying_34 rfl (narI rfl _)
    · refine ev_iload_n iX4_saying_20 rfl rfl ?_
      refine ev_bipush iX4_saying_21 kB_9 ?_
      refine ev_SRI iX4_saying_23 kS_X4_44 (c_ns_within σ a3 9) rfl rfl (Nat.le_of_ble_eq_true rfl) (sg_fitL (by decide) (Nat.le_of_ble_eq_true rfl)) (fun r5 => ?_)
      refine ev_if_ne iX4_saying_26 ?_ ?_
      · refine ev_aload_n iX4_saying_29 rfl (by decide) rfl ?_
        refine ev_iconst iX4_saying_30 kI_0 ?_
        refine ev_VMI iX4_saying_31 kV_X4_48 (c_ns_finding σ 0) rc_0 rfl rfl (Nat.le_of_ble_eq_true rfl) (sg_fitL (by decide) (Nat.le_of_ble_eq_true rfl)) (fun r6 => ?_)
        exact ev_iret iX4_saying_34 rfl (narI rfl _)
      · refine ev_aload_n iX4_saying_35 rfl (by decide) rfl ?_
        refine ev_getR (k1 := 1) 4 0 iX4_saying_36 kF_X4_10 O_0 rfl (by decide) ?_
        refine ev_getI 3 11 iX4_saying_39 kF_X4_67 O_1 rfl ?_
        refine ev_bipush iX4_saying_42 kB_6 ?_
        refine ev_icmp_lt iX4_saying_44 ?_ ?_
        · refine ev_aload_n iX4_saying_53 rfl (by decide) rfl ?_
          refine ev_getR (k1 := 1) 4 0 iX4_saying_54 kF_X4_10 O_0 rfl (by decide) ?_
          refine ev_iload_n iX4_saying_57 rfl rfl ?_
          refine ev_iload_n iX4_saying_58 rfl rfl ?_
          refine ev_iload_n iX4_saying_59 rfl rfl ?_
          refine ev_VMI iX4_saying_60 kV_X4_70 (c_tn_putAbout σ 1 a1 a2 a3 isT_1) (rc_T isT_1) rfl rfl (Nat.le_of_ble_eq_true rfl) (sg_fitL (by decide) (Nat.le_of_ble_eq_true rfl)) (fun r7 => ?_)
          exact ev_iret iX4_saying_63 rfl (narI rfl _)
        · refine ev_aload_n iX4_saying_47 rfl (by decide) rfl ?_
          refine ev_iconst iX4_saying_48 kI_1 ?_
          refine ev_VMI iX4_saying_49 kV_X4_48 (c_ns_finding σ 1) rc_0 rfl rfl (Nat.le_of_ble_eq_true rfl) (sg_fitL (by decide) (Nat.le_of_ble_eq_true rfl)) (fun r8 => ?_)
          exact ev_iret iX4_saying_52 rfl (narI rfl _)
def ns_of (σ : sg_S) (a1 : Int32) (a2 : Int32) : Option (Int32 × sg_S) :=
  ((tn_isPerson σ 1 a1).bind fun r1 => (if r1 = 0 then ((ns_finding σ 0).bind fun r2 => some (r2.1, r2.2)) else (sg_sw a2 [(0, (if sg_in a1 8 = true then some ((σ 3 a1.toNatClampNeg), σ) else none)), (1, (if sg_in a1 8 = true then some ((σ 4 a1.toNatClampNeg), σ) else none)), (2, (if sg_in a1 8 = true then some ((σ 5 a1.toNatClampNeg), σ) else none)), (3, (if sg_in a1 8 = true then some ((σ 6 a1.toNatClampNeg), σ) else none)), (4, ((tn_heardBy σ 1 a1).bind fun r4 => some (r4, σ)))] ((ns_finding σ 0).bind fun r3 => some (r3.1, r3.2)))))
set_option maxRecDepth 20000 in
set_option maxHeartbeats 2000000 in
theorem c_ns_of (σ : sg_S) (a1 : Int32) (a2 : Int32)  : sg_Call yX4_of mX4_of (rmL 2) [.ref 0, .int a1, .int a2] σ eMI (ns_of σ a1 a2) := by
  refine sg_call_of (by decide +kernel) rfl (Nat.le_of_ble_eq_true rfl) rfl (fun _ => rfl) ?_
  refine ev_less (ls2 := [some (.ref 0), some (.int a1), some (.int a2)]) ?_ ⟨rfl, rfl, rfl, trivial⟩
  unfold ns_of
  refine ev_aload_n iX4_of_0 rfl (by decide) rfl ?_
  refine ev_getR (k1 := 1) 4 0 iX4_of_1 kF_X4_10 O_0 rfl (by decide) ?_
  refine ev_iload_n iX4_of_4 rfl rfl ?_
  refine ev_VRI iX4_of_5 kV_X4_63 (c_tn_isPerson σ 1 a1 isT_1) (rc_T isT_1) rfl rfl (Nat.le_of_ble_eq_true rfl) (sg_fitL (by decide) (Nat.le_of_ble_eq_true rfl)) (fun r1 => ?_)
  refine ev_if_ne iX4_of_8 ?_ ?_
  · refine ev_aload_n iX4_of_11 rfl (by decide) rfl ?_
    refine ev_iconst iX4_of_12 kI_0 ?_
    refine ev_VMI iX4_of_13 kV_X4_48 (c_ns_finding σ 0) rc_0 rfl rfl (Nat.le_of_ble_eq_true rfl) (sg_fitL (by decide) (Nat.le_of_ble_eq_true rfl)) (fun r2 => ?_)
    exact ev_iret iX4_of_16 rfl (narI rfl _)
  · refine ev_iload_n iX4_of_17 rfl rfl ?_
    refine ev_table (dt := 101) [52, 62, 72, 82, 92] iX4_of_18 rfl rfl ⟨rfl, rfl, rfl, rfl, rfl, rfl, rfl, rfl, rfl, rfl, trivial⟩ ?_ ⟨?_, ?_, ?_, ?_, ?_, trivial⟩
    · refine ev_aload_n iX4_of_101 rfl (by decide) rfl ?_
      refine ev_iconst iX4_of_102 kI_0 ?_
      refine ev_VMI iX4_of_103 kV_X4_48 (c_ns_finding σ 0) rc_0 rfl rfl (Nat.le_of_ble_eq_true rfl) (sg_fitL (by decide) (Nat.le_of_ble_eq_true rfl)) (fun r3 => ?_)
      exact ev_iret iX4_of_106 rfl (narI rfl _)
    · refine ev_aload_n iX4_of_52 rfl (by decide) rfl ?_
      refine ev_getR (k1 := 1) 4 0 iX4_of_53 kF_X4_10 O_0 rfl (by decide) ?_
      refine ev_getR (k1 := 3) 3 1 iX4_of_56 kF_X4_73 O_1 rfl (by decide) ?_
      refine ev_iload_n iX4_of_59 rfl rfl ?_
      refine ev_iald iX4_of_60 A_3 ?_
      exact ev_iret iX4_of_61 rfl (narI rfl _)
    · refine ev_aload_n iX4_of_62 rfl (by decide) rfl ?_
      refine ev_getR (k1 := 1) 4 0 iX4_of_63 kF_X4_10 O_0 rfl (by decide) ?_
      refine ev_getR (k1 := 4) 3 2 iX4_of_66 kF_X4_76 O_1 rfl (by decide) ?_
      refine ev_iload_n iX4_of_69 rfl rfl ?_
      refine ev_iald iX4_of_70 A_4 ?_
      exact ev_iret iX4_of_71 rfl (narI rfl _)
    · refine ev_aload_n iX4_of_72 rfl (by decide) rfl ?_
      refine ev_getR (k1 := 1) 4 0 iX4_of_73 kF_X4_10 O_0 rfl (by decide) ?_
      refine ev_getR (k1 := 5) 3 3 iX4_of_76 kF_X4_79 O_1 rfl (by decide) ?_
      refine ev_iload_n iX4_of_79 rfl rfl ?_
      refine ev_iald iX4_of_80 A_5 ?_
      exact ev_iret iX4_of_81 rfl (narI rfl _)
    · refine ev_aload_n iX4_of_82 rfl (by decide) rfl ?_
      refine ev_getR (k1 := 1) 4 0 iX4_of_83 kF_X4_10 O_0 rfl (by decide) ?_
      refine ev_getR (k1 := 6) 3 4 iX4_of_86 kF_X4_82 O_1 rfl (by decide) ?_
      refine ev_iload_n iX4_of_89 rfl rfl ?_
      refine ev_iald iX4_of_90 A_6 ?_
      exact ev_iret iX4_of_91 rfl (narI rfl _)
    · refine ev_aload_n iX4_of_92 rfl (by decide) rfl ?_
      refine ev_getR (k1 := 1) 4 0 iX4_of_93 kF_X4_10 O_0 rfl (by decide) ?_
      refine ev_iload_n iX4_of_96 rfl rfl ?_
      refine ev_VRI iX4_of_97 kV_X4_85 (c_tn_heardBy σ 1 a1 isT_1) (rc_T isT_1) rfl rfl (Nat.le_of_ble_eq_true rfl) (sg_fitL (by decide) (Nat.le_of_ble_eq_true rfl)) (fun r4 => ?_)
      exact ev_iret iX4_of_100 rfl (narI rfl _)
def ns_change (σ : sg_S) (a1 : Int32) (a2 : Int32) (a3 : Int32) : Option (Int32 × sg_S) :=
  ((tn_isPerson σ 1 a1).bind fun r1 => (if r1 = 0 then ((ns_finding σ 0).bind fun r2 => some (r2.1, r2.2)) else (sg_sw a2 [(0, ((ns_exchange σ 3 8 a1 a3 6).bind fun r4 => some (r4.1, r4.2))), (1, ((ns_exchange σ 4 8 a1 a3 9).bind fun r5 => some (r5.1, r5.2))), (2, ((ns_exchange σ 5 8 a1 a3 1).bind fun r6 => some (r6.1, r6.2))), (3, ((ns_exchange σ 6 8 a1 a3 9999).bind fun r7 => some (r7.1, r7.2)))] ((ns_finding σ 0).bind fun r3 => some (r3.1, r3.2)))))
set_option maxRecDepth 20000 in
set_option maxHeartbeats 2000000 in
theorem c_ns_change (σ : sg_S) (a1 : Int32) (a2 : Int32) (a3 : Int32)  : sg_Call yX4_change mX4_change (rmL 2) [.ref 0, .int a1, .int a2, .int a3] σ eMI (ns_change σ a1 a2 a3) := by
  refine sg_call_of (by decide +kernel) rfl (Nat.le_of_ble_eq_true rfl) rfl (fun _ => rfl) ?_
  refine ev_less (ls2 := [some (.ref 0), some (.int a1), some (.int a2), some (.int a3)]) ?_ ⟨rfl, rfl, rfl, rfl, trivial⟩
  unfold ns_change
  refine ev_aload_n iX4_change_0 rfl (by decide) rfl ?_
  refine ev_getR (k1 := 1) 4 0 iX4_change_1 kF_X4_10 O_0 rfl (by decide) ?_
  refine ev_iload_n iX4_change_4 rfl rfl ?_
  refine ev_VRI iX4_change_5 kV_X4_63 (c_tn_isPerson σ 1 a1 isT_1) (rc_T isT_1) rfl rfl (Nat.le_of_ble_eq_true rfl) (sg_fitL (by decide) (Nat.le_of_ble_eq_true rfl)) (fun r1 => ?_)
  refine ev_if_ne iX4_change_8 ?_ ?_
  · refine ev_aload_n iX4_change_11 rfl (by decide) rfl ?_
    refine ev_iconst iX4_change_12 kI_0 ?_
    refine ev_VMI iX4_change_13 kV_X4_48 (c_ns_finding σ 0) rc_0 rfl rfl (Nat.le_of_ble_eq_true rfl) (sg_fitL (by decide) (Nat.le_of_ble_eq_true rfl)) (fun r2 => ?_)
    exact ev_iret iX4_change_16 rfl (narI rfl _)
  · refine ev_iload_n iX4_change_17 rfl rfl ?_
    refine ev_table (dt := 112) [48, 64, 80, 95] iX4_change_18 rfl rfl ⟨rfl, rfl, rfl, rfl, rfl, rfl, rfl, rfl, trivial⟩ ?_ ⟨?_, ?_, ?_, ?_, trivial⟩
    · refine ev_aload_n iX4_change_112 rfl (by decide) rfl ?_
      refine ev_iconst iX4_change_113 kI_0 ?_
      refine ev_VMI iX4_change_114 kV_X4_48 (c_ns_finding σ 0) rc_0 rfl rfl (Nat.le_of_ble_eq_true rfl) (sg_fitL (by decide) (Nat.le_of_ble_eq_true rfl)) (fun r3 => ?_)
      exact ev_iret iX4_change_117 rfl (narI rfl _)
    · refine ev_aload_n iX4_change_48 rfl (by decide) rfl ?_
      refine ev_aload_n iX4_change_49 rfl (by decide) rfl ?_
      refine ev_getR (k1 := 1) 4 0 iX4_change_50 kF_X4_10 O_0 rfl (by decide) ?_
      refine ev_getR (k1 := 3) 3 1 iX4_change_53 kF_X4_73 O_1 rfl (by decide) ?_
      refine ev_iload_n iX4_change_56 rfl rfl ?_
      refine ev_iload_n iX4_change_57 rfl rfl ?_
      refine ev_bipush iX4_change_58 kB_6 ?_
      refine ev_VMI iX4_change_60 kV_X4_88 (c_ns_exchange σ 3 8 a1 a3 6 A_3) rc_0 rfl rfl (Nat.le_of_ble_eq_true rfl) (sg_fitL (by decide) (Nat.le_of_ble_eq_true rfl)) (fun r4 => ?_)
      exact ev_iret iX4_change_63 rfl (narI rfl _)
    · refine ev_aload_n iX4_change_64 rfl (by decide) rfl ?_
      refine ev_aload_n iX4_change_65 rfl (by decide) rfl ?_
      refine ev_getR (k1 := 1) 4 0 iX4_change_66 kF_X4_10 O_0 rfl (by decide) ?_
      refine ev_getR (k1 := 4) 3 2 iX4_change_69 kF_X4_76 O_1 rfl (by decide) ?_
      refine ev_iload_n iX4_change_72 rfl rfl ?_
      refine ev_iload_n iX4_change_73 rfl rfl ?_
      refine ev_bipush iX4_change_74 kB_9 ?_
      refine ev_VMI iX4_change_76 kV_X4_88 (c_ns_exchange σ 4 8 a1 a3 9 A_4) rc_0 rfl rfl (Nat.le_of_ble_eq_true rfl) (sg_fitL (by decide) (Nat.le_of_ble_eq_true rfl)) (fun r5 => ?_)
      exact ev_iret iX4_change_79 rfl (narI rfl _)
    · refine ev_aload_n iX4_change_80 rfl (by decide) rfl ?_
      refine ev_aload_n iX4_change_81 rfl (by decide) rfl ?_
      refine ev_getR (k1 := 1) 4 0 iX4_change_82 kF_X4_10 O_0 rfl (by decide) ?_
      refine ev_getR (k1 := 5) 3 3 iX4_change_85 kF_X4_79 O_1 rfl (by decide) ?_
      refine ev_iload_n iX4_change_88 rfl rfl ?_
      refine ev_iload_n iX4_change_89 rfl rfl ?_
      refine ev_iconst iX4_change_90 kI_1 ?_
      refine ev_VMI iX4_change_91 kV_X4_88 (c_ns_exchange σ 5 8 a1 a3 1 A_5) rc_0 rfl rfl (Nat.le_of_ble_eq_true rfl) (sg_fitL (by decide) (Nat.le_of_ble_eq_true rfl)) (fun r6 => ?_)
      exact ev_iret iX4_change_94 rfl (narI rfl _)
    · refine ev_aload_n iX4_change_95 rfl (by decide) rfl ?_
      refine ev_aload_n iX4_change_96 rfl (by decide) rfl ?_
      refine ev_getR (k1 := 1) 4 0 iX4_change_97 kF_X4_10 O_0 rfl (by decide) ?_
      refine ev_getR (k1 := 6) 3 4 iX4_change_100 kF_X4_82 O_1 rfl (by decide) ?_
      refine ev_iload_n iX4_change_103 rfl rfl ?_
      refine ev_iload_n iX4_change_104 rfl rfl ?_
      refine ev_sipush iX4_change_105 kH_9999 ?_
      refine ev_VMI iX4_change_108 kV_X4_88 (c_ns_exchange σ 6 8 a1 a3 9999 A_6) rc_0 rfl rfl (Nat.le_of_ble_eq_true rfl) (sg_fitL (by decide) (Nat.le_of_ble_eq_true rfl)) (fun r7 => ?_)
      exact ev_iret iX4_change_111 rfl (narI rfl _)
def ns_alter (σ : sg_S) (a1 : Int32) (a2 : Int32) (a3 : Int32) : Option (Int32 × sg_S) :=
  ((tn_isSaying σ 1 a1).bind fun r1 => (if r1 = 0 then ((ns_finding σ 0).bind fun r2 => some (r2.1, r2.2)) else (sg_sw a2 [(0, ((ns_exchange σ 7 6 a1 a3 7).bind fun r4 => some (r4.1, r4.2))), (1, ((ns_exchange σ 8 6 a1 a3 9).bind fun r5 => some (r5.1, r5.2)))] ((ns_finding σ 0).bind fun r3 => some (r3.1, r3.2)))))
set_option maxRecDepth 20000 in
set_option maxHeartbeats 2000000 in
theorem c_ns_alter (σ : sg_S) (a1 : Int32) (a2 : Int32) (a3 : Int32)  : sg_Call yX4_alter mX4_alter (rmL 2) [.ref 0, .int a1, .int a2, .int a3] σ eMI (ns_alter σ a1 a2 a3) := by
  refine sg_call_of (by decide +kernel) rfl (Nat.le_of_ble_eq_true rfl) rfl (fun _ => rfl) ?_
  refine ev_less (ls2 := [some (.ref 0), some (.int a1), some (.int a2), some (.int a3)]) ?_ ⟨rfl, rfl, rfl, rfl, trivial⟩
  unfold ns_alter
  refine ev_aload_n iX4_alter_0 rfl (by decide) rfl ?_
  refine ev_getR (k1 := 1) 4 0 iX4_alter_1 kF_X4_10 O_0 rfl (by decide) ?_
  refine ev_iload_n iX4_alter_4 rfl rfl ?_
  refine ev_VRI iX4_alter_5 kV_X4_92 (c_tn_isSaying σ 1 a1 isT_1) (rc_T isT_1) rfl rfl (Nat.le_of_ble_eq_true rfl) (sg_fitL (by decide) (Nat.le_of_ble_eq_true rfl)) (fun r1 => ?_)
  refine ev_if_ne iX4_alter_8 ?_ ?_
  · refine ev_aload_n iX4_alter_11 rfl (by decide) rfl ?_
    refine ev_iconst iX4_alter_12 kI_0 ?_
    refine ev_VMI iX4_alter_13 kV_X4_48 (c_ns_finding σ 0) rc_0 rfl rfl (Nat.le_of_ble_eq_true rfl) (sg_fitL (by decide) (Nat.le_of_ble_eq_true rfl)) (fun r2 => ?_)
    exact ev_iret iX4_alter_16 rfl (narI rfl _)
  · refine ev_iload_n iX4_alter_17 rfl rfl ?_
    refine ev_lookup2 (dt := 76) (t1 := 44) (t2 := 60) iX4_alter_18 (by decide) rfl rfl rfl rfl rfl ?_ ?_ ?_
    · refine ev_aload_n iX4_alter_76 rfl (by decide) rfl ?_
      refine ev_iconst iX4_alter_77 kI_0 ?_
      refine ev_VMI iX4_alter_78 kV_X4_48 (c_ns_finding σ 0) rc_0 rfl rfl (Nat.le_of_ble_eq_true rfl) (sg_fitL (by decide) (Nat.le_of_ble_eq_true rfl)) (fun r3 => ?_)
      exact ev_iret iX4_alter_81 rfl (narI rfl _)
    · refine ev_aload_n iX4_alter_44 rfl (by decide) rfl ?_
      refine ev_aload_n iX4_alter_45 rfl (by decide) rfl ?_
      refine ev_getR (k1 := 1) 4 0 iX4_alter_46 kF_X4_10 O_0 rfl (by decide) ?_
      refine ev_getR (k1 := 7) 3 5 iX4_alter_49 kF_X4_95 O_1 rfl (by decide) ?_
      refine ev_iload_n iX4_alter_52 rfl rfl ?_
      refine ev_iload_n iX4_alter_53 rfl rfl ?_
      refine ev_bipush iX4_alter_54 kB_7 ?_
      refine ev_VMI iX4_alter_56 kV_X4_88 (c_ns_exchange σ 7 6 a1 a3 7 A_7) rc_0 rfl rfl (Nat.le_of_ble_eq_true rfl) (sg_fitL (by decide) (Nat.le_of_ble_eq_true rfl)) (fun r4 => ?_)
      exact ev_iret iX4_alter_59 rfl (narI rfl _)
    · refine ev_aload_n iX4_alter_60 rfl (by decide) rfl ?_
      refine ev_aload_n iX4_alter_61 rfl (by decide) rfl ?_
      refine ev_getR (k1 := 1) 4 0 iX4_alter_62 kF_X4_10 O_0 rfl (by decide) ?_
      refine ev_getR (k1 := 8) 3 6 iX4_alter_65 kF_X4_98 O_1 rfl (by decide) ?_
      refine ev_iload_n iX4_alter_68 rfl rfl ?_
      refine ev_iload_n iX4_alter_69 rfl rfl ?_
      refine ev_bipush iX4_alter_70 kB_9 ?_
      refine ev_VMI iX4_alter_72 kV_X4_88 (c_ns_exchange σ 8 6 a1 a3 9 A_8) rc_0 rfl rfl (Nat.le_of_ble_eq_true rfl) (sg_fitL (by decide) (Nat.le_of_ble_eq_true rfl)) (fun r5 => ?_)
      exact ev_iret iX4_alter_75 rfl (narI rfl _)
def ns_traced (σ : sg_S) (a1 : Int32) (a2 : Int32) : Option (Int32 × sg_S) :=
  ((tn_isSaying σ 1 a1).bind fun r1 => (if r1 = 0 then ((ns_finding σ 0).bind fun r2 => some (r2.1, r2.2)) else ((tn_isPerson σ 1 a2).bind fun r3 => (if r3 = 0 then ((ns_finding σ 0).bind fun r4 => some (r4.1, r4.2)) else ((tn_hasHeard σ 1 a1 a2).bind fun r5 => (if r5 = 0 then ((ns_finding σ 3).bind fun r6 => some (r6.1, r6.2)) else ((tn_trace σ 1 a1 a2).bind fun r7 => some (r7, σ))))))))
set_option maxRecDepth 20000 in
set_option maxHeartbeats 2000000 in
theorem c_ns_traced (σ : sg_S) (a1 : Int32) (a2 : Int32)  : sg_Call yX4_traced mX4_traced (rmL 2) [.ref 0, .int a1, .int a2] σ eMI (ns_traced σ a1 a2) := by
  refine sg_call_of (by decide +kernel) rfl (Nat.le_of_ble_eq_true rfl) rfl (fun _ => rfl) ?_
  refine ev_less (ls2 := [some (.ref 0), some (.int a1), some (.int a2)]) ?_ ⟨rfl, rfl, rfl, trivial⟩
  unfold ns_traced
  refine ev_aload_n iX4_traced_0 rfl (by decide) rfl ?_
  refine ev_getR (k1 := 1) 4 0 iX4_traced_1 kF_X4_10 O_0 rfl (by decide) ?_
  refine ev_iload_n iX4_traced_4 rfl rfl ?_
  refine ev_VRI iX4_traced_5 kV_X4_92 (c_tn_isSaying σ 1 a1 isT_1) (rc_T isT_1) rfl rfl (Nat.le_of_ble_eq_true rfl) (sg_fitL (by decide) (Nat.le_of_ble_eq_true rfl)) (fun r1 => ?_)
  refine ev_if_eq iX4_traced_8 ?_ ?_
  · refine ev_aload_n iX4_traced_22 rfl (by decide) rfl ?_
    refine ev_iconst iX4_traced_23 kI_0 ?_
    refine ev_VMI iX4_traced_24 kV_X4_48 (c_ns_finding σ 0) rc_0 rfl rfl (Nat.le_of_ble_eq_true rfl) (sg_fitL (by decide) (Nat.le_of_ble_eq_true rfl)) (fun r2 => ?_)
    exact ev_iret iX4_traced_27 rfl (narI rfl _)
  · refine ev_aload_n iX4_traced_11 rfl (by decide) rfl ?_
    refine ev_getR (k1 := 1) 4 0 iX4_traced_12 kF_X4_10 O_0 rfl (by decide) ?_
    refine ev_iload_n iX4_traced_15 rfl rfl ?_
    refine ev_VRI iX4_traced_16 kV_X4_63 (c_tn_isPerson σ 1 a2 isT_1) (rc_T isT_1) rfl rfl (Nat.le_of_ble_eq_true rfl) (sg_fitL (by decide) (Nat.le_of_ble_eq_true rfl)) (fun r3 => ?_)
    refine ev_if_ne iX4_traced_19 ?_ ?_
    · refine ev_aload_n iX4_traced_22 rfl (by decide) rfl ?_
      refine ev_iconst iX4_traced_23 kI_0 ?_
      refine ev_VMI iX4_traced_24 kV_X4_48 (c_ns_finding σ 0) rc_0 rfl rfl (Nat.le_of_ble_eq_true rfl) (sg_fitL (by decide) (Nat.le_of_ble_eq_true rfl)) (fun r4 => ?_)
      exact ev_iret iX4_traced_27 rfl (narI rfl _)
    · refine ev_aload_n iX4_traced_28 rfl (by decide) rfl ?_
      refine ev_getR (k1 := 1) 4 0 iX4_traced_29 kF_X4_10 O_0 rfl (by decide) ?_
      refine ev_iload_n iX4_traced_32 rfl rfl ?_
      refine ev_iload_n iX4_traced_33 rfl rfl ?_
      refine ev_VRI iX4_traced_34 kV_X4_104 (c_tn_hasHeard σ 1 a1 a2 isT_1) (rc_T isT_1) rfl rfl (Nat.le_of_ble_eq_true rfl) (sg_fitL (by decide) (Nat.le_of_ble_eq_true rfl)) (fun r5 => ?_)
      refine ev_if_eq iX4_traced_37 ?_ ?_
      · refine ev_aload_n iX4_traced_52 rfl (by decide) rfl ?_
        refine ev_iconst iX4_traced_53 kI_3 ?_
        refine ev_VMI iX4_traced_54 kV_X4_48 (c_ns_finding σ 3) rc_0 rfl rfl (Nat.le_of_ble_eq_true rfl) (sg_fitL (by decide) (Nat.le_of_ble_eq_true rfl)) (fun r6 => ?_)
        exact ev_iret iX4_traced_57 rfl (narI rfl _)
      · refine ev_aload_n iX4_traced_40 rfl (by decide) rfl ?_
        refine ev_getR (k1 := 1) 4 0 iX4_traced_41 kF_X4_10 O_0 rfl (by decide) ?_
        refine ev_iload_n iX4_traced_44 rfl rfl ?_
        refine ev_iload_n iX4_traced_45 rfl rfl ?_
        refine ev_VRI iX4_traced_46 kV_X4_111 (c_tn_trace σ 1 a1 a2 isT_1) (rc_T isT_1) rfl rfl (Nat.le_of_ble_eq_true rfl) (sg_fitL (by decide) (Nat.le_of_ble_eq_true rfl)) (fun r7 => ?_)
        refine ev_goto iX4_traced_49 ?_
        exact ev_iret iX4_traced_57 rfl (narI rfl _)
def ns_talk (σ : sg_S) (a1 : Int32) (a2 : Int32) : Option (Int32 × sg_S) :=
  ((tn_isPerson σ 1 a1).bind fun r1 => (if r1 = 0 then ((ns_finding σ 0).bind fun r2 => some (r2.1, r2.2)) else ((tn_isPerson σ 1 a2).bind fun r3 => (if r3 = 0 then ((ns_finding σ 0).bind fun r4 => some (r4.1, r4.2)) else (if a1 = a2 then ((ns_finding σ 0).bind fun r5 => some (r5.1, r5.2)) else (if sg_in a1 8 = true then (if (σ 5 a1.toNatClampNeg) = 0 then (if sg_in a2 8 = true then (if (σ 5 a2.toNatClampNeg) = 0 then ((tn_passOn σ 1 a1 a2).bind fun r6 => some (r6.1, r6.2)) else ((ns_finding σ 4).bind fun r7 => some (r7.1, r7.2))) else none) else ((ns_finding σ 4).bind fun r8 => some (r8.1, r8.2))) else none))))))
set_option maxRecDepth 20000 in
set_option maxHeartbeats 2000000 in
theorem c_ns_talk (σ : sg_S) (a1 : Int32) (a2 : Int32)  : sg_Call yX4_talk mX4_talk (rmL 2) [.ref 0, .int a1, .int a2] σ eMI (ns_talk σ a1 a2) := by
  refine sg_call_of (by decide +kernel) rfl (Nat.le_of_ble_eq_true rfl) rfl (fun _ => rfl) ?_
  refine ev_less (ls2 := [some (.ref 0), some (.int a1), some (.int a2)]) ?_ ⟨rfl, rfl, rfl, trivial⟩
  unfold ns_talk
  refine ev_aload_n iX4_talk_0 rfl (by decide) rfl ?_
  refine ev_getR (k1 := 1) 4 0 iX4_talk_1 kF_X4_10 O_0 rfl (by decide) ?_
  refine ev_iload_n iX4_talk_4 rfl rfl ?_
  refine ev_VRI iX4_talk_5 kV_X4_63 (c_tn_isPerson σ 1 a1 isT_1) (rc_T isT_1) rfl rfl (Nat.le_of_ble_eq_true rfl) (sg_fitL (by decide) (Nat.le_of_ble_eq_true rfl)) (fun r1 => ?_)
  refine ev_if_eq iX4_talk_8 ?_ ?_
  · refine ev_aload_n iX4_talk_27 rfl (by decide) rfl ?_
    refine ev_iconst iX4_talk_28 kI_0 ?_
    refine ev_VMI iX4_talk_29 kV_X4_48 (c_ns_finding σ 0) rc_0 rfl rfl (Nat.le_of_ble_eq_true rfl) (sg_fitL (by decide) (Nat.le_of_ble_eq_true rfl)) (fun r2 => ?_)
    exact ev_iret iX4_talk_32 rfl (narI rfl _)
  · refine ev_aload_n iX4_talk_11 rfl (by decide) rfl ?_
    refine ev_getR (k1 := 1) 4 0 iX4_talk_12 kF_X4_10 O_0 rfl (by decide) ?_
    refine ev_iload_n iX4_talk_15 rfl rfl ?_
    refine ev_VRI iX4_talk_16 kV_X4_63 (c_tn_isPerson σ 1 a2 isT_1) (rc_T isT_1) rfl rfl (Nat.le_of_ble_eq_true rfl) (sg_fitL (by decide) (Nat.le_of_ble_eq_true rfl)) (fun r3 => ?_)
    refine ev_if_eq iX4_talk_19 ?_ ?_
    · refine ev_aload_n iX4_talk_27 rfl (by decide) rfl ?_
      refine ev_iconst iX4_talk_28 kI_0 ?_
      refine ev_VMI iX4_talk_29 kV_X4_48 (c_ns_finding σ 0) rc_0 rfl rfl (Nat.le_of_ble_eq_true rfl) (sg_fitL (by decide) (Nat.le_of_ble_eq_true rfl)) (fun r4 => ?_)
      exact ev_iret iX4_talk_32 rfl (narI rfl _)
    · refine ev_iload_n iX4_talk_22 rfl rfl ?_
      refine ev_iload_n iX4_talk_23 rfl rfl ?_
      refine ev_icmp_ne iX4_talk_24 ?_ ?_
      · refine ev_aload_n iX4_talk_27 rfl (by decide) rfl ?_
        refine ev_iconst iX4_talk_28 kI_0 ?_
        refine ev_VMI iX4_talk_29 kV_X4_48 (c_ns_finding σ 0) rc_0 rfl rfl (Nat.le_of_ble_eq_true rfl) (sg_fitL (by decide) (Nat.le_of_ble_eq_true rfl)) (fun r5 => ?_)
        exact ev_iret iX4_talk_32 rfl (narI rfl _)
      · refine ev_aload_n iX4_talk_33 rfl (by decide) rfl ?_
        refine ev_getR (k1 := 1) 4 0 iX4_talk_34 kF_X4_10 O_0 rfl (by decide) ?_
        refine ev_getR (k1 := 5) 3 3 iX4_talk_37 kF_X4_79 O_1 rfl (by decide) ?_
        refine ev_iload_n iX4_talk_40 rfl rfl ?_
        refine ev_iald iX4_talk_41 A_5 ?_
        refine ev_if_ne iX4_talk_42 ?_ ?_
        · refine ev_aload_n iX4_talk_45 rfl (by decide) rfl ?_
          refine ev_getR (k1 := 1) 4 0 iX4_talk_46 kF_X4_10 O_0 rfl (by decide) ?_
          refine ev_getR (k1 := 5) 3 3 iX4_talk_49 kF_X4_79 O_1 rfl (by decide) ?_
          refine ev_iload_n iX4_talk_52 rfl rfl ?_
          refine ev_iald iX4_talk_53 A_5 ?_
          refine ev_if_eq iX4_talk_54 ?_ ?_
          · refine ev_aload_n iX4_talk_63 rfl (by decide) rfl ?_
            refine ev_getR (k1 := 1) 4 0 iX4_talk_64 kF_X4_10 O_0 rfl (by decide) ?_
            refine ev_iload_n iX4_talk_67 rfl rfl ?_
            refine ev_iload_n iX4_talk_68 rfl rfl ?_
            refine ev_VMI iX4_talk_69 kV_X4_114 (c_tn_passOn σ 1 a1 a2 isT_1) (rc_T isT_1) rfl rfl (Nat.le_of_ble_eq_true rfl) (sg_fitL (by decide) (Nat.le_of_ble_eq_true rfl)) (fun r6 => ?_)
            exact ev_iret iX4_talk_72 rfl (narI rfl _)
          · refine ev_aload_n iX4_talk_57 rfl (by decide) rfl ?_
            refine ev_iconst iX4_talk_58 kI_4 ?_
            refine ev_VMI iX4_talk_59 kV_X4_48 (c_ns_finding σ 4) rc_0 rfl rfl (Nat.le_of_ble_eq_true rfl) (sg_fitL (by decide) (Nat.le_of_ble_eq_true rfl)) (fun r7 => ?_)
            exact ev_iret iX4_talk_62 rfl (narI rfl _)
        · refine ev_aload_n iX4_talk_57 rfl (by decide) rfl ?_
          refine ev_iconst iX4_talk_58 kI_4 ?_
          refine ev_VMI iX4_talk_59 kV_X4_48 (c_ns_finding σ 4) rc_0 rfl rfl (Nat.le_of_ble_eq_true rfl) (sg_fitL (by decide) (Nat.le_of_ble_eq_true rfl)) (fun r8 => ?_)
          exact ev_iret iX4_talk_62 rfl (narI rfl _)
def ns_as (σ : sg_S) (a1 : Int32) (a2 : Int32) : Option (Int32 × sg_S) :=
  ((ns_within σ a1 9).bind fun r1 => (if r1 = 0 then ((ns_finding σ 0).bind fun r2 => some (r2.1, r2.2)) else ((ns_within σ a2 6).bind fun r3 => (if r3 = 0 then ((ns_finding σ 0).bind fun r4 => some (r4.1, r4.2)) else (if sg_in a1 10 = true then sg_leti (σ 11 a1.toNatClampNeg) (fun x5 => ((tn_isPerson σ 1 x5).bind fun r6 => (if r6 = 0 then ((ns_finding σ 5).bind fun r7 => some (r7.1, r7.2)) else (if sg_in x5 8 = true then ((ns_isUnder σ (σ 3 x5.toNatClampNeg) a2).bind fun r8 => (if r8 = 0 then ((ns_finding σ 2).bind fun r9 => some (r9.1, r9.2)) else some (x5, σ))) else none)))) else none)))))
set_option maxRecDepth 20000 in
set_option maxHeartbeats 2000000 in
theorem c_ns_as (σ : sg_S) (a1 : Int32) (a2 : Int32)  : sg_Call yX4_as mX4_as (rmL 2) [.ref 0, .int a1, .int a2] σ eMI (ns_as σ a1 a2) := by
  refine sg_call_of (by decide +kernel) rfl (Nat.le_of_ble_eq_true rfl) rfl (fun _ => rfl) ?_
  refine ev_less (ls2 := [some (.ref 0), some (.int a1), some (.int a2), none]) ?_ ⟨rfl, rfl, rfl, trivial⟩
  unfold ns_as
  refine ev_iload_n iX4_as_0 rfl rfl ?_
  refine ev_bipush iX4_as_1 kB_9 ?_
  refine ev_SRI iX4_as_3 kS_X4_44 (c_ns_within σ a1 9) rfl rfl (Nat.le_of_ble_eq_true rfl) (sg_fitL (by decide) (Nat.le_of_ble_eq_true rfl)) (fun r1 => ?_)
  refine ev_if_eq iX4_as_6 ?_ ?_
  · refine ev_aload_n iX4_as_18 rfl (by decide) rfl ?_
    refine ev_iconst iX4_as_19 kI_0 ?_
    refine ev_VMI iX4_as_20 kV_X4_48 (c_ns_finding σ 0) rc_0 rfl rfl (Nat.le_of_ble_eq_true rfl) (sg_fitL (by decide) (Nat.le_of_ble_eq_true rfl)) (fun r2 => ?_)
    exact ev_iret iX4_as_23 rfl (narI rfl _)
  · refine ev_iload_n iX4_as_9 rfl rfl ?_
    refine ev_bipush iX4_as_10 kB_6 ?_
    refine ev_SRI iX4_as_12 kS_X4_44 (c_ns_within σ a2 6) rfl rfl (Nat.le_of_ble_eq_true rfl) (sg_fitL (by decide) (Nat.le_of_ble_eq_true rfl)) (fun r3 => ?_)
    refine ev_if_ne iX4_as_15 ?_ ?_
    · refine ev_aload_n iX4_as_18 rfl (by decide) rfl ?_
      refine ev_iconst iX4_as_19 kI_0 ?_
      refine ev_VMI iX4_as_20 kV_X4_48 (c_ns_finding σ 0) rc_0 rfl rfl (Nat.le_of_ble_eq_true rfl) (sg_fitL (by decide) (Nat.le_of_ble_eq_true rfl)) (fun r4 => ?_)
      exact ev_iret iX4_as_23 rfl (narI rfl _)
    · refine ev_aload_n iX4_as_24 rfl (by decide) rfl ?_
      refine ev_getR (k1 := 1) 4 0 iX4_as_25 kF_X4_10 O_0 rfl (by decide) ?_
      refine ev_getR (k1 := 11) 3 9 iX4_as_28 kF_X4_223 O_1 rfl (by decide) ?_
      refine ev_iload_n iX4_as_31 rfl rfl ?_
      refine ev_iald iX4_as_32 A_11 ?_
      refine ev_leti (fun x5 => ?_)
      refine ev_istore_n (ls2 := [some (.ref 0), some (.int a1), some (.int a2), some (.int x5)]) iX4_as_33 rfl (Nat.le_of_ble_eq_true rfl) (Nat.le_of_ble_eq_true rfl) rfl rfl ?_
      refine ev_aload_n iX4_as_34 rfl (by decide) rfl ?_
      refine ev_getR (k1 := 1) 4 0 iX4_as_35 kF_X4_10 O_0 rfl (by decide) ?_
      refine ev_iload_n iX4_as_38 rfl rfl ?_
      refine ev_VRI iX4_as_39 kV_X4_63 (c_tn_isPerson σ 1 x5 isT_1) (rc_T isT_1) rfl rfl (Nat.le_of_ble_eq_true rfl) (sg_fitL (by decide) (Nat.le_of_ble_eq_true rfl)) (fun r6 => ?_)
      refine ev_if_ne iX4_as_42 ?_ ?_
      · refine ev_aload_n iX4_as_45 rfl (by decide) rfl ?_
        refine ev_iconst iX4_as_46 kI_5 ?_
        refine ev_VMI iX4_as_47 kV_X4_48 (c_ns_finding σ 5) rc_0 rfl rfl (Nat.le_of_ble_eq_true rfl) (sg_fitL (by decide) (Nat.le_of_ble_eq_true rfl)) (fun r7 => ?_)
        exact ev_iret iX4_as_50 rfl (narI rfl _)
      · refine ev_aload_n iX4_as_51 rfl (by decide) rfl ?_
        refine ev_getR (k1 := 1) 4 0 iX4_as_52 kF_X4_10 O_0 rfl (by decide) ?_
        refine ev_getR (k1 := 3) 3 1 iX4_as_55 kF_X4_73 O_1 rfl (by decide) ?_
        refine ev_iload_n iX4_as_58 rfl rfl ?_
        refine ev_iald iX4_as_59 A_3 ?_
        refine ev_iload_n iX4_as_60 rfl rfl ?_
        refine ev_SRI iX4_as_61 kS_X4_226 (c_ns_isUnder σ (σ 3 x5.toNatClampNeg) a2) rfl rfl (Nat.le_of_ble_eq_true rfl) (sg_fitL (by decide) (Nat.le_of_ble_eq_true rfl)) (fun r8 => ?_)
        refine ev_if_eq iX4_as_64 ?_ ?_
        · refine ev_aload_n iX4_as_71 rfl (by decide) rfl ?_
          refine ev_iconst iX4_as_72 kI_2 ?_
          refine ev_VMI iX4_as_73 kV_X4_48 (c_ns_finding σ 2) rc_0 rfl rfl (Nat.le_of_ble_eq_true rfl) (sg_fitL (by decide) (Nat.le_of_ble_eq_true rfl)) (fun r9 => ?_)
          exact ev_iret iX4_as_76 rfl (narI rfl _)
        · refine ev_iload_n iX4_as_67 rfl rfl ?_
          refine ev_goto iX4_as_68 ?_
          exact ev_iret iX4_as_76 rfl (narI rfl _)
def ns_sheet_J36 (σ : sg_S)   (v1 : Int32) (v2 : Int32) (v3 : Int32) : Option (Int32 × sg_S) :=
  (if v3 < 0 then ((ns_finding σ 6).bind fun r3 => some (r3.1, r3.2)) else (if 40 < v3 then ((ns_finding σ 0).bind fun r4 => some (r4.1, r4.2)) else (if sg_in v1 4 = true then (if v2 = 0 then ((sh_renew σ (53 + 2 * v1.toNatClampNeg) v2 0).bind fun r6 => (if sg_in v1 4 = true then some ((r6 (53 + 2 * v1.toNatClampNeg) 2), r6) else none)) else ((sh_renew σ (53 + 2 * v1.toNatClampNeg) v2 v3).bind fun r8 => (if sg_in v1 4 = true then some ((r8 (53 + 2 * v1.toNatClampNeg) 2), r8) else none))) else none)))
set_option maxRecDepth 20000 in
set_option maxHeartbeats 2000000 in
theorem e_ns_sheet_J36 (σ : sg_S)   (v1 : Int32) (v2 : Int32) (v3 : Int32)  : Ev mX4_sheet (rmL 2) 36 [some (.ref 0), some (.int v1), some (.int v2), some (.int v3)] [] σ (fun b => Sum.inl (eMI b)) (ns_sheet_J36 σ   v1 v2 v3) := by
  unfold ns_sheet_J36
  refine ev_iload_n iX4_sheet_36 rfl rfl ?_
  refine ev_if_ge iX4_sheet_37 ?_ ?_
  · refine ev_aload_n iX4_sheet_40 rfl (by decide) rfl ?_
    refine ev_bipush iX4_sheet_41 kB_6 ?_
    refine ev_VMI iX4_sheet_43 kV_X4_48 (c_ns_finding σ 6) rc_0 rfl rfl (Nat.le_of_ble_eq_true rfl) (sg_fitL (by decide) (Nat.le_of_ble_eq_true rfl)) (fun r3 => ?_)
    exact ev_iret iX4_sheet_46 rfl (narI rfl _)
  · refine ev_iload_n iX4_sheet_47 rfl rfl ?_
    refine ev_bipush iX4_sheet_48 kB_40 ?_
    refine ev_icmp_le iX4_sheet_50 ?_ ?_
    · refine ev_aload_n iX4_sheet_53 rfl (by decide) rfl ?_
      refine ev_iconst iX4_sheet_54 kI_0 ?_
      refine ev_VMI iX4_sheet_55 kV_X4_48 (c_ns_finding σ 0) rc_0 rfl rfl (Nat.le_of_ble_eq_true rfl) (sg_fitL (by decide) (Nat.le_of_ble_eq_true rfl)) (fun r4 => ?_)
      exact ev_iret iX4_sheet_58 rfl (narI rfl _)
    · refine ev_aload_n iX4_sheet_59 rfl (by decide) rfl ?_
      refine ev_getR (k1 := 52) 4 5 iX4_sheet_60 kF_X4_35 O_0 rfl (by decide) ?_
      refine ev_iload_n iX4_sheet_63 rfl rfl ?_
      refine ev_aaldS iX4_sheet_64 (fun h5 => ?_)
      refine ev_iload_n iX4_sheet_65 rfl rfl ?_
      refine ev_iload_n iX4_sheet_66 rfl rfl ?_
      refine ev_if_ne iX4_sheet_67 ?_ ?_
      · refine ev_iconst iX4_sheet_70 kI_0 ?_
        refine ev_goto iX4_sheet_71 ?_
        refine ev_VMV iX4_sheet_75 kV_X4_232 (c_sh_renew σ (53 + 2 * v1.toNatClampNeg) v2 0 (sg_isS_of h5)) (rc_S (sg_isS_of h5)) rfl rfl (Nat.le_of_ble_eq_true rfl) (sg_fitL (by decide) (Nat.le_of_ble_eq_true rfl)) (fun r6 => ?_)
        refine ev_aload_n iX4_sheet_78 rfl (by decide) rfl ?_
        refine ev_getR (k1 := 52) 4 5 iX4_sheet_79 kF_X4_35 O_0 rfl (by decide) ?_
        refine ev_iload_n iX4_sheet_82 rfl rfl ?_
        refine ev_aaldS iX4_sheet_83 (fun h7 => ?_)
        refine ev_getI 1 2 iX4_sheet_84 kF_X4_183 (isS_O (sg_isS_of h7)) rfl ?_
        exact ev_iret iX4_sheet_87 rfl (narI rfl _)
      · refine ev_iload_n iX4_sheet_74 rfl rfl ?_
        refine ev_VMV iX4_sheet_75 kV_X4_232 (c_sh_renew σ (53 + 2 * v1.toNatClampNeg) v2 v3 (sg_isS_of h5)) (rc_S (sg_isS_of h5)) rfl rfl (Nat.le_of_ble_eq_true rfl) (sg_fitL (by decide) (Nat.le_of_ble_eq_true rfl)) (fun r8 => ?_)
        refine ev_aload_n iX4_sheet_78 rfl (by decide) rfl ?_
        refine ev_getR (k1 := 52) 4 5 iX4_sheet_79 kF_X4_35 O_0 rfl (by decide) ?_
        refine ev_iload_n iX4_sheet_82 rfl rfl ?_
        refine ev_aaldS iX4_sheet_83 (fun h9 => ?_)
        refine ev_getI 1 2 iX4_sheet_84 kF_X4_183 (isS_O (sg_isS_of h9)) rfl ?_
        exact ev_iret iX4_sheet_87 rfl (narI rfl _)
def ns_sheet (σ : sg_S) (a1 : Int32) (a2 : Int32) (a3 : Int32) : Option (Int32 × sg_S) :=
  ((ns_within σ a1 3).bind fun r1 => (if r1 = 0 then ((ns_finding σ 0).bind fun r2 => some (r2.1, r2.2)) else (if a2 = 0 then ns_sheet_J36 σ a1 a2 a3 else (if a2 = 8 then ns_sheet_J36 σ a1 a2 a3 else (if a2 = 16 then ns_sheet_J36 σ a1 a2 a3 else (if a2 = 32 then ns_sheet_J36 σ a1 a2 a3 else ((ns_finding σ 0).bind fun r10 => some (r10.1, r10.2))))))))
set_option maxRecDepth 20000 in
set_option maxHeartbeats 2000000 in
theorem c_ns_sheet (σ : sg_S) (a1 : Int32) (a2 : Int32) (a3 : Int32)  : sg_Call yX4_sheet mX4_sheet (rmL 2) [.ref 0, .int a1, .int a2, .int a3] σ eMI (ns_sheet σ a1 a2 a3) := by
  refine sg_call_of (by decide +kernel) rfl (Nat.le_of_ble_eq_true rfl) rfl (fun _ => rfl) ?_
  refine ev_less (ls2 := [some (.ref 0), some (.int a1), some (.int a2), some (.int a3)]) ?_ ⟨rfl, rfl, rfl, rfl, trivial⟩
  unfold ns_sheet
  refine ev_iload_n iX4_sheet_0 rfl rfl ?_
  refine ev_iconst iX4_sheet_1 kI_3 ?_
  refine ev_SRI iX4_sheet_2 kS_X4_44 (c_ns_within σ a1 3) rfl rfl (Nat.le_of_ble_eq_true rfl) (sg_fitL (by decide) (Nat.le_of_ble_eq_true rfl)) (fun r1 => ?_)
  refine ev_if_eq iX4_sheet_5 ?_ ?_
  · refine ev_aload_n iX4_sheet_30 rfl (by decide) rfl ?_
    refine ev_iconst iX4_sheet_31 kI_0 ?_
    refine ev_VMI iX4_sheet_32 kV_X4_48 (c_ns_finding σ 0) rc_0 rfl rfl (Nat.le_of_ble_eq_true rfl) (sg_fitL (by decide) (Nat.le_of_ble_eq_true rfl)) (fun r2 => ?_)
    exact ev_iret iX4_sheet_35 rfl (narI rfl _)
  · refine ev_iload_n iX4_sheet_8 rfl rfl ?_
    refine ev_if_eq iX4_sheet_9 ?_ ?_
    · exact ev_less (e_ns_sheet_J36 σ   a1 a2 a3 ) ⟨rfl, rfl, rfl, rfl, trivial⟩
    · refine ev_iload_n iX4_sheet_12 rfl rfl ?_
      refine ev_bipush iX4_sheet_13 kB_8 ?_
      refine ev_icmp_eq iX4_sheet_15 ?_ ?_
      · exact ev_less (e_ns_sheet_J36 σ   a1 a2 a3 ) ⟨rfl, rfl, rfl, rfl, trivial⟩
      · refine ev_iload_n iX4_sheet_18 rfl rfl ?_
        refine ev_bipush iX4_sheet_19 kB_16 ?_
        refine ev_icmp_eq iX4_sheet_21 ?_ ?_
        · exact ev_less (e_ns_sheet_J36 σ   a1 a2 a3 ) ⟨rfl, rfl, rfl, rfl, trivial⟩
        · refine ev_iload_n iX4_sheet_24 rfl rfl ?_
          refine ev_bipush iX4_sheet_25 kB_32 ?_
          refine ev_icmp_eq iX4_sheet_27 ?_ ?_
          · exact ev_less (e_ns_sheet_J36 σ   a1 a2 a3 ) ⟨rfl, rfl, rfl, rfl, trivial⟩
          · refine ev_aload_n iX4_sheet_30 rfl (by decide) rfl ?_
            refine ev_iconst iX4_sheet_31 kI_0 ?_
            refine ev_VMI iX4_sheet_32 kV_X4_48 (c_ns_finding σ 0) rc_0 rfl rfl (Nat.le_of_ble_eq_true rfl) (sg_fitL (by decide) (Nat.le_of_ble_eq_true rfl)) (fun r10 => ?_)
            exact ev_iret iX4_sheet_35 rfl (narI rfl _)
def ns_image (σ : sg_S)  : Option (Int32 × sg_S) :=
  ((tn_become σ 23 1).bind fun r1 => sg_let (sg_st r1 0 3 1) (fun s2 => some (1, s2)))
set_option maxRecDepth 20000 in
set_option maxHeartbeats 2000000 in
theorem c_ns_image (σ : sg_S)   : sg_Call yX4_image mX4_image (rmL 2) [.ref 0] σ eMI (ns_image σ ) := by
  refine sg_call_of (by decide +kernel) rfl (Nat.le_of_ble_eq_true rfl) rfl (fun _ => rfl) ?_
  refine ev_less (ls2 := [some (.ref 0)]) ?_ ⟨rfl, trivial⟩
  unfold ns_image
  refine ev_aload_n iX4_image_0 rfl (by decide) rfl ?_
  refine ev_getR (k1 := 23) 4 2 iX4_image_1 kF_X4_19 O_0 rfl (by decide) ?_
  refine ev_aload_n iX4_image_4 rfl (by decide) rfl ?_
  refine ev_getR (k1 := 1) 4 0 iX4_image_5 kF_X4_10 O_0 rfl (by decide) ?_
  refine ev_VMV iX4_image_8 kV_X4_147 (c_tn_become σ 23 1 isT_23 isT_1) (rc_T isT_23) rfl rfl (Nat.le_of_ble_eq_true rfl) (sg_fitL (by decide) (Nat.le_of_ble_eq_true rfl)) (fun r1 => ?_)
  refine ev_aload_n iX4_image_11 rfl (by decide) rfl ?_
  refine ev_iconst iX4_image_12 kI_1 ?_
  refine ev_putI 4 3 iX4_image_13 kF_X4_22 fp_4_3 rfl rfl O_0 rfl ?_
  refine ev_let (fun s2 => ?_)
  refine ev_iconst iX4_image_16 kI_1 ?_
  exact ev_iret iX4_image_17 rfl (fun ty _ => nar1 ty)
def ns_undo (σ : sg_S)  : Option (Int32 × sg_S) :=
  (if (σ 0 3) = 0 then ((ns_finding σ 3).bind fun r1 => some (r1.1, r1.2)) else ((tn_become σ 1 23).bind fun r2 => some ((r2 1 13), r2)))
set_option maxRecDepth 20000 in
set_option maxHeartbeats 2000000 in
theorem c_ns_undo (σ : sg_S)   : sg_Call yX4_undo mX4_undo (rmL 2) [.ref 0] σ eMI (ns_undo σ ) := by
  refine sg_call_of (by decide +kernel) rfl (Nat.le_of_ble_eq_true rfl) rfl (fun _ => rfl) ?_
  refine ev_less (ls2 := [some (.ref 0)]) ?_ ⟨rfl, trivial⟩
  unfold ns_undo
  refine ev_aload_n iX4_undo_0 rfl (by decide) rfl ?_
  refine ev_getI 4 3 iX4_undo_1 kF_X4_22 O_0 rfl ?_
  refine ev_if_ne iX4_undo_4 ?_ ?_
  · refine ev_aload_n iX4_undo_7 rfl (by decide) rfl ?_
    refine ev_iconst iX4_undo_8 kI_3 ?_
    refine ev_VMI iX4_undo_9 kV_X4_48 (c_ns_finding σ 3) rc_0 rfl rfl (Nat.le_of_ble_eq_true rfl) (sg_fitL (by decide) (Nat.le_of_ble_eq_true rfl)) (fun r1 => ?_)
    exact ev_iret iX4_undo_12 rfl (narI rfl _)
  · refine ev_aload_n iX4_undo_13 rfl (by decide) rfl ?_
    refine ev_getR (k1 := 1) 4 0 iX4_undo_14 kF_X4_10 O_0 rfl (by decide) ?_
    refine ev_aload_n iX4_undo_17 rfl (by decide) rfl ?_
    refine ev_getR (k1 := 23) 4 2 iX4_undo_18 kF_X4_19 O_0 rfl (by decide) ?_
    refine ev_VMV iX4_undo_21 kV_X4_147 (c_tn_become σ 1 23 isT_1 isT_23) (rc_T isT_1) rfl rfl (Nat.le_of_ble_eq_true rfl) (sg_fitL (by decide) (Nat.le_of_ble_eq_true rfl)) (fun r2 => ?_)
    refine ev_aload_n iX4_undo_24 rfl (by decide) rfl ?_
    refine ev_getR (k1 := 1) 4 0 iX4_undo_25 kF_X4_10 O_0 rfl (by decide) ?_
    refine ev_getI 3 13 iX4_undo_28 kF_X4_117 O_1 rfl ?_
    exact ev_iret iX4_undo_31 rfl (narI rfl _)
def ns_now (σ : sg_S) (a1 : Int32) : Option (Int32 × sg_S) :=
  (sg_sw a1 [(0, some ((σ 1 13), σ)), (1, some ((σ 1 12), σ)), (2, ((tn_hearings σ 1).bind fun r2 => some (r2, σ))), (3, ((tn_knownToAll σ 1).bind fun r3 => some (r3, σ))), (4, ((tn_blames σ 1).bind fun r4 => some (r4, σ))), (5, ((tn_mostBlamed σ 1).bind fun r5 => some (r5, σ))), (6, ((tn_innocent σ 1).bind fun r6 => some (r6, σ))), (7, ((tn_untraceable σ 1).bind fun r7 => some (r7, σ)))] ((ns_finding σ 0).bind fun r1 => some (r1.1, r1.2)))
set_option maxRecDepth 20000 in
set_option maxHeartbeats 2000000 in
theorem c_ns_now (σ : sg_S) (a1 : Int32)  : sg_Call yX4_now mX4_now (rmL 3) [.ref 0, .int a1] σ eMI (ns_now σ a1) := by
  refine sg_call_of (by decide +kernel) rfl (Nat.le_of_ble_eq_true rfl) rfl (fun _ => rfl) ?_
  refine ev_less (ls2 := [some (.ref 0), some (.int a1)]) ?_ ⟨rfl, rfl, trivial⟩
  unfold ns_now
  refine ev_iload_n iX4_now_0 rfl rfl ?_
  refine ev_table (dt := 112) [48, 56, 64, 72, 80, 88, 96, 104] iX4_now_1 rfl rfl ⟨rfl, rfl, rfl, rfl, rfl, rfl, rfl, rfl, rfl, rfl, rfl, rfl, rfl, rfl, rfl, rfl, trivial⟩ ?_ ⟨?_, ?_, ?_, ?_, ?_, ?_, ?_, ?_, trivial⟩
  · refine ev_aload_n iX4_now_112 rfl (by decide) rfl ?_
    refine ev_iconst iX4_now_113 kI_0 ?_
    refine ev_VMI iX4_now_114 kV_X4_48 (c_ns_finding σ 0) rc_0 rfl rfl (Nat.le_of_ble_eq_true rfl) (sg_fitL (by decide) (Nat.le_of_ble_eq_true rfl)) (fun r1 => ?_)
    exact ev_iret iX4_now_117 rfl (narI rfl _)
  · refine ev_aload_n iX4_now_48 rfl (by decide) rfl ?_
    refine ev_getR (k1 := 1) 4 0 iX4_now_49 kF_X4_10 O_0 rfl (by decide) ?_
    refine ev_getI 3 13 iX4_now_52 kF_X4_117 O_1 rfl ?_
    exact ev_iret iX4_now_55 rfl (narI rfl _)
  · refine ev_aload_n iX4_now_56 rfl (by decide) rfl ?_
    refine ev_getR (k1 := 1) 4 0 iX4_now_57 kF_X4_10 O_0 rfl (by decide) ?_
    refine ev_getI 3 12 iX4_now_60 kF_X4_125 O_1 rfl ?_
    exact ev_iret iX4_now_63 rfl (narI rfl _)
  · refine ev_aload_n iX4_now_64 rfl (by decide) rfl ?_
    refine ev_getR (k1 := 1) 4 0 iX4_now_65 kF_X4_10 O_0 rfl (by decide) ?_
    refine ev_VRI iX4_now_68 kV_X4_128 (c_tn_hearings σ 1 isT_1) (rc_T isT_1) rfl rfl (Nat.le_of_ble_eq_true rfl) (sg_fitL (by decide) (Nat.le_of_ble_eq_true rfl)) (fun r2 => ?_)
    exact ev_iret iX4_now_71 rfl (narI rfl _)
  · refine ev_aload_n iX4_now_72 rfl (by decide) rfl ?_
    refine ev_getR (k1 := 1) 4 0 iX4_now_73 kF_X4_10 O_0 rfl (by decide) ?_
    refine ev_VRI iX4_now_76 kV_X4_132 (c_tn_knownToAll σ 1 isT_1) (rc_T isT_1) rfl rfl (Nat.le_of_ble_eq_true rfl) (sg_fitL (by decide) (Nat.le_of_ble_eq_true rfl)) (fun r3 => ?_)
    exact ev_iret iX4_now_79 rfl (narI rfl _)
  · refine ev_aload_n iX4_now_80 rfl (by decide) rfl ?_
    refine ev_getR (k1 := 1) 4 0 iX4_now_81 kF_X4_10 O_0 rfl (by decide) ?_
    refine ev_VRI iX4_now_84 kV_X4_135 (c_tn_blames σ 1 isT_1) (rc_T isT_1) rfl rfl (Nat.le_of_ble_eq_true rfl) (sg_fitL (by decide) (Nat.le_of_ble_eq_true rfl)) (fun r4 => ?_)
    exact ev_iret iX4_now_87 rfl (narI rfl _)
  · refine ev_aload_n iX4_now_88 rfl (by decide) rfl ?_
    refine ev_getR (k1 := 1) 4 0 iX4_now_89 kF_X4_10 O_0 rfl (by decide) ?_
    refine ev_VRI iX4_now_92 kV_X4_138 (c_tn_mostBlamed σ 1 isT_1) (rc_T isT_1) rfl rfl (Nat.le_of_ble_eq_true rfl) (sg_fitL (by decide) (Nat.le_of_ble_eq_true rfl)) (fun r5 => ?_)
    exact ev_iret iX4_now_95 rfl (narI rfl _)
  · refine ev_aload_n iX4_now_96 rfl (by decide) rfl ?_
    refine ev_getR (k1 := 1) 4 0 iX4_now_97 kF_X4_10 O_0 rfl (by decide) ?_
    refine ev_VRI iX4_now_100 kV_X4_141 (c_tn_innocent σ 1 isT_1) (rc_T isT_1) rfl rfl (Nat.le_of_ble_eq_true rfl) (sg_fitL (by decide) (Nat.le_of_ble_eq_true rfl)) (fun r6 => ?_)
    exact ev_iret iX4_now_103 rfl (narI rfl _)
  · refine ev_aload_n iX4_now_104 rfl (by decide) rfl ?_
    refine ev_getR (k1 := 1) 4 0 iX4_now_105 kF_X4_10 O_0 rfl (by decide) ?_
    refine ev_VRI iX4_now_108 kV_X4_144 (c_tn_untraceable σ 1 isT_1) (rc_T isT_1) rfl rfl (Nat.le_of_ble_eq_true rfl) (sg_fitL (by decide) (Nat.le_of_ble_eq_true rfl)) (fun r7 => ?_)
    exact ev_iret iX4_now_111 rfl (narI rfl _)
def ns_when_41_X (σ : sg_S)  (f1 : Int32) (f2 : Int32) : ((Int32 × sg_S) ⊕ (sg_S ⊕ (Int32 × sg_S))) → sg_X
  | .inl a => .inr (41, [some (.ref 0), some (.int f1), some (.int f2), some (.int a.1)], a.2)
  | .inr (.inl e) => .inr (75, [some (.ref 0), none, none, none], e)
  | .inr (.inr r) => .inl (eMI r)
def ns_when_41_L (σ : sg_S)  (f1 : Int32) (f2 : Int32) (a : (Int32 × sg_S)) : Option ((Int32 × sg_S) ⊕ (sg_S ⊕ (Int32 × sg_S))) :=
  (if 200 < a.1 then some (.inr (.inl a.2)) else ((tn_hasHeard a.2 12 f1 f2).bind fun r6 => (if r6 = 0 then ((tn_passDay a.2 12).bind fun r7 => some (.inl ((a.1 + 1), r7))) else some (.inr (.inr (a.1, a.2))))))
set_option maxRecDepth 20000 in
set_option maxHeartbeats 2000000 in
theorem e_ns_when_41_L (σ : sg_S)  (f1 : Int32) (f2 : Int32)  : ∀ a : (Int32 × sg_S), Ev mX4_when (rmL 4) 41 [some (.ref 0), some (.int f1), some (.int f2), some (.int a.1)] [] a.2 (ns_when_41_X σ  f1 f2) (ns_when_41_L σ  f1 f2 a) := by
  intro a
  unfold ns_when_41_L
  refine ev_iload_n iX4_when_41 rfl rfl ?_
  refine ev_sipush iX4_when_42 kH_200 ?_
  refine ev_icmp_gt iX4_when_45 ?_ ?_
  · exact ev_exit rfl ⟨rfl, trivial⟩
  · refine ev_aload_n iX4_when_48 rfl (by decide) rfl ?_
    refine ev_getR (k1 := 12) 4 1 iX4_when_49 kF_X4_16 O_0 rfl (by decide) ?_
    refine ev_iload_n iX4_when_52 rfl rfl ?_
    refine ev_iload_n iX4_when_53 rfl rfl ?_
    refine ev_VRI iX4_when_54 kV_X4_104 (c_tn_hasHeard a.2 12 f1 f2 isT_12) (rc_T isT_12) rfl rfl (Nat.le_of_ble_eq_true rfl) (sg_fitL (by decide) (Nat.le_of_ble_eq_true rfl)) (fun r6 => ?_)
    refine ev_if_eq iX4_when_57 ?_ ?_
    · refine ev_aload_n iX4_when_62 rfl (by decide) rfl ?_
      refine ev_getR (k1 := 12) 4 1 iX4_when_63 kF_X4_16 O_0 rfl (by decide) ?_
      refine ev_VMV iX4_when_66 kV_X4_151 (c_tn_passDay a.2 12 isT_12) (rc_T isT_12) rfl rfl (Nat.le_of_ble_eq_true rfl) (sg_fitL (by decide) (Nat.le_of_ble_eq_true rfl)) (fun r7 => ?_)
      refine ev_iinc (v := (a.1 + 1)) (ls2 := [some (.ref 0), some (.int f1), some (.int f2), some (.int (a.1 + 1))]) iX4_when_69 rfl (by rw [kI_1]) (Nat.le_of_ble_eq_true rfl) rfl rfl ?_
      refine ev_goto iX4_when_72 ?_
      exact ev_exit rfl ⟨rfl, rfl, rfl, rfl, trivial⟩
    · refine ev_iload_n iX4_when_60 rfl rfl ?_
      exact ev_iret iX4_when_61 rfl (narI rfl _)
def ns_when (σ : sg_S) (a1 : Int32) (a2 : Int32) : Option (Int32 × sg_S) :=
  ((tn_isSaying σ 1 a1).bind fun r1 => (if r1 = 0 then ((ns_finding σ 0).bind fun r2 => some (r2.1, r2.2)) else ((tn_isPerson σ 1 a2).bind fun r3 => (if r3 = 0 then ((ns_finding σ 0).bind fun r4 => some (r4.1, r4.2)) else ((tn_become σ 12 1).bind fun r5 => ((sg_lp (ns_when_41_L r5  a1 a2) 1000 (0, r5)).bind (Sum.elim (fun e10 => ((ns_finding e10 3).bind fun r11 => some (r11.1, r11.2))) (fun rr => some rr))))))))
set_option maxRecDepth 20000 in
set_option maxHeartbeats 2000000 in
theorem c_ns_when (σ : sg_S) (a1 : Int32) (a2 : Int32)  : sg_Call yX4_when mX4_when (rmL 4) [.ref 0, .int a1, .int a2] σ eMI (ns_when σ a1 a2) := by
  refine sg_call_of (by decide +kernel) rfl (Nat.le_of_ble_eq_true rfl) rfl (fun _ => rfl) ?_
  refine ev_less (ls2 := [some (.ref 0), some (.int a1), some (.int a2), none]) ?_ ⟨rfl, rfl, rfl, trivial⟩
  unfold ns_when
  refine ev_aload_n iX4_when_0 rfl (by decide) rfl ?_
  refine ev_getR (k1 := 1) 4 0 iX4_when_1 kF_X4_10 O_0 rfl (by decide) ?_
  refine ev_iload_n iX4_when_4 rfl rfl ?_
  refine ev_VRI iX4_when_5 kV_X4_92 (c_tn_isSaying σ 1 a1 isT_1) (rc_T isT_1) rfl rfl (Nat.le_of_ble_eq_true rfl) (sg_fitL (by decide) (Nat.le_of_ble_eq_true rfl)) (fun r1 => ?_)
  refine ev_if_eq iX4_when_8 ?_ ?_
  · refine ev_aload_n iX4_when_22 rfl (by decide) rfl ?_
    refine ev_iconst iX4_when_23 kI_0 ?_
    refine ev_VMI iX4_when_24 kV_X4_48 (c_ns_finding σ 0) rc_0 rfl rfl (Nat.le_of_ble_eq_true rfl) (sg_fitL (by decide) (Nat.le_of_ble_eq_true rfl)) (fun r2 => ?_)
    exact ev_iret iX4_when_27 rfl (narI rfl _)
  · refine ev_aload_n iX4_when_11 rfl (by decide) rfl ?_
    refine ev_getR (k1 := 1) 4 0 iX4_when_12 kF_X4_10 O_0 rfl (by decide) ?_
    refine ev_iload_n iX4_when_15 rfl rfl ?_
    refine ev_VRI iX4_when_16 kV_X4_63 (c_tn_isPerson σ 1 a2 isT_1) (rc_T isT_1) rfl rfl (Nat.le_of_ble_eq_true rfl) (sg_fitL (by decide) (Nat.le_of_ble_eq_true rfl)) (fun r3 => ?_)
    refine ev_if_ne iX4_when_19 ?_ ?_
    · refine ev_aload_n iX4_when_22 rfl (by decide) rfl ?_
      refine ev_iconst iX4_when_23 kI_0 ?_
      refine ev_VMI iX4_when_24 kV_X4_48 (c_ns_finding σ 0) rc_0 rfl rfl (Nat.le_of_ble_eq_true rfl) (sg_fitL (by decide) (Nat.le_of_ble_eq_true rfl)) (fun r4 => ?_)
      exact ev_iret iX4_when_27 rfl (narI rfl _)
    · refine ev_aload_n iX4_when_28 rfl (by decide) rfl ?_
      refine ev_getR (k1 := 12) 4 1 iX4_when_29 kF_X4_16 O_0 rfl (by decide) ?_
      refine ev_aload_n iX4_when_32 rfl (by decide) rfl ?_
      refine ev_getR (k1 := 1) 4 0 iX4_when_33 kF_X4_10 O_0 rfl (by decide) ?_
      refine ev_VMV iX4_when_36 kV_X4_147 (c_tn_become σ 12 1 isT_12 isT_1) (rc_T isT_12) rfl rfl (Nat.le_of_ble_eq_true rfl) (sg_fitL (by decide) (Nat.le_of_ble_eq_true rfl)) (fun r5 => ?_)
      refine ev_iconst iX4_when_39 kI_0 ?_
      refine ev_istore_n (ls2 := [some (.ref 0), some (.int a1), some (.int a2), some (.int 0)]) iX4_when_40 rfl (Nat.le_of_ble_eq_true rfl) (Nat.le_of_ble_eq_true rfl) rfl rfl ?_
      refine ev_less (ls2 := [some (.ref 0), some (.int a1), some (.int a2), some (.int 0)]) ?_ ⟨rfl, rfl, rfl, rfl, trivial⟩
      refine ev_seqS 75 (fun z9 => [some (.ref 0), none, none, none]) (fun z9 => z9) (ev_loop (embB := ns_when_41_X r5  a1 a2) (ex := fun b => ns_when_41_X r5  a1 a2 (.inr b)) 41 (fun z8 => [some (.ref 0), some (.int a1), some (.int a2), some (.int z8.1)]) (fun z8 => z8.2) (fun _ => rfl) (fun _ => rfl) (e_ns_when_41_L r5  a1 a2 ) 1000 (0, r5)) (fun _ => rfl) (fun r => ⟨_, rfl, fun a h => by cases h; rfl⟩) (fun e10 => ?_)
      refine ev_aload_n iX4_when_75 rfl (by decide) rfl ?_
      refine ev_iconst iX4_when_76 kI_3 ?_
      refine ev_VMI iX4_when_77 kV_X4_48 (c_ns_finding e10 3) rc_0 rfl rfl (Nat.le_of_ble_eq_true rfl) (sg_fitL (by decide) (Nat.le_of_ble_eq_true rfl)) (fun r11 => ?_)
      exact ev_iret iX4_when_80 rfl (narI rfl _)
def ns_blamed_40_X (σ : sg_S)  (f1 : Int32) (f2 : Int32) : ((Int32 × sg_S) ⊕ (sg_S ⊕ (Int32 × sg_S))) → sg_X
  | .inl a => .inr (40, [some (.ref 0), some (.int f1), some (.int f2), some (.int a.1)], a.2)
  | .inr (.inl e) => .inr (75, [some (.ref 0), none, none, none], e)
  | .inr (.inr r) => .inl (eMI r)
def ns_blamed_40_L (σ : sg_S)  (f1 : Int32) (f2 : Int32) (a : (Int32 × sg_S)) : Option ((Int32 × sg_S) ⊕ (sg_S ⊕ (Int32 × sg_S))) :=
  (if 200 < a.1 then some (.inr (.inl a.2)) else (if sg_in f1 8 = true then (if (a.2 17 f1.toNatClampNeg) < f2 then ((tn_passDay a.2 12).bind fun r6 => some (.inl ((a.1 + 1), r6))) else some (.inr (.inr (a.1, a.2)))) else none))
set_option maxRecDepth 20000 in
set_option maxHeartbeats 2000000 in
theorem e_ns_blamed_40_L (σ : sg_S)  (f1 : Int32) (f2 : Int32)  : ∀ a : (Int32 × sg_S), Ev mX4_blamed (rmL 4) 40 [some (.ref 0), some (.int f1), some (.int f2), some (.int a.1)] [] a.2 (ns_blamed_40_X σ  f1 f2) (ns_blamed_40_L σ  f1 f2 a) := by
  intro a
  unfold ns_blamed_40_L
  refine ev_iload_n iX4_blamed_40 rfl rfl ?_
  refine ev_sipush iX4_blamed_41 kH_200 ?_
  refine ev_icmp_gt iX4_blamed_44 ?_ ?_
  · exact ev_exit rfl ⟨rfl, trivial⟩
  · refine ev_aload_n iX4_blamed_47 rfl (by decide) rfl ?_
    refine ev_getR (k1 := 12) 4 1 iX4_blamed_48 kF_X4_16 O_0 rfl (by decide) ?_
    refine ev_getR (k1 := 17) 3 4 iX4_blamed_51 kF_X4_82 O_12 rfl (by decide) ?_
    refine ev_iload_n iX4_blamed_54 rfl rfl ?_
    refine ev_iald iX4_blamed_55 A_17 ?_
    refine ev_iload_n iX4_blamed_56 rfl rfl ?_
    refine ev_icmp_lt iX4_blamed_57 ?_ ?_
    · refine ev_aload_n iX4_blamed_62 rfl (by decide) rfl ?_
      refine ev_getR (k1 := 12) 4 1 iX4_blamed_63 kF_X4_16 O_0 rfl (by decide) ?_
      refine ev_VMV iX4_blamed_66 kV_X4_151 (c_tn_passDay a.2 12 isT_12) (rc_T isT_12) rfl rfl (Nat.le_of_ble_eq_true rfl) (sg_fitL (by decide) (Nat.le_of_ble_eq_true rfl)) (fun r6 => ?_)
      refine ev_iinc (v := (a.1 + 1)) (ls2 := [some (.ref 0), some (.int f1), some (.int f2), some (.int (a.1 + 1))]) iX4_blamed_69 rfl (by rw [kI_1]) (Nat.le_of_ble_eq_true rfl) rfl rfl ?_
      refine ev_goto iX4_blamed_72 ?_
      exact ev_exit rfl ⟨rfl, rfl, rfl, rfl, trivial⟩
    · refine ev_iload_n iX4_blamed_60 rfl rfl ?_
      exact ev_iret iX4_blamed_61 rfl (narI rfl _)
def ns_blamed (σ : sg_S) (a1 : Int32) (a2 : Int32) : Option (Int32 × sg_S) :=
  ((tn_isPerson σ 1 a1).bind fun r1 => (if r1 = 0 then ((ns_finding σ 0).bind fun r2 => some (r2.1, r2.2)) else ((ns_within σ a2 9999).bind fun r3 => (if r3 = 0 then ((ns_finding σ 0).bind fun r4 => some (r4.1, r4.2)) else ((tn_become σ 12 1).bind fun r5 => ((sg_lp (ns_blamed_40_L r5  a1 a2) 1000 (0, r5)).bind (Sum.elim (fun e9 => ((ns_finding e9 3).bind fun r10 => some (r10.1, r10.2))) (fun rr => some rr))))))))
set_option maxRecDepth 20000 in
set_option maxHeartbeats 2000000 in
theorem c_ns_blamed (σ : sg_S) (a1 : Int32) (a2 : Int32)  : sg_Call yX4_blamed mX4_blamed (rmL 4) [.ref 0, .int a1, .int a2] σ eMI (ns_blamed σ a1 a2) := by
  refine sg_call_of (by decide +kernel) rfl (Nat.le_of_ble_eq_true rfl) rfl (fun _ => rfl) ?_
  refine ev_less (ls2 := [some (.ref 0), some (.int a1), some (.int a2), none]) ?_ ⟨rfl, rfl, rfl, trivial⟩
  unfold ns_blamed
  refine ev_aload_n iX4_blamed_0 rfl (by decide) rfl ?_
  refine ev_getR (k1 := 1) 4 0 iX4_blamed_1 kF_X4_10 O_0 rfl (by decide) ?_
  refine ev_iload_n iX4_blamed_4 rfl rfl ?_
  refine ev_VRI iX4_blamed_5 kV_X4_63 (c_tn_isPerson σ 1 a1 isT_1) (rc_T isT_1) rfl rfl (Nat.le_of_ble_eq_true rfl) (sg_fitL (by decide) (Nat.le_of_ble_eq_true rfl)) (fun r1 => ?_)
  refine ev_if_eq iX4_blamed_8 ?_ ?_
  · refine ev_aload_n iX4_blamed_21 rfl (by decide) rfl ?_
    refine ev_iconst iX4_blamed_22 kI_0 ?_
    refine ev_VMI iX4_blamed_23 kV_X4_48 (c_ns_finding σ 0) rc_0 rfl rfl (Nat.le_of_ble_eq_true rfl) (sg_fitL (by decide) (Nat.le_of_ble_eq_true rfl)) (fun r2 => ?_)
    exact ev_iret iX4_blamed_26 rfl (narI rfl _)
  · refine ev_iload_n iX4_blamed_11 rfl rfl ?_
    refine ev_sipush iX4_blamed_12 kH_9999 ?_
    refine ev_SRI iX4_blamed_15 kS_X4_44 (c_ns_within σ a2 9999) rfl rfl (Nat.le_of_ble_eq_true rfl) (sg_fitL (by decide) (Nat.le_of_ble_eq_true rfl)) (fun r3 => ?_)
    refine ev_if_ne iX4_blamed_18 ?_ ?_
    · refine ev_aload_n iX4_blamed_21 rfl (by decide) rfl ?_
      refine ev_iconst iX4_blamed_22 kI_0 ?_
      refine ev_VMI iX4_blamed_23 kV_X4_48 (c_ns_finding σ 0) rc_0 rfl rfl (Nat.le_of_ble_eq_true rfl) (sg_fitL (by decide) (Nat.le_of_ble_eq_true rfl)) (fun r4 => ?_)
      exact ev_iret iX4_blamed_26 rfl (narI rfl _)
    · refine ev_aload_n iX4_blamed_27 rfl (by decide) rfl ?_
      refine ev_getR (k1 := 12) 4 1 iX4_blamed_28 kF_X4_16 O_0 rfl (by decide) ?_
      refine ev_aload_n iX4_blamed_31 rfl (by decide) rfl ?_
      refine ev_getR (k1 := 1) 4 0 iX4_blamed_32 kF_X4_10 O_0 rfl (by decide) ?_
      refine ev_VMV iX4_blamed_35 kV_X4_147 (c_tn_become σ 12 1 isT_12 isT_1) (rc_T isT_12) rfl rfl (Nat.le_of_ble_eq_true rfl) (sg_fitL (by decide) (Nat.le_of_ble_eq_true rfl)) (fun r5 => ?_)
      refine ev_iconst iX4_blamed_38 kI_0 ?_
      refine ev_istore_n (ls2 := [some (.ref 0), some (.int a1), some (.int a2), some (.int 0)]) iX4_blamed_39 rfl (Nat.le_of_ble_eq_true rfl) (Nat.le_of_ble_eq_true rfl) rfl rfl ?_
      refine ev_less (ls2 := [some (.ref 0), some (.int a1), some (.int a2), some (.int 0)]) ?_ ⟨rfl, rfl, rfl, rfl, trivial⟩
      refine ev_seqS 75 (fun z8 => [some (.ref 0), none, none, none]) (fun z8 => z8) (ev_loop (embB := ns_blamed_40_X r5  a1 a2) (ex := fun b => ns_blamed_40_X r5  a1 a2 (.inr b)) 40 (fun z7 => [some (.ref 0), some (.int a1), some (.int a2), some (.int z7.1)]) (fun z7 => z7.2) (fun _ => rfl) (fun _ => rfl) (e_ns_blamed_40_L r5  a1 a2 ) 1000 (0, r5)) (fun _ => rfl) (fun r => ⟨_, rfl, fun a h => by cases h; rfl⟩) (fun e9 => ?_)
      refine ev_aload_n iX4_blamed_75 rfl (by decide) rfl ?_
      refine ev_iconst iX4_blamed_76 kI_3 ?_
      refine ev_VMI iX4_blamed_77 kV_X4_48 (c_ns_finding e9 3) rc_0 rfl rfl (Nat.le_of_ble_eq_true rfl) (sg_fitL (by decide) (Nat.le_of_ble_eq_true rfl)) (fun r10 => ?_)
      exact ev_iret iX4_blamed_80 rfl (narI rfl _)
def ns_fund_28_X (σ : sg_S)  (f1 : Int32) : ((Int32 × sg_S) ⊕ (sg_S ⊕ (Int32 × sg_S))) → sg_X
  | .inl a => .inr (28, [some (.ref 0), some (.int f1), some (.int a.1)], a.2)
  | .inr (.inl e) => .inr (61, [some (.ref 0), none, none], e)
  | .inr (.inr r) => .inl (eMI r)
def ns_fund_28_L (σ : sg_S)  (f1 : Int32) (a : (Int32 × sg_S)) : Option ((Int32 × sg_S) ⊕ (sg_S ⊕ (Int32 × sg_S))) :=
  (if 200 < a.1 then some (.inr (.inl a.2)) else (if (a.2 12 12) < f1 then ((tn_passDay a.2 12).bind fun r4 => some (.inl ((a.1 + 1), r4))) else some (.inr (.inr (a.1, a.2)))))
set_option maxRecDepth 20000 in
set_option maxHeartbeats 2000000 in
theorem e_ns_fund_28_L (σ : sg_S)  (f1 : Int32)  : ∀ a : (Int32 × sg_S), Ev mX4_fund (rmL 4) 28 [some (.ref 0), some (.int f1), some (.int a.1)] [] a.2 (ns_fund_28_X σ  f1) (ns_fund_28_L σ  f1 a) := by
  intro a
  unfold ns_fund_28_L
  refine ev_iload_n iX4_fund_28 rfl rfl ?_
  refine ev_sipush iX4_fund_29 kH_200 ?_
  refine ev_icmp_gt iX4_fund_32 ?_ ?_
  · exact ev_exit rfl ⟨rfl, trivial⟩
  · refine ev_aload_n iX4_fund_35 rfl (by decide) rfl ?_
    refine ev_getR (k1 := 12) 4 1 iX4_fund_36 kF_X4_16 O_0 rfl (by decide) ?_
    refine ev_getI 3 12 iX4_fund_39 kF_X4_125 O_12 rfl ?_
    refine ev_iload_n iX4_fund_42 rfl rfl ?_
    refine ev_icmp_lt iX4_fund_43 ?_ ?_
    · refine ev_aload_n iX4_fund_48 rfl (by decide) rfl ?_
      refine ev_getR (k1 := 12) 4 1 iX4_fund_49 kF_X4_16 O_0 rfl (by decide) ?_
      refine ev_VMV iX4_fund_52 kV_X4_151 (c_tn_passDay a.2 12 isT_12) (rc_T isT_12) rfl rfl (Nat.le_of_ble_eq_true rfl) (sg_fitL (by decide) (Nat.le_of_ble_eq_true rfl)) (fun r4 => ?_)
      refine ev_iinc (v := (a.1 + 1)) (ls2 := [some (.ref 0), some (.int f1), some (.int (a.1 + 1))]) iX4_fund_55 rfl (by rw [kI_1]) (Nat.le_of_ble_eq_true rfl) rfl rfl ?_
      refine ev_goto iX4_fund_58 ?_
      exact ev_exit rfl ⟨rfl, rfl, rfl, trivial⟩
    · refine ev_iload_n iX4_fund_46 rfl rfl ?_
      exact ev_iret iX4_fund_47 rfl (narI rfl _)
def ns_fund (σ : sg_S) (a1 : Int32) : Option (Int32 × sg_S) :=
  ((ns_within σ a1 99999).bind fun r1 => (if r1 = 0 then ((ns_finding σ 0).bind fun r2 => some (r2.1, r2.2)) else ((tn_become σ 12 1).bind fun r3 => ((sg_lp (ns_fund_28_L r3  a1) 1000 (0, r3)).bind (Sum.elim (fun e7 => ((ns_finding e7 3).bind fun r8 => some (r8.1, r8.2))) (fun rr => some rr))))))
set_option maxRecDepth 20000 in
set_option maxHeartbeats 2000000 in
theorem c_ns_fund (σ : sg_S) (a1 : Int32)  : sg_Call yX4_fund mX4_fund (rmL 4) [.ref 0, .int a1] σ eMI (ns_fund σ a1) := by
  refine sg_call_of (by decide +kernel) rfl (Nat.le_of_ble_eq_true rfl) rfl (fun _ => rfl) ?_
  refine ev_less (ls2 := [some (.ref 0), some (.int a1), none]) ?_ ⟨rfl, rfl, trivial⟩
  unfold ns_fund
  refine ev_iload_n iX4_fund_0 rfl rfl ?_
  refine ev_ldc iX4_fund_1 kC_X4_120 ?_
  refine ev_SRI iX4_fund_3 kS_X4_44 (c_ns_within σ a1 99999) rfl rfl (Nat.le_of_ble_eq_true rfl) (sg_fitL (by decide) (Nat.le_of_ble_eq_true rfl)) (fun r1 => ?_)
  refine ev_if_ne iX4_fund_6 ?_ ?_
  · refine ev_aload_n iX4_fund_9 rfl (by decide) rfl ?_
    refine ev_iconst iX4_fund_10 kI_0 ?_
    refine ev_VMI iX4_fund_11 kV_X4_48 (c_ns_finding σ 0) rc_0 rfl rfl (Nat.le_of_ble_eq_true rfl) (sg_fitL (by decide) (Nat.le_of_ble_eq_true rfl)) (fun r2 => ?_)
    exact ev_iret iX4_fund_14 rfl (narI rfl _)
  · refine ev_aload_n iX4_fund_15 rfl (by decide) rfl ?_
    refine ev_getR (k1 := 12) 4 1 iX4_fund_16 kF_X4_16 O_0 rfl (by decide) ?_
    refine ev_aload_n iX4_fund_19 rfl (by decide) rfl ?_
    refine ev_getR (k1 := 1) 4 0 iX4_fund_20 kF_X4_10 O_0 rfl (by decide) ?_
    refine ev_VMV iX4_fund_23 kV_X4_147 (c_tn_become σ 12 1 isT_12 isT_1) (rc_T isT_12) rfl rfl (Nat.le_of_ble_eq_true rfl) (sg_fitL (by decide) (Nat.le_of_ble_eq_true rfl)) (fun r3 => ?_)
    refine ev_iconst iX4_fund_26 kI_0 ?_
    refine ev_istore_n (ls2 := [some (.ref 0), some (.int a1), some (.int 0)]) iX4_fund_27 rfl (Nat.le_of_ble_eq_true rfl) (Nat.le_of_ble_eq_true rfl) rfl rfl ?_
    refine ev_less (ls2 := [some (.ref 0), some (.int a1), some (.int 0)]) ?_ ⟨rfl, rfl, rfl, trivial⟩
    refine ev_seqS 61 (fun z6 => [some (.ref 0), none, none]) (fun z6 => z6) (ev_loop (embB := ns_fund_28_X r3  a1) (ex := fun b => ns_fund_28_X r3  a1 (.inr b)) 28 (fun z5 => [some (.ref 0), some (.int a1), some (.int z5.1)]) (fun z5 => z5.2) (fun _ => rfl) (fun _ => rfl) (e_ns_fund_28_L r3  a1 ) 1000 (0, r3)) (fun _ => rfl) (fun r => ⟨_, rfl, fun a h => by cases h; rfl⟩) (fun e7 => ?_)
    refine ev_aload_n iX4_fund_61 rfl (by decide) rfl ?_
    refine ev_iconst iX4_fund_62 kI_3 ?_
    refine ev_VMI iX4_fund_63 kV_X4_48 (c_ns_finding e7 3) rc_0 rfl rfl (Nat.le_of_ble_eq_true rfl) (sg_fitL (by decide) (Nat.le_of_ble_eq_true rfl)) (fun r8 => ?_)
    exact ev_iret iX4_fund_66 rfl (narI rfl _)
def ns_hearersAreAsTold_2_X (σ : sg_S) (b1 : Nat) (f2 : Int32) : ((Int32 × sg_S) ⊕ (sg_S ⊕ (Int32 × sg_S))) → sg_X
  | .inl a => .inr (2, [some (.ref 0), some (.ref b1), some (.int f2), some (.int a.1)], a.2)
  | .inr (.inl e) => .inr (46, [none, none, none, none], e)
  | .inr (.inr r) => .inl (eMI r)
def ns_hearersAreAsTold_2_J21 (σ : sg_S) (b1 : Nat) (f2 : Int32) (v3 : Int32) : Option ((Int32 × sg_S) ⊕ (sg_S ⊕ (Int32 × sg_S))) :=
  (if sg_in f2 6 = true then ((sh_allows σ b1 v3 (σ 20 f2.toNatClampNeg)).bind fun r2 => (if r2 = 0 then some (.inr (.inr (0, σ))) else some (.inl ((v3 + 1), σ)))) else none)
set_option maxRecDepth 20000 in
set_option maxHeartbeats 2000000 in
theorem e_ns_hearersAreAsTold_2_J21 (σ : sg_S) (b1 : Nat) (f2 : Int32) (v3 : Int32) (hb1 : sg_isS b1) : Ev mX4_hearersAreAsTold (rmL 4) 21 [some (.ref 0), some (.ref b1), some (.int f2), some (.int v3)] [] σ (ns_hearersAreAsTold_2_X σ b1 f2) (ns_hearersAreAsTold_2_J21 σ b1 f2 v3) := by
  unfold ns_hearersAreAsTold_2_J21
  refine ev_aload_n iX4_hearersAreAsTold_21 rfl (isS_ne hb1) rfl ?_
  refine ev_iload_n iX4_hearersAreAsTold_22 rfl rfl ?_
  refine ev_aload_n iX4_hearersAreAsTold_23 rfl (by decide) rfl ?_
  refine ev_getR (k1 := 12) 4 1 iX4_hearersAreAsTold_24 kF_X4_16 O_0 rfl (by decide) ?_
  refine ev_getR (k1 := 20) 3 7 iX4_hearersAreAsTold_27 kF_X4_101 O_12 rfl (by decide) ?_
  refine ev_iload_n iX4_hearersAreAsTold_30 rfl rfl ?_
  refine ev_iald iX4_hearersAreAsTold_31 A_20 ?_
  refine ev_VRI iX4_hearersAreAsTold_32 kV_X4_186 (c_sh_allows σ b1 v3 (σ 20 f2.toNatClampNeg) hb1) (rc_S hb1) rfl rfl (Nat.le_of_ble_eq_true rfl) (sg_fitL (by decide) (Nat.le_of_ble_eq_true rfl)) (fun r2 => ?_)
  refine ev_if_ne iX4_hearersAreAsTold_35 ?_ ?_
  · refine ev_iconst iX4_hearersAreAsTold_38 kI_0 ?_
    exact ev_iret iX4_hearersAreAsTold_39 rfl (fun ty _ => nar0 ty)
  · refine ev_iinc (v := (v3 + 1)) (ls2 := [some (.ref 0), some (.ref b1), some (.int f2), some (.int (v3 + 1))]) iX4_hearersAreAsTold_40 rfl (by rw [kI_1]) (Nat.le_of_ble_eq_true rfl) rfl rfl ?_
    refine ev_goto iX4_hearersAreAsTold_43 ?_
    exact ev_exit rfl ⟨rfl, rfl, rfl, rfl, trivial⟩
def ns_hearersAreAsTold_2_L (σ : sg_S) (b1 : Nat) (f2 : Int32) (a : (Int32 × sg_S)) : Option ((Int32 × sg_S) ⊕ (sg_S ⊕ (Int32 × sg_S))) :=
  (if a.1 < (a.2 b1 2) then (if 0 < a.1 then ((tn_passDay a.2 12).bind fun r1 => ns_hearersAreAsTold_2_J21 r1 b1 f2 a.1) else ns_hearersAreAsTold_2_J21 a.2 b1 f2 a.1) else some (.inr (.inl a.2)))
set_option maxRecDepth 20000 in
set_option maxHeartbeats 2000000 in
theorem e_ns_hearersAreAsTold_2_L (σ : sg_S) (b1 : Nat) (f2 : Int32) (hb1 : sg_isS b1) : ∀ a : (Int32 × sg_S), Ev mX4_hearersAreAsTold (rmL 4) 2 [some (.ref 0), some (.ref b1), some (.int f2), some (.int a.1)] [] a.2 (ns_hearersAreAsTold_2_X σ b1 f2) (ns_hearersAreAsTold_2_L σ b1 f2 a) := by
  intro a
  unfold ns_hearersAreAsTold_2_L
  refine ev_iload_n iX4_hearersAreAsTold_2 rfl rfl ?_
  refine ev_aload_n iX4_hearersAreAsTold_3 rfl (isS_ne hb1) rfl ?_
  refine ev_getI 1 2 iX4_hearersAreAsTold_4 kF_X4_183 (isS_O hb1) rfl ?_
  refine ev_icmp_ge iX4_hearersAreAsTold_7 ?_ ?_
  · refine ev_iload_n iX4_hearersAreAsTold_10 rfl rfl ?_
    refine ev_if_le iX4_hearersAreAsTold_11 ?_ ?_
    · refine ev_aload_n iX4_hearersAreAsTold_14 rfl (by decide) rfl ?_
      refine ev_getR (k1 := 12) 4 1 iX4_hearersAreAsTold_15 kF_X4_16 O_0 rfl (by decide) ?_
      refine ev_VMV iX4_hearersAreAsTold_18 kV_X4_151 (c_tn_passDay a.2 12 isT_12) (rc_T isT_12) rfl rfl (Nat.le_of_ble_eq_true rfl) (sg_fitL (by decide) (Nat.le_of_ble_eq_true rfl)) (fun r1 => ?_)
      exact ev_less (e_ns_hearersAreAsTold_2_J21 r1 b1 f2 a.1 hb1) ⟨rfl, rfl, rfl, rfl, trivial⟩
    · exact ev_less (e_ns_hearersAreAsTold_2_J21 a.2 b1 f2 a.1 hb1) ⟨rfl, rfl, rfl, rfl, trivial⟩
  · exact ev_exit rfl trivial
def ns_hearersAreAsTold (σ : sg_S) (b1 : Nat) (a2 : Int32) : Option (Int32 × sg_S) :=
  ((sg_lp (ns_hearersAreAsTold_2_L σ b1 a2) 1000 (0, σ)).bind (Sum.elim (fun e5 => some (1, e5)) (fun rr => some rr)))
set_option maxRecDepth 20000 in
set_option maxHeartbeats 2000000 in
theorem c_ns_hearersAreAsTold (σ : sg_S) (b1 : Nat) (a2 : Int32) (hb1 : sg_isS b1) : sg_Call yX4_hearersAreAsTold mX4_hearersAreAsTold (rmL 4) [.ref 0, .ref b1, .int a2] σ eMI (ns_hearersAreAsTold σ b1 a2) := by
  refine sg_call_of (by decide +kernel) rfl (Nat.le_of_ble_eq_true rfl) rfl (fun _ => rfl) ?_
  refine ev_less (ls2 := [some (.ref 0), some (.ref b1), some (.int a2), none]) ?_ ⟨rfl, rfl, rfl, trivial⟩
  unfold ns_hearersAreAsTold
  refine ev_iconst iX4_hearersAreAsTold_0 kI_0 ?_
  refine ev_istore_n (ls2 := [some (.ref 0), some (.ref b1), some (.int a2), some (.int 0)]) iX4_hearersAreAsTold_1 rfl (Nat.le_of_ble_eq_true rfl) (Nat.le_of_ble_eq_true rfl) rfl rfl ?_
  refine ev_less (ls2 := [some (.ref 0), some (.ref b1), some (.int a2), some (.int 0)]) ?_ ⟨rfl, rfl, rfl, rfl, trivial⟩
  refine ev_seqS 46 (fun z4 => [none, none, none, none]) (fun z4 => z4) (ev_loop (embB := ns_hearersAreAsTold_2_X σ b1 a2) (ex := fun b => ns_hearersAreAsTold_2_X σ b1 a2 (.inr b)) 2 (fun z3 => [some (.ref 0), some (.ref b1), some (.int a2), some (.int z3.1)]) (fun z3 => z3.2) (fun _ => rfl) (fun _ => rfl) (e_ns_hearersAreAsTold_2_L σ b1 a2 hb1) 1000 (0, σ)) (fun _ => rfl) (fun r => ⟨_, rfl, fun a h => by cases h; rfl⟩) (fun e5 => ?_)
  refine ev_iconst iX4_hearersAreAsTold_46 kI_1 ?_
  exact ev_iret iX4_hearersAreAsTold_47 rfl (fun ty _ => nar1 ty)
def ns_sayingsAreAsTold_2_X (σ : sg_S) (b1 : Nat) (f2 : Int32) : ((Int32 × sg_S) ⊕ (sg_S ⊕ (Int32 × sg_S))) → sg_X
  | .inl a => .inr (2, [some (.ref 0), some (.ref b1), some (.int f2), some (.int a.1)], a.2)
  | .inr (.inl e) => .inr (45, [none, none, none, none], e)
  | .inr (.inr r) => .inl (eMI r)
def ns_sayingsAreAsTold_2_J21 (σ : sg_S) (b1 : Nat) (f2 : Int32) (v3 : Int32) : Option ((Int32 × sg_S) ⊕ (sg_S ⊕ (Int32 × sg_S))) :=
  ((tn_heardBy σ 12 f2).bind fun r2 => ((sh_allows σ b1 v3 r2).bind fun r3 => (if r3 = 0 then some (.inr (.inr (0, σ))) else some (.inl ((v3 + 1), σ)))))
set_option maxRecDepth 20000 in
set_option maxHeartbeats 2000000 in
theorem e_ns_sayingsAreAsTold_2_J21 (σ : sg_S) (b1 : Nat) (f2 : Int32) (v3 : Int32) (hb1 : sg_isS b1) : Ev mX4_sayingsAreAsTold (rmL 4) 21 [some (.ref 0), some (.ref b1), some (.int f2), some (.int v3)] [] σ (ns_sayingsAreAsTold_2_X σ b1 f2) (ns_sayingsAreAsTold_2_J21 σ b1 f2 v3) := by
  unfold ns_sayingsAreAsTold_2_J21
  refine ev_aload_n iX4_sayingsAreAsTold_21 rfl (isS_ne hb1) rfl ?_
  refine ev_iload_n iX4_sayingsAreAsTold_22 rfl rfl ?_
  refine ev_aload_n iX4_sayingsAreAsTold_23 rfl (by decide) rfl ?_
  refine ev_getR (k1 := 12) 4 1 iX4_sayingsAreAsTold_24 kF_X4_16 O_0 rfl (by decide) ?_
  refine ev_iload_n iX4_sayingsAreAsTold_27 rfl rfl ?_
  refine ev_VRI iX4_sayingsAreAsTold_28 kV_X4_85 (c_tn_heardBy σ 12 f2 isT_12) (rc_T isT_12) rfl rfl (Nat.le_of_ble_eq_true rfl) (sg_fitL (by decide) (Nat.le_of_ble_eq_true rfl)) (fun r2 => ?_)
  refine ev_VRI iX4_sayingsAreAsTold_31 kV_X4_186 (c_sh_allows σ b1 v3 r2 hb1) (rc_S hb1) rfl rfl (Nat.le_of_ble_eq_true rfl) (sg_fitL (by decide) (Nat.le_of_ble_eq_true rfl)) (fun r3 => ?_)
  refine ev_if_ne iX4_sayingsAreAsTold_34 ?_ ?_
  · refine ev_iconst iX4_sayingsAreAsTold_37 kI_0 ?_
    exact ev_iret iX4_sayingsAreAsTold_38 rfl (fun ty _ => nar0 ty)
  · refine ev_iinc (v := (v3 + 1)) (ls2 := [some (.ref 0), some (.ref b1), some (.int f2), some (.int (v3 + 1))]) iX4_sayingsAreAsTold_39 rfl (by rw [kI_1]) (Nat.le_of_ble_eq_true rfl) rfl rfl ?_
    refine ev_goto iX4_sayingsAreAsTold_42 ?_
    exact ev_exit rfl ⟨rfl, rfl, rfl, rfl, trivial⟩
def ns_sayingsAreAsTold_2_L (σ : sg_S) (b1 : Nat) (f2 : Int32) (a : (Int32 × sg_S)) : Option ((Int32 × sg_S) ⊕ (sg_S ⊕ (Int32 × sg_S))) :=
  (if a.1 < (a.2 b1 2) then (if 0 < a.1 then ((tn_passDay a.2 12).bind fun r1 => ns_sayingsAreAsTold_2_J21 r1 b1 f2 a.1) else ns_sayingsAreAsTold_2_J21 a.2 b1 f2 a.1) else some (.inr (.inl a.2)))
set_option maxRecDepth 20000 in
set_option maxHeartbeats 2000000 in
theorem e_ns_sayingsAreAsTold_2_L (σ : sg_S) (b1 : Nat) (f2 : Int32) (hb1 : sg_isS b1) : ∀ a : (Int32 × sg_S), Ev mX4_sayingsAreAsTold (rmL 4) 2 [some (.ref 0), some (.ref b1), some (.int f2), some (.int a.1)] [] a.2 (ns_sayingsAreAsTold_2_X σ b1 f2) (ns_sayingsAreAsTold_2_L σ b1 f2 a) := by
  intro a
  unfold ns_sayingsAreAsTold_2_L
  refine ev_iload_n iX4_sayingsAreAsTold_2 rfl rfl ?_
  refine ev_aload_n iX4_sayingsAreAsTold_3 rfl (isS_ne hb1) rfl ?_
  refine ev_getI 1 2 iX4_sayingsAreAsTold_4 kF_X4_183 (isS_O hb1) rfl ?_
  refine ev_icmp_ge iX4_sayingsAreAsTold_7 ?_ ?_
  · refine ev_iload_n iX4_sayingsAreAsTold_10 rfl rfl ?_
    refine ev_if_le iX4_sayingsAreAsTold_11 ?_ ?_
    · refine ev_aload_n iX4_sayingsAreAsTold_14 rfl (by decide) rfl ?_
      refine ev_getR (k1 := 12) 4 1 iX4_sayingsAreAsTold_15 kF_X4_16 O_0 rfl (by decide) ?_
      refine ev_VMV iX4_sayingsAreAsTold_18 kV_X4_151 (c_tn_passDay a.2 12 isT_12) (rc_T isT_12) rfl rfl (Nat.le_of_ble_eq_true rfl) (sg_fitL (by decide) (Nat.le_of_ble_eq_true rfl)) (fun r1 => ?_)
      exact ev_less (e_ns_sayingsAreAsTold_2_J21 r1 b1 f2 a.1 hb1) ⟨rfl, rfl, rfl, rfl, trivial⟩
    · exact ev_less (e_ns_sayingsAreAsTold_2_J21 a.2 b1 f2 a.1 hb1) ⟨rfl, rfl, rfl, rfl, trivial⟩
  · exact ev_exit rfl trivial
def ns_sayingsAreAsTold (σ : sg_S) (b1 : Nat) (a2 : Int32) : Option (Int32 × sg_S) :=
  ((sg_lp (ns_sayingsAreAsTold_2_L σ b1 a2) 1000 (0, σ)).bind (Sum.elim (fun e6 => some (1, e6)) (fun rr => some rr)))
set_option maxRecDepth 20000 in
set_option maxHeartbeats 2000000 in
theorem c_ns_sayingsAreAsTold (σ : sg_S) (b1 : Nat) (a2 : Int32) (hb1 : sg_isS b1) : sg_Call yX4_sayingsAreAsTold mX4_sayingsAreAsTold (rmL 4) [.ref 0, .ref b1, .int a2] σ eMI (ns_sayingsAreAsTold σ b1 a2) := by
  refine sg_call_of (by decide +kernel) rfl (Nat.le_of_ble_eq_true rfl) rfl (fun _ => rfl) ?_
  refine ev_less (ls2 := [some (.ref 0), some (.ref b1), some (.int a2), none]) ?_ ⟨rfl, rfl, rfl, trivial⟩
  unfold ns_sayingsAreAsTold
  refine ev_iconst iX4_sayingsAreAsTold_0 kI_0 ?_
  refine ev_istore_n (ls2 := [some (.ref 0), some (.ref b1), some (.int a2), some (.int 0)]) iX4_sayingsAreAsTold_1 rfl (Nat.le_of_ble_eq_true rfl) (Nat.le_of_ble_eq_true rfl) rfl rfl ?_
  refine ev_less (ls2 := [some (.ref 0), some (.ref b1), some (.int a2), some (.int 0)]) ?_ ⟨rfl, rfl, rfl, rfl, trivial⟩
  refine ev_seqS 45 (fun z5 => [none, none, none, none]) (fun z5 => z5) (ev_loop (embB := ns_sayingsAreAsTold_2_X σ b1 a2) (ex := fun b => ns_sayingsAreAsTold_2_X σ b1 a2 (.inr b)) 2 (fun z4 => [some (.ref 0), some (.ref b1), some (.int a2), some (.int z4.1)]) (fun z4 => z4.2) (fun _ => rfl) (fun _ => rfl) (e_ns_sayingsAreAsTold_2_L σ b1 a2 hb1) 1000 (0, σ)) (fun _ => rfl) (fun r => ⟨_, rfl, fun a h => by cases h; rfl⟩) (fun e6 => ?_)
  refine ev_iconst iX4_sayingsAreAsTold_45 kI_1 ?_
  exact ev_iret iX4_sayingsAreAsTold_46 rfl (fun ty _ => nar1 ty)
def ns_evening_39_X (σ : sg_S)  (f1 : Int32) : ((Int32 × sg_S) ⊕ sg_S) → sg_X
  | .inl a => .inr (39, [some (.ref 0), some (.int f1), some (.int a.1), none, none], a.2)
  | .inr e => .inr (90, [some (.ref 0), none, none, none, none], e)
def ns_evening_39_L (σ : sg_S)  (f1 : Int32) (a : (Int32 × sg_S)) : Option ((Int32 × sg_S) ⊕ sg_S) :=
  (if a.1 < f1 then ((tn_draw a.2 1).bind fun r4 => sg_leti (jrem r4.1 8) (fun x5 => ((tn_draw r4.2 1).bind fun r6 => sg_leti (jrem r6.1 8) (fun x7 => ((tn_listToday r6.2 1 x5 x7).bind fun r8 => ((tn_passDay r8 1).bind fun r9 => some (.inl ((a.1 + 1), r9)))))))) else some (.inr a.2))
set_option maxRecDepth 20000 in
set_option maxHeartbeats 2000000 in
theorem e_ns_evening_39_L (σ : sg_S)  (f1 : Int32)  : ∀ a : (Int32 × sg_S), Ev mX4_evening (rmL 4) 39 [some (.ref 0), some (.int f1), some (.int a.1), none, none] [] a.2 (ns_evening_39_X σ  f1) (ns_evening_39_L σ  f1 a) := by
  intro a
  unfold ns_evening_39_L
  refine ev_iload_n iX4_evening_39 rfl rfl ?_
  refine ev_iload_n iX4_evening_40 rfl rfl ?_
  refine ev_icmp_ge iX4_evening_41 ?_ ?_
  · refine ev_aload_n iX4_evening_44 rfl (by decide) rfl ?_
    refine ev_getR (k1 := 1) 4 0 iX4_evening_45 kF_X4_10 O_0 rfl (by decide) ?_
    refine ev_VMI iX4_evening_48 kV_X4_192 (c_tn_draw a.2 1 isT_1) (rc_T isT_1) rfl rfl (Nat.le_of_ble_eq_true rfl) (sg_fitL (by decide) (Nat.le_of_ble_eq_true rfl)) (fun r4 => ?_)
    refine ev_bipush iX4_evening_51 kB_8 ?_
    refine ev_iremK iX4_evening_53 (by decide) ?_
    refine ev_leti (fun x5 => ?_)
    refine ev_istore_n (ls2 := [some (.ref 0), some (.int f1), some (.int a.1), some (.int x5), none]) iX4_evening_54 rfl (Nat.le_of_ble_eq_true rfl) (Nat.le_of_ble_eq_true rfl) rfl rfl ?_
    refine ev_aload_n iX4_evening_55 rfl (by decide) rfl ?_
    refine ev_getR (k1 := 1) 4 0 iX4_evening_56 kF_X4_10 O_0 rfl (by decide) ?_
    refine ev_VMI iX4_evening_59 kV_X4_192 (c_tn_draw r4.2 1 isT_1) (rc_T isT_1) rfl rfl (Nat.le_of_ble_eq_true rfl) (sg_fitL (by decide) (Nat.le_of_ble_eq_true rfl)) (fun r6 => ?_)
    refine ev_bipush iX4_evening_62 kB_8 ?_
    refine ev_iremK iX4_evening_64 (by decide) ?_
    refine ev_leti (fun x7 => ?_)
    refine ev_istore (ls2 := [some (.ref 0), some (.int f1), some (.int a.1), some (.int x5), some (.int x7)]) iX4_evening_65 (Nat.le_of_ble_eq_true rfl) (Nat.le_of_ble_eq_true rfl) rfl rfl ?_
    refine ev_aload_n iX4_evening_67 rfl (by decide) rfl ?_
    refine ev_getR (k1 := 1) 4 0 iX4_evening_68 kF_X4_10 O_0 rfl (by decide) ?_
    refine ev_iload_n iX4_evening_71 rfl rfl ?_
    refine ev_iload iX4_evening_72 rfl ?_
    refine ev_VMV iX4_evening_74 kV_X4_176 (c_tn_listToday r6.2 1 x5 x7 isT_1) (rc_T isT_1) rfl rfl (Nat.le_of_ble_eq_true rfl) (sg_fitL (by decide) (Nat.le_of_ble_eq_true rfl)) (fun r8 => ?_)
    refine ev_aload_n iX4_evening_77 rfl (by decide) rfl ?_
    refine ev_getR (k1 := 1) 4 0 iX4_evening_78 kF_X4_10 O_0 rfl (by decide) ?_
    refine ev_VMV iX4_evening_81 kV_X4_151 (c_tn_passDay r8 1 isT_1) (rc_T isT_1) rfl rfl (Nat.le_of_ble_eq_true rfl) (sg_fitL (by decide) (Nat.le_of_ble_eq_true rfl)) (fun r9 => ?_)
    refine ev_iinc (v := (a.1 + 1)) (ls2 := [some (.ref 0), some (.int f1), some (.int (a.1 + 1)), some (.int x5), some (.int x7)]) iX4_evening_84 rfl (by rw [kI_1]) (Nat.le_of_ble_eq_true rfl) rfl rfl ?_
    refine ev_goto iX4_evening_87 ?_
    exact ev_exit rfl ⟨rfl, rfl, rfl, trivial⟩
  · exact ev_exit rfl ⟨rfl, trivial⟩
def ns_evening (σ : sg_S) (a1 : Int32) : Option (Int32 × sg_S) :=
  (if a1 < 1 then ((ns_finding σ 0).bind fun r1 => some (r1.1, r1.2)) else (if 20 < a1 then ((ns_finding σ 0).bind fun r2 => some (r2.1, r2.2)) else (if 99999 < ((σ 1 13) + a1) then ((ns_finding σ 4).bind fun r3 => some (r3.1, r3.2)) else ((sg_lp (ns_evening_39_L σ  a1) 1000 (0, σ)).bind fun e12 => some ((e12 1 12), e12)))))
set_option maxRecDepth 20000 in
set_option maxHeartbeats 2000000 in
theorem c_ns_evening (σ : sg_S) (a1 : Int32)  : sg_Call yX4_evening mX4_evening (rmL 4) [.ref 0, .int a1] σ eMI (ns_evening σ a1) := by
  refine sg_call_of (by decide +kernel) rfl (Nat.le_of_ble_eq_true rfl) rfl (fun _ => rfl) ?_
  refine ev_less (ls2 := [some (.ref 0), some (.int a1), none, none, none]) ?_ ⟨rfl, rfl, trivial⟩
  unfold ns_evening
  refine ev_iload_n iX4_evening_0 rfl rfl ?_
  refine ev_iconst iX4_evening_1 kI_1 ?_
  refine ev_icmp_lt iX4_evening_2 ?_ ?_
  · refine ev_aload_n iX4_evening_11 rfl (by decide) rfl ?_
    refine ev_iconst iX4_evening_12 kI_0 ?_
    refine ev_VMI iX4_evening_13 kV_X4_48 (c_ns_finding σ 0) rc_0 rfl rfl (Nat.le_of_ble_eq_true rfl) (sg_fitL (by decide) (Nat.le_of_ble_eq_true rfl)) (fun r1 => ?_)
    exact ev_iret iX4_evening_16 rfl (narI rfl _)
  · refine ev_iload_n iX4_evening_5 rfl rfl ?_
    refine ev_bipush iX4_evening_6 kB_20 ?_
    refine ev_icmp_le iX4_evening_8 ?_ ?_
    · refine ev_aload_n iX4_evening_11 rfl (by decide) rfl ?_
      refine ev_iconst iX4_evening_12 kI_0 ?_
      refine ev_VMI iX4_evening_13 kV_X4_48 (c_ns_finding σ 0) rc_0 rfl rfl (Nat.le_of_ble_eq_true rfl) (sg_fitL (by decide) (Nat.le_of_ble_eq_true rfl)) (fun r2 => ?_)
      exact ev_iret iX4_evening_16 rfl (narI rfl _)
    · refine ev_aload_n iX4_evening_17 rfl (by decide) rfl ?_
      refine ev_getR (k1 := 1) 4 0 iX4_evening_18 kF_X4_10 O_0 rfl (by decide) ?_
      refine ev_getI 3 13 iX4_evening_21 kF_X4_117 O_1 rfl ?_
      refine ev_iload_n iX4_evening_24 rfl rfl ?_
      refine ev_iadd iX4_evening_25 ?_
      refine ev_ldc iX4_evening_26 kC_X4_120 ?_
      refine ev_icmp_le iX4_evening_28 ?_ ?_
      · refine ev_aload_n iX4_evening_31 rfl (by decide) rfl ?_
        refine ev_iconst iX4_evening_32 kI_4 ?_
        refine ev_VMI iX4_evening_33 kV_X4_48 (c_ns_finding σ 4) rc_0 rfl rfl (Nat.le_of_ble_eq_true rfl) (sg_fitL (by decide) (Nat.le_of_ble_eq_true rfl)) (fun r3 => ?_)
        exact ev_iret iX4_evening_36 rfl (narI rfl _)
      · refine ev_iconst iX4_evening_37 kI_0 ?_
        refine ev_istore_n (ls2 := [some (.ref 0), some (.int a1), some (.int 0), none, none]) iX4_evening_38 rfl (Nat.le_of_ble_eq_true rfl) (Nat.le_of_ble_eq_true rfl) rfl rfl ?_
        refine ev_less (ls2 := [some (.ref 0), some (.int a1), some (.int 0), none, none]) ?_ ⟨rfl, rfl, rfl, trivial⟩
        refine ev_seq1 90 (fun z11 => [some (.ref 0), none, none, none, none]) (fun z11 => z11) (ev_loop (embB := ns_evening_39_X σ  a1) (ex := fun b => ns_evening_39_X σ  a1 (.inr b)) 39 (fun z10 => [some (.ref 0), some (.int a1), some (.int z10.1), none, none]) (fun z10 => z10.2) (fun _ => rfl) (fun _ => rfl) (e_ns_evening_39_L σ  a1 ) 1000 (0, σ)) (fun _ => rfl) (fun e12 => ?_)
        refine ev_aload_n iX4_evening_90 rfl (by decide) rfl ?_
        refine ev_getR (k1 := 1) 4 0 iX4_evening_91 kF_X4_10 O_0 rfl (by decide) ?_
        refine ev_getI 3 12 iX4_evening_94 kF_X4_125 O_1 rfl ?_
        exact ev_iret iX4_evening_97 rfl (narI rfl _)
def ns_go (σ : sg_S) (a1 : Int32) : Option (Int32 × sg_S) :=
  (if a1 < 1 then ((ns_finding σ 0).bind fun r1 => some (r1.1, r1.2)) else (if 60 < a1 then ((ns_finding σ 0).bind fun r2 => some (r2.1, r2.2)) else (if 99999 < ((σ 1 13) + a1) then ((ns_finding σ 4).bind fun r3 => some (r3.1, r3.2)) else ((tn_passDays σ 1 a1).bind fun r4 => some ((r4 1 12), r4)))))
set_option maxRecDepth 20000 in
set_option maxHeartbeats 2000000 in
theorem c_ns_go (σ : sg_S) (a1 : Int32)  : sg_Call yX4_go mX4_go (rmL 5) [.ref 0, .int a1] σ eMI (ns_go σ a1) := by
  refine sg_call_of (by decide +kernel) rfl (Nat.le_of_ble_eq_true rfl) rfl (fun _ => rfl) ?_
  refine ev_less (ls2 := [some (.ref 0), some (.int a1)]) ?_ ⟨rfl, rfl, trivial⟩
  unfold ns_go
  refine ev_iload_n iX4_go_0 rfl rfl ?_
  refine ev_iconst iX4_go_1 kI_1 ?_
  refine ev_icmp_lt iX4_go_2 ?_ ?_
  · refine ev_aload_n iX4_go_11 rfl (by decide) rfl ?_
    refine ev_iconst iX4_go_12 kI_0 ?_
    refine ev_VMI iX4_go_13 kV_X4_48 (c_ns_finding σ 0) rc_0 rfl rfl (Nat.le_of_ble_eq_true rfl) (sg_fitL (by decide) (Nat.le_of_ble_eq_true rfl)) (fun r1 => ?_)
    exact ev_iret iX4_go_16 rfl (narI rfl _)
  · refine ev_iload_n iX4_go_5 rfl rfl ?_
    refine ev_bipush iX4_go_6 kB_60 ?_
    refine ev_icmp_le iX4_go_8 ?_ ?_
    · refine ev_aload_n iX4_go_11 rfl (by decide) rfl ?_
      refine ev_iconst iX4_go_12 kI_0 ?_
      refine ev_VMI iX4_go_13 kV_X4_48 (c_ns_finding σ 0) rc_0 rfl rfl (Nat.le_of_ble_eq_true rfl) (sg_fitL (by decide) (Nat.le_of_ble_eq_true rfl)) (fun r2 => ?_)
      exact ev_iret iX4_go_16 rfl (narI rfl _)
    · refine ev_aload_n iX4_go_17 rfl (by decide) rfl ?_
      refine ev_getR (k1 := 1) 4 0 iX4_go_18 kF_X4_10 O_0 rfl (by decide) ?_
      refine ev_getI 3 13 iX4_go_21 kF_X4_117 O_1 rfl ?_
      refine ev_iload_n iX4_go_24 rfl rfl ?_
      refine ev_iadd iX4_go_25 ?_
      refine ev_ldc iX4_go_26 kC_X4_120 ?_
      refine ev_icmp_le iX4_go_28 ?_ ?_
      · refine ev_aload_n iX4_go_31 rfl (by decide) rfl ?_
        refine ev_iconst iX4_go_32 kI_4 ?_
        refine ev_VMI iX4_go_33 kV_X4_48 (c_ns_finding σ 4) rc_0 rfl rfl (Nat.le_of_ble_eq_true rfl) (sg_fitL (by decide) (Nat.le_of_ble_eq_true rfl)) (fun r3 => ?_)
        exact ev_iret iX4_go_36 rfl (narI rfl _)
      · refine ev_aload_n iX4_go_37 rfl (by decide) rfl ?_
        refine ev_getR (k1 := 1) 4 0 iX4_go_38 kF_X4_10 O_0 rfl (by decide) ?_
        refine ev_iload_n iX4_go_41 rfl rfl ?_
        refine ev_VMV iX4_go_42 kV_X4_121 (c_tn_passDays σ 1 a1 isT_1) (rc_T isT_1) rfl rfl (Nat.le_of_ble_eq_true rfl) (sg_fitL (by decide) (Nat.le_of_ble_eq_true rfl)) (fun r4 => ?_)
        refine ev_aload_n iX4_go_45 rfl (by decide) rfl ?_
        refine ev_getR (k1 := 1) 4 0 iX4_go_46 kF_X4_10 O_0 rfl (by decide) ?_
        refine ev_getI 3 12 iX4_go_49 kF_X4_125 O_1 rfl ?_
        exact ev_iret iX4_go_52 rfl (narI rfl _)
def ns_ahead_J21 (σ : sg_S)   (v1 : Int32) (v2 : Int32) (v3 : Int32) : Option (Int32 × sg_S) :=
  ((ns_within σ v3 100).bind fun r3 => (if r3 = 0 then ((ns_finding σ 0).bind fun r4 => some (r4.1, r4.2)) else ((tn_become σ 12 1).bind fun r5 => ((tn_passDays r5 12 v3).bind fun r6 => (if v2 = 3 then (if sg_in v1 8 = true then some ((r6 17 v1.toNatClampNeg), r6) else none) else ((tn_heardBy r6 12 v1).bind fun r7 => some (r7, r6)))))))
set_option maxRecDepth 20000 in
set_option maxHeartbeats 2000000 in
theorem e_ns_ahead_J21 (σ : sg_S)   (v1 : Int32) (v2 : Int32) (v3 : Int32)  : Ev mX4_ahead (rmL 5) 21 [some (.ref 0), some (.int v1), some (.int v2), some (.int v3)] [] σ (fun b => Sum.inl (eMI b)) (ns_ahead_J21 σ   v1 v2 v3) := by
  unfold ns_ahead_J21
  refine ev_iload_n iX4_ahead_21 rfl rfl ?_
  refine ev_bipush iX4_ahead_22 kB_100 ?_
  refine ev_SRI iX4_ahead_24 kS_X4_44 (c_ns_within σ v3 100) rfl rfl (Nat.le_of_ble_eq_true rfl) (sg_fitL (by decide) (Nat.le_of_ble_eq_true rfl)) (fun r3 => ?_)
  refine ev_if_ne iX4_ahead_27 ?_ ?_
  · refine ev_aload_n iX4_ahead_30 rfl (by decide) rfl ?_
    refine ev_iconst iX4_ahead_31 kI_0 ?_
    refine ev_VMI iX4_ahead_32 kV_X4_48 (c_ns_finding σ 0) rc_0 rfl rfl (Nat.le_of_ble_eq_true rfl) (sg_fitL (by decide) (Nat.le_of_ble_eq_true rfl)) (fun r4 => ?_)
    exact ev_iret iX4_ahead_35 rfl (narI rfl _)
  · refine ev_aload_n iX4_ahead_36 rfl (by decide) rfl ?_
    refine ev_getR (k1 := 12) 4 1 iX4_ahead_37 kF_X4_16 O_0 rfl (by decide) ?_
    refine ev_aload_n iX4_ahead_40 rfl (by decide) rfl ?_
    refine ev_getR (k1 := 1) 4 0 iX4_ahead_41 kF_X4_10 O_0 rfl (by decide) ?_
    refine ev_VMV iX4_ahead_44 kV_X4_147 (c_tn_become σ 12 1 isT_12 isT_1) (rc_T isT_12) rfl rfl (Nat.le_of_ble_eq_true rfl) (sg_fitL (by decide) (Nat.le_of_ble_eq_true rfl)) (fun r5 => ?_)
    refine ev_aload_n iX4_ahead_47 rfl (by decide) rfl ?_
    refine ev_getR (k1 := 12) 4 1 iX4_ahead_48 kF_X4_16 O_0 rfl (by decide) ?_
    refine ev_iload_n iX4_ahead_51 rfl rfl ?_
    refine ev_VMV iX4_ahead_52 kV_X4_121 (c_tn_passDays r5 12 v3 isT_12) (rc_T isT_12) rfl rfl (Nat.le_of_ble_eq_true rfl) (sg_fitL (by decide) (Nat.le_of_ble_eq_true rfl)) (fun r6 => ?_)
    refine ev_iload_n iX4_ahead_55 rfl rfl ?_
    refine ev_iconst iX4_ahead_56 kI_3 ?_
    refine ev_icmp_ne iX4_ahead_57 ?_ ?_
    · refine ev_aload_n iX4_ahead_60 rfl (by decide) rfl ?_
      refine ev_getR (k1 := 12) 4 1 iX4_ahead_61 kF_X4_16 O_0 rfl (by decide) ?_
      refine ev_getR (k1 := 17) 3 4 iX4_ahead_64 kF_X4_82 O_12 rfl (by decide) ?_
      refine ev_iload_n iX4_ahead_67 rfl rfl ?_
      refine ev_iald iX4_ahead_68 A_17 ?_
      refine ev_goto iX4_ahead_69 ?_
      exact ev_iret iX4_ahead_80 rfl (narI rfl _)
    · refine ev_aload_n iX4_ahead_72 rfl (by decide) rfl ?_
      refine ev_getR (k1 := 12) 4 1 iX4_ahead_73 kF_X4_16 O_0 rfl (by decide) ?_
      refine ev_iload_n iX4_ahead_76 rfl rfl ?_
      refine ev_VRI iX4_ahead_77 kV_X4_85 (c_tn_heardBy r6 12 v1 isT_12) (rc_T isT_12) rfl rfl (Nat.le_of_ble_eq_true rfl) (sg_fitL (by decide) (Nat.le_of_ble_eq_true rfl)) (fun r7 => ?_)
      exact ev_iret iX4_ahead_80 rfl (narI rfl _)
def ns_ahead (σ : sg_S) (a1 : Int32) (a2 : Int32) (a3 : Int32) : Option (Int32 × sg_S) :=
  ((tn_isPerson σ 1 a1).bind fun r1 => (if r1 = 0 then ((ns_finding σ 0).bind fun r2 => some (r2.1, r2.2)) else (if a2 = 3 then ns_ahead_J21 σ a1 a2 a3 else (if a2 = 4 then ns_ahead_J21 σ a1 a2 a3 else ((ns_finding σ 0).bind fun r8 => some (r8.1, r8.2))))))
set_option maxRecDepth 20000 in
set_option maxHeartbeats 2000000 in
theorem c_ns_ahead (σ : sg_S) (a1 : Int32) (a2 : Int32) (a3 : Int32)  : sg_Call yX4_ahead mX4_ahead (rmL 5) [.ref 0, .int a1, .int a2, .int a3] σ eMI (ns_ahead σ a1 a2 a3) := by
  refine sg_call_of (by decide +kernel) rfl (Nat.le_of_ble_eq_true rfl) rfl (fun _ => rfl) ?_
  refine ev_less (ls2 := [some (.ref 0), some (.int a1), some (.int a2), some (.int a3)]) ?_ ⟨rfl, rfl, rfl, rfl, trivial⟩
  unfold ns_ahead
  refine ev_aload_n iX4_ahead_0 rfl (by decide) rfl ?_
  refine ev_getR (k1 := 1) 4 0 iX4_ahead_1 kF_X4_10 O_0 rfl (by decide) ?_
  refine ev_iload_n iX4_ahead_4 rfl rfl ?_
  refine ev_VRI iX4_ahead_5 kV_X4_63 (c_tn_isPerson σ 1 a1 isT_1) (rc_T isT_1) rfl rfl (Nat.le_of_ble_eq_true rfl) (sg_fitL (by decide) (Nat.le_of_ble_eq_true rfl)) (fun r1 => ?_)
  refine ev_if_eq iX4_ahead_8 ?_ ?_
  · refine ev_aload_n iX4_ahead_30 rfl (by decide) rfl ?_
    refine ev_iconst iX4_ahead_31 kI_0 ?_
    refine ev_VMI iX4_ahead_32 kV_X4_48 (c_ns_finding σ 0) rc_0 rfl rfl (Nat.le_of_ble_eq_true rfl) (sg_fitL (by decide) (Nat.le_of_ble_eq_true rfl)) (fun r2 => ?_)
    exact ev_iret iX4_ahead_35 rfl (narI rfl _)
  · refine ev_iload_n iX4_ahead_11 rfl rfl ?_
    refine ev_iconst iX4_ahead_12 kI_3 ?_
    refine ev_icmp_eq iX4_ahead_13 ?_ ?_
    · exact ev_less (e_ns_ahead_J21 σ   a1 a2 a3 ) ⟨rfl, rfl, rfl, rfl, trivial⟩
    · refine ev_iload_n iX4_ahead_16 rfl rfl ?_
      refine ev_iconst iX4_ahead_17 kI_4 ?_
      refine ev_icmp_ne iX4_ahead_18 ?_ ?_
      · exact ev_less (e_ns_ahead_J21 σ   a1 a2 a3 ) ⟨rfl, rfl, rfl, rfl, trivial⟩
      · refine ev_aload_n iX4_ahead_30 rfl (by decide) rfl ?_
        refine ev_iconst iX4_ahead_31 kI_0 ?_
        refine ev_VMI iX4_ahead_32 kV_X4_48 (c_ns_finding σ 0) rc_0 rfl rfl (Nat.le_of_ble_eq_true rfl) (sg_fitL (by decide) (Nat.le_of_ble_eq_true rfl)) (fun r8 => ?_)
        exact ev_iret iX4_ahead_35 rfl (narI rfl _)
def ns_spread (σ : sg_S) (a1 : Int32) (a2 : Int32) : Option (Int32 × sg_S) :=
  ((tn_isSaying σ 1 a1).bind fun r1 => (if r1 = 0 then ((ns_finding σ 0).bind fun r2 => some (r2.1, r2.2)) else ((ns_within σ a2 100).bind fun r3 => (if r3 = 0 then ((ns_finding σ 0).bind fun r4 => some (r4.1, r4.2)) else ((tn_become σ 12 1).bind fun r5 => ((tn_passDays r5 12 a2).bind fun r6 => (if sg_in a1 6 = true then some ((r6 20 a1.toNatClampNeg), r6) else none)))))))
set_option maxRecDepth 20000 in
set_option maxHeartbeats 2000000 in
theorem c_ns_spread (σ : sg_S) (a1 : Int32) (a2 : Int32)  : sg_Call yX4_spread mX4_spread (rmL 5) [.ref 0, .int a1, .int a2] σ eMI (ns_spread σ a1 a2) := by
  refine sg_call_of (by decide +kernel) rfl (Nat.le_of_ble_eq_true rfl) rfl (fun _ => rfl) ?_
  refine ev_less (ls2 := [some (.ref 0), some (.int a1), some (.int a2)]) ?_ ⟨rfl, rfl, rfl, trivial⟩
  unfold ns_spread
  refine ev_aload_n iX4_spread_0 rfl (by decide) rfl ?_
  refine ev_getR (k1 := 1) 4 0 iX4_spread_1 kF_X4_10 O_0 rfl (by decide) ?_
  refine ev_iload_n iX4_spread_4 rfl rfl ?_
  refine ev_VRI iX4_spread_5 kV_X4_92 (c_tn_isSaying σ 1 a1 isT_1) (rc_T isT_1) rfl rfl (Nat.le_of_ble_eq_true rfl) (sg_fitL (by decide) (Nat.le_of_ble_eq_true rfl)) (fun r1 => ?_)
  refine ev_if_eq iX4_spread_8 ?_ ?_
  · refine ev_aload_n iX4_spread_20 rfl (by decide) rfl ?_
    refine ev_iconst iX4_spread_21 kI_0 ?_
    refine ev_VMI iX4_spread_22 kV_X4_48 (c_ns_finding σ 0) rc_0 rfl rfl (Nat.le_of_ble_eq_true rfl) (sg_fitL (by decide) (Nat.le_of_ble_eq_true rfl)) (fun r2 => ?_)
    exact ev_iret iX4_spread_25 rfl (narI rfl _)
  · refine ev_iload_n iX4_spread_11 rfl rfl ?_
    refine ev_bipush iX4_spread_12 kB_100 ?_
    refine ev_SRI iX4_spread_14 kS_X4_44 (c_ns_within σ a2 100) rfl rfl (Nat.le_of_ble_eq_true rfl) (sg_fitL (by decide) (Nat.le_of_ble_eq_true rfl)) (fun r3 => ?_)
    refine ev_if_ne iX4_spread_17 ?_ ?_
    · refine ev_aload_n iX4_spread_20 rfl (by decide) rfl ?_
      refine ev_iconst iX4_spread_21 kI_0 ?_
      refine ev_VMI iX4_spread_22 kV_X4_48 (c_ns_finding σ 0) rc_0 rfl rfl (Nat.le_of_ble_eq_true rfl) (sg_fitL (by decide) (Nat.le_of_ble_eq_true rfl)) (fun r4 => ?_)
      exact ev_iret iX4_spread_25 rfl (narI rfl _)
    · refine ev_aload_n iX4_spread_26 rfl (by decide) rfl ?_
      refine ev_getR (k1 := 12) 4 1 iX4_spread_27 kF_X4_16 O_0 rfl (by decide) ?_
      refine ev_aload_n iX4_spread_30 rfl (by decide) rfl ?_
      refine ev_getR (k1 := 1) 4 0 iX4_spread_31 kF_X4_10 O_0 rfl (by decide) ?_
      refine ev_VMV iX4_spread_34 kV_X4_147 (c_tn_become σ 12 1 isT_12 isT_1) (rc_T isT_12) rfl rfl (Nat.le_of_ble_eq_true rfl) (sg_fitL (by decide) (Nat.le_of_ble_eq_true rfl)) (fun r5 => ?_)
      refine ev_aload_n iX4_spread_37 rfl (by decide) rfl ?_
      refine ev_getR (k1 := 12) 4 1 iX4_spread_38 kF_X4_16 O_0 rfl (by decide) ?_
      refine ev_iload_n iX4_spread_41 rfl rfl ?_
      refine ev_VMV iX4_spread_42 kV_X4_121 (c_tn_passDays r5 12 a2 isT_12) (rc_T isT_12) rfl rfl (Nat.le_of_ble_eq_true rfl) (sg_fitL (by decide) (Nat.le_of_ble_eq_true rfl)) (fun r6 => ?_)
      refine ev_aload_n iX4_spread_45 rfl (by decide) rfl ?_
      refine ev_getR (k1 := 12) 4 1 iX4_spread_46 kF_X4_16 O_0 rfl (by decide) ?_
      refine ev_getR (k1 := 20) 3 7 iX4_spread_49 kF_X4_101 O_12 rfl (by decide) ?_
      refine ev_iload_n iX4_spread_52 rfl rfl ?_
      refine ev_iald iX4_spread_53 A_20 ?_
      exact ev_iret iX4_spread_54 rfl (narI rfl _)
def ns_beginner_34_X (σ : sg_S)  (f1 : Int32) (f2 : Int32) : ((Int32 × Int32 × Int32 × sg_S) ⊕ (Int32 × sg_S)) → sg_X
  | .inl a => .inr (34, [some (.ref 0), some (.int f1), some (.int f2), some (.int a.1), some (.int a.2.1), some (.int a.2.2.1), none], a.2.2.2)
  | .inr e => .inr (109, [some (.ref 0), none, none, some (.int e.1), none, none, none], e.2)
def ns_beginner_34_L (σ : sg_S)  (f1 : Int32) (f2 : Int32) (a : (Int32 × Int32 × Int32 × sg_S)) : Option ((Int32 × Int32 × Int32 × sg_S) ⊕ (Int32 × sg_S)) :=
  (if a.2.2.1 < (a.2.2.2 1 10) then ((tn_become a.2.2.2 12 1).bind fun r5 => ((tn_begin r5 12 f1 a.2.2.1).bind fun r6 => ((tn_passDays r6 12 f2).bind fun r7 => (if sg_in f1 6 = true then ((jd6_bitCount r7 (r7 20 f1.toNatClampNeg)).bind fun r8 => (if a.2.1 < r8 then some (.inl (a.2.2.1, r8, (a.2.2.1 + 1), r7)) else some (.inl (a.1, a.2.1, (a.2.2.1 + 1), r7)))) else none)))) else some (.inr (a.1, a.2.2.2)))
set_option maxRecDepth 20000 in
set_option maxHeartbeats 2000000 in
theorem e_ns_beginner_34_L (σ : sg_S)  (f1 : Int32) (f2 : Int32)  : ∀ a : (Int32 × Int32 × Int32 × sg_S), Ev mX4_beginner (rmL 5) 34 [some (.ref 0), some (.int f1), some (.int f2), some (.int a.1), some (.int a.2.1), some (.int a.2.2.1), none] [] a.2.2.2 (ns_beginner_34_X σ  f1 f2) (ns_beginner_34_L σ  f1 f2 a) := by
  intro a
  unfold ns_beginner_34_L
  refine ev_iload iX4_beginner_34 rfl ?_
  refine ev_aload_n iX4_beginner_36 rfl (by decide) rfl ?_
  refine ev_getR (k1 := 1) 4 0 iX4_beginner_37 kF_X4_10 O_0 rfl (by decide) ?_
  refine ev_getI 3 10 iX4_beginner_40 kF_X4_55 O_1 rfl ?_
  refine ev_icmp_ge iX4_beginner_43 ?_ ?_
  · refine ev_aload_n iX4_beginner_46 rfl (by decide) rfl ?_
    refine ev_getR (k1 := 12) 4 1 iX4_beginner_47 kF_X4_16 O_0 rfl (by decide) ?_
    refine ev_aload_n iX4_beginner_50 rfl (by decide) rfl ?_
    refine ev_getR (k1 := 1) 4 0 iX4_beginner_51 kF_X4_10 O_0 rfl (by decide) ?_
    refine ev_VMV iX4_beginner_54 kV_X4_147 (c_tn_become a.2.2.2 12 1 isT_12 isT_1) (rc_T isT_12) rfl rfl (Nat.le_of_ble_eq_true rfl) (sg_fitL (by decide) (Nat.le_of_ble_eq_true rfl)) (fun r5 => ?_)
    refine ev_aload_n iX4_beginner_57 rfl (by decide) rfl ?_
    refine ev_getR (k1 := 12) 4 1 iX4_beginner_58 kF_X4_16 O_0 rfl (by decide) ?_
    refine ev_iload_n iX4_beginner_61 rfl rfl ?_
    refine ev_iload iX4_beginner_62 rfl ?_
    refine ev_VMV iX4_beginner_64 kV_X4_154 (c_tn_begin r5 12 f1 a.2.2.1 isT_12) (rc_T isT_12) rfl rfl (Nat.le_of_ble_eq_true rfl) (sg_fitL (by decide) (Nat.le_of_ble_eq_true rfl)) (fun r6 => ?_)
    refine ev_aload_n iX4_beginner_67 rfl (by decide) rfl ?_
    refine ev_getR (k1 := 12) 4 1 iX4_beginner_68 kF_X4_16 O_0 rfl (by decide) ?_
    refine ev_iload_n iX4_beginner_71 rfl rfl ?_
    refine ev_VMV iX4_beginner_72 kV_X4_121 (c_tn_passDays r6 12 f2 isT_12) (rc_T isT_12) rfl rfl (Nat.le_of_ble_eq_true rfl) (sg_fitL (by decide) (Nat.le_of_ble_eq_true rfl)) (fun r7 => ?_)
    refine ev_aload_n iX4_beginner_75 rfl (by decide) rfl ?_
    refine ev_getR (k1 := 12) 4 1 iX4_beginner_76 kF_X4_16 O_0 rfl (by decide) ?_
    refine ev_getR (k1 := 20) 3 7 iX4_beginner_79 kF_X4_101 O_12 rfl (by decide) ?_
    refine ev_iload_n iX4_beginner_82 rfl rfl ?_
    refine ev_iald iX4_beginner_83 A_20 ?_
    refine ev_SRI iX4_beginner_84 kS_X4_158 (c_jd6_bitCount r7 (r7 20 f1.toNatClampNeg)) rfl rfl (Nat.le_of_ble_eq_true rfl) (sg_fitL (by decide) (Nat.le_of_ble_eq_true rfl)) (fun r8 => ?_)
    refine ev_istore (ls2 := [some (.ref 0), some (.int f1), some (.int f2), some (.int a.1), some (.int a.2.1), some (.int a.2.2.1), some (.int r8)]) iX4_beginner_87 (Nat.le_of_ble_eq_true rfl) (Nat.le_of_ble_eq_true rfl) rfl rfl ?_
    refine ev_iload iX4_beginner_89 rfl ?_
    refine ev_iload iX4_beginner_91 rfl ?_
    refine ev_icmp_le iX4_beginner_93 ?_ ?_
    · refine ev_iload iX4_beginner_96 rfl ?_
      refine ev_istore (ls2 := [some (.ref 0), some (.int f1), some (.int f2), some (.int a.1), some (.int r8), some (.int a.2.2.1), some (.int r8)]) iX4_beginner_98 (Nat.le_of_ble_eq_true rfl) (Nat.le_of_ble_eq_true rfl) rfl rfl ?_
      refine ev_iload iX4_beginner_100 rfl ?_
      refine ev_istore_n (ls2 := [some (.ref 0), some (.int f1), some (.int f2), some (.int a.2.2.1), some (.int r8), some (.int a.2.2.1), some (.int r8)]) iX4_beginner_102 rfl (Nat.le_of_ble_eq_true rfl) (Nat.le_of_ble_eq_true rfl) rfl rfl ?_
      refine ev_iinc (v := (a.2.2.1 + 1)) (ls2 := [some (.ref 0), some (.int f1), some (.int f2), some (.int a.2.2.1), some (.int r8), some (.int (a.2.2.1 + 1)), some (.int r8)]) iX4_beginner_103 rfl (by rw [kI_1]) (Nat.le_of_ble_eq_true rfl) rfl rfl ?_
      refine ev_goto iX4_beginner_106 ?_
      exact ev_exit rfl ⟨rfl, rfl, rfl, rfl, rfl, rfl, trivial⟩
    · refine ev_iinc (v := (a.2.2.1 + 1)) (ls2 := [some (.ref 0), some (.int f1), some (.int f2), some (.int a.1), some (.int a.2.1), some (.int (a.2.2.1 + 1)), some (.int r8)]) iX4_beginner_103 rfl (by rw [kI_1]) (Nat.le_of_ble_eq_true rfl) rfl rfl ?_
      refine ev_goto iX4_beginner_106 ?_
      exact ev_exit rfl ⟨rfl, rfl, rfl, rfl, rfl, rfl, trivial⟩
  · exact ev_exit rfl ⟨rfl, rfl, trivial⟩
def ns_beginner (σ : sg_S) (a1 : Int32) (a2 : Int32) : Option (Int32 × sg_S) :=
  ((tn_isSaying σ 1 a1).bind fun r1 => (if r1 = 0 then ((ns_finding σ 0).bind fun r2 => some (r2.1, r2.2)) else ((ns_within σ a2 60).bind fun r3 => (if r3 = 0 then ((ns_finding σ 0).bind fun r4 => some (r4.1, r4.2)) else ((sg_lp (ns_beginner_34_L σ  a1 a2) 1000 ((-1), (-1), 0, σ)).bind fun e11 => (if e11.1 = (-1) then ((ns_finding e11.2 3).bind fun r12 => some (r12.1, r12.2)) else some (e11.1, e11.2)))))))
set_option maxRecDepth 20000 in
set_option maxHeartbeats 2000000 in
theorem c_ns_beginner (σ : sg_S) (a1 : Int32) (a2 : Int32)  : sg_Call yX4_beginner mX4_beginner (rmL 5) [.ref 0, .int a1, .int a2] σ eMI (ns_beginner σ a1 a2) := by
  refine sg_call_of (by decide +kernel) rfl (Nat.le_of_ble_eq_true rfl) rfl (fun _ => rfl) ?_
  refine ev_less (ls2 := [some (.ref 0), some (.int a1), some (.int a2), none, none, none, none]) ?_ ⟨rfl, rfl, rfl, trivial⟩
  unfold ns_beginner
  refine ev_aload_n iX4_beginner_0 rfl (by decide) rfl ?_
  refine ev_getR (k1 := 1) 4 0 iX4_beginner_1 kF_X4_10 O_0 rfl (by decide) ?_
  refine ev_iload_n iX4_beginner_4 rfl rfl ?_
  refine ev_VRI iX4_beginner_5 kV_X4_92 (c_tn_isSaying σ 1 a1 isT_1) (rc_T isT_1) rfl rfl (Nat.le_of_ble_eq_true rfl) (sg_fitL (by decide) (Nat.le_of_ble_eq_true rfl)) (fun r1 => ?_)
  refine ev_if_eq iX4_beginner_8 ?_ ?_
  · refine ev_aload_n iX4_beginner_20 rfl (by decide) rfl ?_
    refine ev_iconst iX4_beginner_21 kI_0 ?_
    refine ev_VMI iX4_beginner_22 kV_X4_48 (c_ns_finding σ 0) rc_0 rfl rfl (Nat.le_of_ble_eq_true rfl) (sg_fitL (by decide) (Nat.le_of_ble_eq_true rfl)) (fun r2 => ?_)
    exact ev_iret iX4_beginner_25 rfl (narI rfl _)
  · refine ev_iload_n iX4_beginner_11 rfl rfl ?_
    refine ev_bipush iX4_beginner_12 kB_60 ?_
    refine ev_SRI iX4_beginner_14 kS_X4_44 (c_ns_within σ a2 60) rfl rfl (Nat.le_of_ble_eq_true rfl) (sg_fitL (by decide) (Nat.le_of_ble_eq_true rfl)) (fun r3 => ?_)
    refine ev_if_ne iX4_beginner_17 ?_ ?_
    · refine ev_aload_n iX4_beginner_20 rfl (by decide) rfl ?_
      refine ev_iconst iX4_beginner_21 kI_0 ?_
      refine ev_VMI iX4_beginner_22 kV_X4_48 (c_ns_finding σ 0) rc_0 rfl rfl (Nat.le_of_ble_eq_true rfl) (sg_fitL (by decide) (Nat.le_of_ble_eq_true rfl)) (fun r4 => ?_)
      exact ev_iret iX4_beginner_25 rfl (narI rfl _)
    · refine ev_iconst iX4_beginner_26 kI_m1 ?_
      refine ev_istore_n (ls2 := [some (.ref 0), some (.int a1), some (.int a2), some (.int (-1)), none, none, none]) iX4_beginner_27 rfl (Nat.le_of_ble_eq_true rfl) (Nat.le_of_ble_eq_true rfl) rfl rfl ?_
      refine ev_iconst iX4_beginner_28 kI_m1 ?_
      refine ev_istore (ls2 := [some (.ref 0), some (.int a1), some (.int a2), some (.int (-1)), some (.int (-1)), none, none]) iX4_beginner_29 (Nat.le_of_ble_eq_true rfl) (Nat.le_of_ble_eq_true rfl) rfl rfl ?_
      refine ev_iconst iX4_beginner_31 kI_0 ?_
      refine ev_istore (ls2 := [some (.ref 0), some (.int a1), some (.int a2), some (.int (-1)), some (.int (-1)), some (.int 0), none]) iX4_beginner_32 (Nat.le_of_ble_eq_true rfl) (Nat.le_of_ble_eq_true rfl) rfl rfl ?_
      refine ev_less (ls2 := [some (.ref 0), some (.int a1), some (.int a2), some (.int (-1)), some (.int (-1)), some (.int 0), none]) ?_ ⟨rfl, rfl, rfl, rfl, rfl, rfl, trivial⟩
      refine ev_seq1 109 (fun z10 => [some (.ref 0), none, none, some (.int z10.1), none, none, none]) (fun z10 => z10.2) (ev_loop (embB := ns_beginner_34_X σ  a1 a2) (ex := fun b => ns_beginner_34_X σ  a1 a2 (.inr b)) 34 (fun z9 => [some (.ref 0), some (.int a1), some (.int a2), some (.int z9.1), some (.int z9.2.1), some (.int z9.2.2.1), none]) (fun z9 => z9.2.2.2) (fun _ => rfl) (fun _ => rfl) (e_ns_beginner_34_L σ  a1 a2 ) 1000 ((-1), (-1), 0, σ)) (fun _ => rfl) (fun e11 => ?_)
      refine ev_iload_n iX4_beginner_109 rfl rfl ?_
      refine ev_iconst iX4_beginner_110 kI_m1 ?_
      refine ev_icmp_ne iX4_beginner_111 ?_ ?_
      · refine ev_aload_n iX4_beginner_114 rfl (by decide) rfl ?_
        refine ev_iconst iX4_beginner_115 kI_3 ?_
        refine ev_VMI iX4_beginner_116 kV_X4_48 (c_ns_finding e11.2 3) rc_0 rfl rfl (Nat.le_of_ble_eq_true rfl) (sg_fitL (by decide) (Nat.le_of_ble_eq_true rfl)) (fun r12 => ?_)
        refine ev_goto iX4_beginner_119 ?_
        exact ev_iret iX4_beginner_123 rfl (narI rfl _)
      · refine ev_iload_n iX4_beginner_122 rfl rfl ?_
        exact ev_iret iX4_beginner_123 rfl (narI rfl _)
def ns_kindFor_36_X (σ : sg_S)  (f1 : Int32) (f2 : Int32) : ((Int32 × Int32 × Int32 × sg_S) ⊕ (Int32 × sg_S)) → sg_X
  | .inl a => .inr (36, [some (.ref 0), some (.int f1), some (.int f2), some (.int a.1), some (.int a.2.1), some (.int a.2.2.1)], a.2.2.2)
  | .inr e => .inr (107, [none, none, none, some (.int e.1), none, none], e.2)
def ns_kindFor_36_L (σ : sg_S)  (f1 : Int32) (f2 : Int32) (a : (Int32 × Int32 × Int32 × sg_S)) : Option ((Int32 × Int32 × Int32 × sg_S) ⊕ (Int32 × sg_S)) :=
  (if a.2.2.1 < 7 then ((tn_become a.2.2.2 12 1).bind fun r5 => (if sg_in f1 8 = true then sg_let (sg_st r5 14 f1.toNatClampNeg a.2.2.1) (fun s6 => ((tn_passDays s6 12 f2).bind fun r7 => (if sg_in f1 8 = true then (if (r7 17 f1.toNatClampNeg) < a.2.1 then (if sg_in f1 8 = true then sg_leti (r7 17 f1.toNatClampNeg) (fun x8 => some (.inl (a.2.2.1, x8, (a.2.2.1 + 1), r7))) else none) else some (.inl (a.1, a.2.1, (a.2.2.1 + 1), r7))) else none))) else none)) else some (.inr (a.1, a.2.2.2)))
set_option maxRecDepth 20000 in
set_option maxHeartbeats 2000000 in
theorem e_ns_kindFor_36_L (σ : sg_S)  (f1 : Int32) (f2 : Int32)  : ∀ a : (Int32 × Int32 × Int32 × sg_S), Ev mX4_kindFor (rmL 5) 36 [some (.ref 0), some (.int f1), some (.int f2), some (.int a.1), some (.int a.2.1), some (.int a.2.2.1)] [] a.2.2.2 (ns_kindFor_36_X σ  f1 f2) (ns_kindFor_36_L σ  f1 f2 a) := by
  intro a
  unfold ns_kindFor_36_L
  refine ev_iload iX4_kindFor_36 rfl ?_
  refine ev_bipush iX4_kindFor_38 kB_7 ?_
  refine ev_icmp_ge iX4_kindFor_40 ?_ ?_
  · refine ev_aload_n iX4_kindFor_43 rfl (by decide) rfl ?_
    refine ev_getR (k1 := 12) 4 1 iX4_kindFor_44 kF_X4_16 O_0 rfl (by decide) ?_
    refine ev_aload_n iX4_kindFor_47 rfl (by decide) rfl ?_
    refine ev_getR (k1 := 1) 4 0 iX4_kindFor_48 kF_X4_10 O_0 rfl (by decide) ?_
    refine ev_VMV iX4_kindFor_51 kV_X4_147 (c_tn_become a.2.2.2 12 1 isT_12 isT_1) (rc_T isT_12) rfl rfl (Nat.le_of_ble_eq_true rfl) (sg_fitL (by decide) (Nat.le_of_ble_eq_true rfl)) (fun r5 => ?_)
    refine ev_aload_n iX4_kindFor_54 rfl (by decide) rfl ?_
    refine ev_getR (k1 := 12) 4 1 iX4_kindFor_55 kF_X4_16 O_0 rfl (by decide) ?_
    refine ev_getR (k1 := 14) 3 1 iX4_kindFor_58 kF_X4_73 O_12 rfl (by decide) ?_
    refine ev_iload_n iX4_kindFor_61 rfl rfl ?_
    refine ev_iload iX4_kindFor_62 rfl ?_
    refine ev_iast iX4_kindFor_64 A_14 ?_
    refine ev_let (fun s6 => ?_)
    refine ev_aload_n iX4_kindFor_65 rfl (by decide) rfl ?_
    refine ev_getR (k1 := 12) 4 1 iX4_kindFor_66 kF_X4_16 O_0 rfl (by decide) ?_
    refine ev_iload_n iX4_kindFor_69 rfl rfl ?_
    refine ev_VMV iX4_kindFor_70 kV_X4_121 (c_tn_passDays s6 12 f2 isT_12) (rc_T isT_12) rfl rfl (Nat.le_of_ble_eq_true rfl) (sg_fitL (by decide) (Nat.le_of_ble_eq_true rfl)) (fun r7 => ?_)
    refine ev_aload_n iX4_kindFor_73 rfl (by decide) rfl ?_
    refine ev_getR (k1 := 12) 4 1 iX4_kindFor_74 kF_X4_16 O_0 rfl (by decide) ?_
    refine ev_getR (k1 := 17) 3 4 iX4_kindFor_77 kF_X4_82 O_12 rfl (by decide) ?_
    refine ev_iload_n iX4_kindFor_80 rfl rfl ?_
    refine ev_iald iX4_kindFor_81 A_17 ?_
    refine ev_iload iX4_kindFor_82 rfl ?_
    refine ev_icmp_ge iX4_kindFor_84 ?_ ?_
    · refine ev_aload_n iX4_kindFor_87 rfl (by decide) rfl ?_
      refine ev_getR (k1 := 12) 4 1 iX4_kindFor_88 kF_X4_16 O_0 rfl (by decide) ?_
      refine ev_getR (k1 := 17) 3 4 iX4_kindFor_91 kF_X4_82 O_12 rfl (by decide) ?_
      refine ev_iload_n iX4_kindFor_94 rfl rfl ?_
      refine ev_iald iX4_kindFor_95 A_17 ?_
      refine ev_leti (fun x8 => ?_)
      refine ev_istore (ls2 := [some (.ref 0), some (.int f1), some (.int f2), some (.int a.1), some (.int x8), some (.int a.2.2.1)]) iX4_kindFor_96 (Nat.le_of_ble_eq_true rfl) (Nat.le_of_ble_eq_true rfl) rfl rfl ?_
      refine ev_iload iX4_kindFor_98 rfl ?_
      refine ev_istore_n (ls2 := [some (.ref 0), some (.int f1), some (.int f2), some (.int a.2.2.1), some (.int x8), some (.int a.2.2.1)]) iX4_kindFor_100 rfl (Nat.le_of_ble_eq_true rfl) (Nat.le_of_ble_eq_true rfl) rfl rfl ?_
      refine ev_iinc (v := (a.2.2.1 + 1)) (ls2 := [some (.ref 0), some (.int f1), some (.int f2), some (.int a.2.2.1), some (.int x8), some (.int (a.2.2.1 + 1))]) iX4_kindFor_101 rfl (by rw [kI_1]) (Nat.le_of_ble_eq_true rfl) rfl rfl ?_
      refine ev_goto iX4_kindFor_104 ?_
      exact ev_exit rfl ⟨rfl, rfl, rfl, rfl, rfl, rfl, trivial⟩
    · refine ev_iinc (v := (a.2.2.1 + 1)) (ls2 := [some (.ref 0), some (.int f1), some (.int f2), some (.int a.1), some (.int a.2.1), some (.int (a.2.2.1 + 1))]) iX4_kindFor_101 rfl (by rw [kI_1]) (Nat.le_of_ble_eq_true rfl) rfl rfl ?_
      refine ev_goto iX4_kindFor_104 ?_
      exact ev_exit rfl ⟨rfl, rfl, rfl, rfl, rfl, rfl, trivial⟩
  · exact ev_exit rfl ⟨rfl, trivial⟩
def ns_kindFor (σ : sg_S) (a1 : Int32) (a2 : Int32) : Option (Int32 × sg_S) :=
  ((tn_isPerson σ 1 a1).bind fun r1 => (if r1 = 0 then ((ns_finding σ 0).bind fun r2 => some (r2.1, r2.2)) else ((ns_within σ a2 60).bind fun r3 => (if r3 = 0 then ((ns_finding σ 0).bind fun r4 => some (r4.1, r4.2)) else ((sg_lp (ns_kindFor_36_L σ  a1 a2) 1000 (0, 10000, 0, σ)).bind fun e11 => some (e11.1, e11.2))))))
set_option maxRecDepth 20000 in
set_option maxHeartbeats 2000000 in
theorem c_ns_kindFor (σ : sg_S) (a1 : Int32) (a2 : Int32)  : sg_Call yX4_kindFor mX4_kindFor (rmL 5) [.ref 0, .int a1, .int a2] σ eMI (ns_kindFor σ a1 a2) := by
  refine sg_call_of (by decide +kernel) rfl (Nat.le_of_ble_eq_true rfl) rfl (fun _ => rfl) ?_
  refine ev_less (ls2 := [some (.ref 0), some (.int a1), some (.int a2), none, none, none]) ?_ ⟨rfl, rfl, rfl, trivial⟩
  unfold ns_kindFor
  refine ev_aload_n iX4_kindFor_0 rfl (by decide) rfl ?_
  refine ev_getR (k1 := 1) 4 0 iX4_kindFor_1 kF_X4_10 O_0 rfl (by decide) ?_
  refine ev_iload_n iX4_kindFor_4 rfl rfl ?_
  refine ev_VRI iX4_kindFor_5 kV_X4_63 (c_tn_isPerson σ 1 a1 isT_1) (rc_T isT_1) rfl rfl (Nat.le_of_ble_eq_true rfl) (sg_fitL (by decide) (Nat.le_of_ble_eq_true rfl)) (fun r1 => ?_)
  refine ev_if_eq iX4_kindFor_8 ?_ ?_
  · refine ev_aload_n iX4_kindFor_20 rfl (by decide) rfl ?_
    refine ev_iconst iX4_kindFor_21 kI_0 ?_
    refine ev_VMI iX4_kindFor_22 kV_X4_48 (c_ns_finding σ 0) rc_0 rfl rfl (Nat.le_of_ble_eq_true rfl) (sg_fitL (by decide) (Nat.le_of_ble_eq_true rfl)) (fun r2 => ?_)
    exact ev_iret iX4_kindFor_25 rfl (narI rfl _)
  · refine ev_iload_n iX4_kindFor_11 rfl rfl ?_
    refine ev_bipush iX4_kindFor_12 kB_60 ?_
    refine ev_SRI iX4_kindFor_14 kS_X4_44 (c_ns_within σ a2 60) rfl rfl (Nat.le_of_ble_eq_true rfl) (sg_fitL (by decide) (Nat.le_of_ble_eq_true rfl)) (fun r3 => ?_)
    refine ev_if_ne iX4_kindFor_17 ?_ ?_
    · refine ev_aload_n iX4_kindFor_20 rfl (by decide) rfl ?_
      refine ev_iconst iX4_kindFor_21 kI_0 ?_
      refine ev_VMI iX4_kindFor_22 kV_X4_48 (c_ns_finding σ 0) rc_0 rfl rfl (Nat.le_of_ble_eq_true rfl) (sg_fitL (by decide) (Nat.le_of_ble_eq_true rfl)) (fun r4 => ?_)
      exact ev_iret iX4_kindFor_25 rfl (narI rfl _)
    · refine ev_iconst iX4_kindFor_26 kI_0 ?_
      refine ev_istore_n (ls2 := [some (.ref 0), some (.int a1), some (.int a2), some (.int 0), none, none]) iX4_kindFor_27 rfl (Nat.le_of_ble_eq_true rfl) (Nat.le_of_ble_eq_true rfl) rfl rfl ?_
      refine ev_sipush iX4_kindFor_28 kH_10000 ?_
      refine ev_istore (ls2 := [some (.ref 0), some (.int a1), some (.int a2), some (.int 0), some (.int 10000), none]) iX4_kindFor_31 (Nat.le_of_ble_eq_true rfl) (Nat.le_of_ble_eq_true rfl) rfl rfl ?_
      refine ev_iconst iX4_kindFor_33 kI_0 ?_
      refine ev_istore (ls2 := [some (.ref 0), some (.int a1), some (.int a2), some (.int 0), some (.int 10000), some (.int 0)]) iX4_kindFor_34 (Nat.le_of_ble_eq_true rfl) (Nat.le_of_ble_eq_true rfl) rfl rfl ?_
      refine ev_less (ls2 := [some (.ref 0), some (.int a1), some (.int a2), some (.int 0), some (.int 10000), some (.int 0)]) ?_ ⟨rfl, rfl, rfl, rfl, rfl, rfl, trivial⟩
      refine ev_seq1 107 (fun z10 => [none, none, none, some (.int z10.1), none, none]) (fun z10 => z10.2) (ev_loop (embB := ns_kindFor_36_X σ  a1 a2) (ex := fun b => ns_kindFor_36_X σ  a1 a2 (.inr b)) 36 (fun z9 => [some (.ref 0), some (.int a1), some (.int a2), some (.int z9.1), some (.int z9.2.1), some (.int z9.2.2.1)]) (fun z9 => z9.2.2.2) (fun _ => rfl) (fun _ => rfl) (e_ns_kindFor_36_L σ  a1 a2 ) 1000 (0, 10000, 0, σ)) (fun _ => rfl) (fun e11 => ?_)
      refine ev_iload_n iX4_kindFor_107 rfl rfl ?_
      exact ev_iret iX4_kindFor_108 rfl (narI rfl _)
def ns_trustFor_40_X (σ : sg_S)  (f1 : Int32) (f2 : Int32) (f3 : Int32) : ((Int32 × sg_S) ⊕ (sg_S ⊕ (Int32 × sg_S))) → sg_X
  | .inl a => .inr (40, [some (.ref 0), some (.int f1), some (.int f2), some (.int f3), some (.int a.1)], a.2)
  | .inr (.inl e) => .inr (98, [some (.ref 0), none, none, none, none], e)
  | .inr (.inr r) => .inl (eMI r)
def ns_trustFor_40_L (σ : sg_S)  (f1 : Int32) (f2 : Int32) (f3 : Int32) (a : (Int32 × sg_S)) : Option ((Int32 × sg_S) ⊕ (sg_S ⊕ (Int32 × sg_S))) :=
  (if 9 < a.1 then some (.inr (.inl a.2)) else ((tn_become a.2 12 1).bind fun r7 => (if sg_in f2 8 = true then sg_let (sg_st r7 15 f2.toNatClampNeg a.1) (fun s8 => ((tn_passDays s8 12 f3).bind fun r9 => ((tn_hasHeard r9 12 f1 f2).bind fun r10 => (if r10 = 0 then some (.inl ((a.1 + 1), r9)) else some (.inr (.inr (a.1, r9))))))) else none)))
set_option maxRecDepth 20000 in
set_option maxHeartbeats 2000000 in
theorem e_ns_trustFor_40_L (σ : sg_S)  (f1 : Int32) (f2 : Int32) (f3 : Int32)  : ∀ a : (Int32 × sg_S), Ev mX4_trustFor (rmL 5) 40 [some (.ref 0), some (.int f1), some (.int f2), some (.int f3), some (.int a.1)] [] a.2 (ns_trustFor_40_X σ  f1 f2 f3) (ns_trustFor_40_L σ  f1 f2 f3 a) := by
  intro a
  unfold ns_trustFor_40_L
  refine ev_iload iX4_trustFor_40 rfl ?_
  refine ev_bipush iX4_trustFor_42 kB_9 ?_
  refine ev_icmp_gt iX4_trustFor_44 ?_ ?_
  · exact ev_exit rfl ⟨rfl, trivial⟩
  · refine ev_aload_n iX4_trustFor_47 rfl (by decide) rfl ?_
    refine ev_getR (k1 := 12) 4 1 iX4_trustFor_48 kF_X4_16 O_0 rfl (by decide) ?_
    refine ev_aload_n iX4_trustFor_51 rfl (by decide) rfl ?_
    refine ev_getR (k1 := 1) 4 0 iX4_trustFor_52 kF_X4_10 O_0 rfl (by decide) ?_
    refine ev_VMV iX4_trustFor_55 kV_X4_147 (c_tn_become a.2 12 1 isT_12 isT_1) (rc_T isT_12) rfl rfl (Nat.le_of_ble_eq_true rfl) (sg_fitL (by decide) (Nat.le_of_ble_eq_true rfl)) (fun r7 => ?_)
    refine ev_aload_n iX4_trustFor_58 rfl (by decide) rfl ?_
    refine ev_getR (k1 := 12) 4 1 iX4_trustFor_59 kF_X4_16 O_0 rfl (by decide) ?_
    refine ev_getR (k1 := 15) 3 2 iX4_trustFor_62 kF_X4_76 O_12 rfl (by decide) ?_
    refine ev_iload_n iX4_trustFor_65 rfl rfl ?_
    refine ev_iload iX4_trustFor_66 rfl ?_
    refine ev_iast iX4_trustFor_68 A_15 ?_
    refine ev_let (fun s8 => ?_)
    refine ev_aload_n iX4_trustFor_69 rfl (by decide) rfl ?_
    refine ev_getR (k1 := 12) 4 1 iX4_trustFor_70 kF_X4_16 O_0 rfl (by decide) ?_
    refine ev_iload_n iX4_trustFor_73 rfl rfl ?_
    refine ev_VMV iX4_trustFor_74 kV_X4_121 (c_tn_passDays s8 12 f3 isT_12) (rc_T isT_12) rfl rfl (Nat.le_of_ble_eq_true rfl) (sg_fitL (by decide) (Nat.le_of_ble_eq_true rfl)) (fun r9 => ?_)
    refine ev_aload_n iX4_trustFor_77 rfl (by decide) rfl ?_
    refine ev_getR (k1 := 12) 4 1 iX4_trustFor_78 kF_X4_16 O_0 rfl (by decide) ?_
    refine ev_iload_n iX4_trustFor_81 rfl rfl ?_
    refine ev_iload_n iX4_trustFor_82 rfl rfl ?_
    refine ev_VRI iX4_trustFor_83 kV_X4_104 (c_tn_hasHeard r9 12 f1 f2 isT_12) (rc_T isT_12) rfl rfl (Nat.le_of_ble_eq_true rfl) (sg_fitL (by decide) (Nat.le_of_ble_eq_true rfl)) (fun r10 => ?_)
    refine ev_if_eq iX4_trustFor_86 ?_ ?_
    · refine ev_iinc (v := (a.1 + 1)) (ls2 := [some (.ref 0), some (.int f1), some (.int f2), some (.int f3), some (.int (a.1 + 1))]) iX4_trustFor_92 rfl (by rw [kI_1]) (Nat.le_of_ble_eq_true rfl) rfl rfl ?_
      refine ev_goto iX4_trustFor_95 ?_
      exact ev_exit rfl ⟨rfl, rfl, rfl, rfl, rfl, trivial⟩
    · refine ev_iload iX4_trustFor_89 rfl ?_
      exact ev_iret iX4_trustFor_91 rfl (narI rfl _)
def ns_trustFor (σ : sg_S) (a1 : Int32) (a2 : Int32) (a3 : Int32) : Option (Int32 × sg_S) :=
  ((tn_isSaying σ 1 a1).bind fun r1 => (if r1 = 0 then ((ns_finding σ 0).bind fun r2 => some (r2.1, r2.2)) else ((tn_isPerson σ 1 a2).bind fun r3 => (if r3 = 0 then ((ns_finding σ 0).bind fun r4 => some (r4.1, r4.2)) else ((ns_within σ a3 60).bind fun r5 => (if r5 = 0 then ((ns_finding σ 0).bind fun r6 => some (r6.1, r6.2)) else ((sg_lp (ns_trustFor_40_L σ  a1 a2 a3) 1000 (0, σ)).bind (Sum.elim (fun e13 => ((ns_finding e13 3).bind fun r14 => some (r14.1, r14.2))) (fun rr => some rr)))))))))
set_option maxRecDepth 20000 in
set_option maxHeartbeats 2000000 in
theorem c_ns_trustFor (σ : sg_S) (a1 : Int32) (a2 : Int32) (a3 : Int32)  : sg_Call yX4_trustFor mX4_trustFor (rmL 5) [.ref 0, .int a1, .int a2, .int a3] σ eMI (ns_trustFor σ a1 a2 a3) := by
  refine sg_call_of (by decide +kernel) rfl (Nat.le_of_ble_eq_true rfl) rfl (fun _ => rfl) ?_
  refine ev_less (ls2 := [some (.ref 0), some (.int a1), some (.int a2), some (.int a3), none]) ?_ ⟨rfl, rfl, rfl, rfl, trivial⟩
  unfold ns_trustFor
  refine ev_aload_n iX4_trustFor_0 rfl (by decide) rfl ?_
  refine ev_getR (k1 := 1) 4 0 iX4_trustFor_1 kF_X4_10 O_0 rfl (by decide) ?_
  refine ev_iload_n iX4_trustFor_4 rfl rfl ?_
  refine ev_VRI iX4_trustFor_5 kV_X4_92 (c_tn_isSaying σ 1 a1 isT_1) (rc_T isT_1) rfl rfl (Nat.le_of_ble_eq_true rfl) (sg_fitL (by decide) (Nat.le_of_ble_eq_true rfl)) (fun r1 => ?_)
  refine ev_if_eq iX4_trustFor_8 ?_ ?_
  · refine ev_aload_n iX4_trustFor_31 rfl (by decide) rfl ?_
    refine ev_iconst iX4_trustFor_32 kI_0 ?_
    refine ev_VMI iX4_trustFor_33 kV_X4_48 (c_ns_finding σ 0) rc_0 rfl rfl (Nat.le_of_ble_eq_true rfl) (sg_fitL (by decide) (Nat.le_of_ble_eq_true rfl)) (fun r2 => ?_)
    exact ev_iret iX4_trustFor_36 rfl (narI rfl _)
  · refine ev_aload_n iX4_trustFor_11 rfl (by decide) rfl ?_
    refine ev_getR (k1 := 1) 4 0 iX4_trustFor_12 kF_X4_10 O_0 rfl (by decide) ?_
    refine ev_iload_n iX4_trustFor_15 rfl rfl ?_
    refine ev_VRI iX4_trustFor_16 kV_X4_63 (c_tn_isPerson σ 1 a2 isT_1) (rc_T isT_1) rfl rfl (Nat.le_of_ble_eq_true rfl) (sg_fitL (by decide) (Nat.le_of_ble_eq_true rfl)) (fun r3 => ?_)
    refine ev_if_eq iX4_trustFor_19 ?_ ?_
    · refine ev_aload_n iX4_trustFor_31 rfl (by decide) rfl ?_
      refine ev_iconst iX4_trustFor_32 kI_0 ?_
      refine ev_VMI iX4_trustFor_33 kV_X4_48 (c_ns_finding σ 0) rc_0 rfl rfl (Nat.le_of_ble_eq_true rfl) (sg_fitL (by decide) (Nat.le_of_ble_eq_true rfl)) (fun r4 => ?_)
      exact ev_iret iX4_trustFor_36 rfl (narI rfl _)
    · refine ev_iload_n iX4_trustFor_22 rfl rfl ?_
      refine ev_bipush iX4_trustFor_23 kB_60 ?_
      refine ev_SRI iX4_trustFor_25 kS_X4_44 (c_ns_within σ a3 60) rfl rfl (Nat.le_of_ble_eq_true rfl) (sg_fitL (by decide) (Nat.le_of_ble_eq_true rfl)) (fun r5 => ?_)
      refine ev_if_ne iX4_trustFor_28 ?_ ?_
      · refine ev_aload_n iX4_trustFor_31 rfl (by decide) rfl ?_
        refine ev_iconst iX4_trustFor_32 kI_0 ?_
        refine ev_VMI iX4_trustFor_33 kV_X4_48 (c_ns_finding σ 0) rc_0 rfl rfl (Nat.le_of_ble_eq_true rfl) (sg_fitL (by decide) (Nat.le_of_ble_eq_true rfl)) (fun r6 => ?_)
        exact ev_iret iX4_trustFor_36 rfl (narI rfl _)
      · refine ev_iconst iX4_trustFor_37 kI_0 ?_
        refine ev_istore (ls2 := [some (.ref 0), some (.int a1), some (.int a2), some (.int a3), some (.int 0)]) iX4_trustFor_38 (Nat.le_of_ble_eq_true rfl) (Nat.le_of_ble_eq_true rfl) rfl rfl ?_
        refine ev_less (ls2 := [some (.ref 0), some (.int a1), some (.int a2), some (.int a3), some (.int 0)]) ?_ ⟨rfl, rfl, rfl, rfl, rfl, trivial⟩
        refine ev_seqS 98 (fun z12 => [some (.ref 0), none, none, none, none]) (fun z12 => z12) (ev_loop (embB := ns_trustFor_40_X σ  a1 a2 a3) (ex := fun b => ns_trustFor_40_X σ  a1 a2 a3 (.inr b)) 40 (fun z11 => [some (.ref 0), some (.int a1), some (.int a2), some (.int a3), some (.int z11.1)]) (fun z11 => z11.2) (fun _ => rfl) (fun _ => rfl) (e_ns_trustFor_40_L σ  a1 a2 a3 ) 1000 (0, σ)) (fun _ => rfl) (fun r => ⟨_, rfl, fun a h => by cases h; rfl⟩) (fun e13 => ?_)
        refine ev_aload_n iX4_trustFor_98 rfl (by decide) rfl ?_
        refine ev_iconst iX4_trustFor_99 kI_3 ?_
        refine ev_VMI iX4_trustFor_100 kV_X4_48 (c_ns_finding e13 3) rc_0 rfl rfl (Nat.le_of_ble_eq_true rfl) (sg_fitL (by decide) (Nat.le_of_ble_eq_true rfl)) (fun r14 => ?_)
        exact ev_iret iX4_trustFor_103 rfl (narI rfl _)
def ns_weightFor_29_X (σ : sg_S)  (f1 : Int32) (f2 : Int32) : ((Int32 × sg_S) ⊕ (sg_S ⊕ (Int32 × sg_S))) → sg_X
  | .inl a => .inr (29, [some (.ref 0), some (.int f1), some (.int f2), some (.int a.1)], a.2)
  | .inr (.inl e) => .inr (89, [some (.ref 0), none, none, none], e)
  | .inr (.inr r) => .inl (eMI r)
def ns_weightFor_29_L (σ : sg_S)  (f1 : Int32) (f2 : Int32) (a : (Int32 × sg_S)) : Option ((Int32 × sg_S) ⊕ (sg_S ⊕ (Int32 × sg_S))) :=
  (if a.1 < 0 then some (.inr (.inl a.2)) else ((tn_become a.2 12 1).bind fun r5 => (if sg_in f1 6 = true then sg_let (sg_st r5 19 f1.toNatClampNeg a.1) (fun s6 => ((tn_passDays s6 12 f2).bind fun r7 => (if sg_in f1 6 = true then ((tn_everybody r7 12).bind fun r8 => (if (r7 20 f1.toNatClampNeg) = r8 then some (.inr (.inr (a.1, r7))) else (sg_leti (a.1 + (-1)) (fun x9 => some (.inl (x9, r7)))))) else none))) else none)))
set_option maxRecDepth 20000 in
set_option maxHeartbeats 2000000 in
theorem e_ns_weightFor_29_L (σ : sg_S)  (f1 : Int32) (f2 : Int32)  : ∀ a : (Int32 × sg_S), Ev mX4_weightFor (rmL 5) 29 [some (.ref 0), some (.int f1), some (.int f2), some (.int a.1)] [] a.2 (ns_weightFor_29_X σ  f1 f2) (ns_weightFor_29_L σ  f1 f2 a) := by
  intro a
  unfold ns_weightFor_29_L
  refine ev_iload_n iX4_weightFor_29 rfl rfl ?_
  refine ev_if_lt iX4_weightFor_30 ?_ ?_
  · exact ev_exit rfl ⟨rfl, trivial⟩
  · refine ev_aload_n iX4_weightFor_33 rfl (by decide) rfl ?_
    refine ev_getR (k1 := 12) 4 1 iX4_weightFor_34 kF_X4_16 O_0 rfl (by decide) ?_
    refine ev_aload_n iX4_weightFor_37 rfl (by decide) rfl ?_
    refine ev_getR (k1 := 1) 4 0 iX4_weightFor_38 kF_X4_10 O_0 rfl (by decide) ?_
    refine ev_VMV iX4_weightFor_41 kV_X4_147 (c_tn_become a.2 12 1 isT_12 isT_1) (rc_T isT_12) rfl rfl (Nat.le_of_ble_eq_true rfl) (sg_fitL (by decide) (Nat.le_of_ble_eq_true rfl)) (fun r5 => ?_)
    refine ev_aload_n iX4_weightFor_44 rfl (by decide) rfl ?_
    refine ev_getR (k1 := 12) 4 1 iX4_weightFor_45 kF_X4_16 O_0 rfl (by decide) ?_
    refine ev_getR (k1 := 19) 3 6 iX4_weightFor_48 kF_X4_98 O_12 rfl (by decide) ?_
    refine ev_iload_n iX4_weightFor_51 rfl rfl ?_
    refine ev_iload_n iX4_weightFor_52 rfl rfl ?_
    refine ev_iast iX4_weightFor_53 A_19 ?_
    refine ev_let (fun s6 => ?_)
    refine ev_aload_n iX4_weightFor_54 rfl (by decide) rfl ?_
    refine ev_getR (k1 := 12) 4 1 iX4_weightFor_55 kF_X4_16 O_0 rfl (by decide) ?_
    refine ev_iload_n iX4_weightFor_58 rfl rfl ?_
    refine ev_VMV iX4_weightFor_59 kV_X4_121 (c_tn_passDays s6 12 f2 isT_12) (rc_T isT_12) rfl rfl (Nat.le_of_ble_eq_true rfl) (sg_fitL (by decide) (Nat.le_of_ble_eq_true rfl)) (fun r7 => ?_)
    refine ev_aload_n iX4_weightFor_62 rfl (by decide) rfl ?_
    refine ev_getR (k1 := 12) 4 1 iX4_weightFor_63 kF_X4_16 O_0 rfl (by decide) ?_
    refine ev_getR (k1 := 20) 3 7 iX4_weightFor_66 kF_X4_101 O_12 rfl (by decide) ?_
    refine ev_iload_n iX4_weightFor_69 rfl rfl ?_
    refine ev_iald iX4_weightFor_70 A_20 ?_
    refine ev_aload_n iX4_weightFor_71 rfl (by decide) rfl ?_
    refine ev_getR (k1 := 12) 4 1 iX4_weightFor_72 kF_X4_16 O_0 rfl (by decide) ?_
    refine ev_VRI iX4_weightFor_75 kV_X4_163 (c_tn_everybody r7 12 isT_12) (rc_T isT_12) rfl rfl (Nat.le_of_ble_eq_true rfl) (sg_fitL (by decide) (Nat.le_of_ble_eq_true rfl)) (fun r8 => ?_)
    refine ev_icmp_ne iX4_weightFor_78 ?_ ?_
    · refine ev_iload_n iX4_weightFor_81 rfl rfl ?_
      exact ev_iret iX4_weightFor_82 rfl (narI rfl _)
    · refine ev_iincN (fun x9 => [some (.ref 0), some (.int f1), some (.int f2), some (.int x9)]) iX4_weightFor_83 rfl kI_m1 (Nat.le_of_ble_eq_true rfl) rfl (fun _ => rfl) (fun x9 => ?_)
      refine ev_goto iX4_weightFor_86 ?_
      exact ev_exit rfl ⟨rfl, rfl, rfl, rfl, trivial⟩
def ns_weightFor (σ : sg_S) (a1 : Int32) (a2 : Int32) : Option (Int32 × sg_S) :=
  ((tn_isSaying σ 1 a1).bind fun r1 => (if r1 = 0 then ((ns_finding σ 0).bind fun r2 => some (r2.1, r2.2)) else ((ns_within σ a2 60).bind fun r3 => (if r3 = 0 then ((ns_finding σ 0).bind fun r4 => some (r4.1, r4.2)) else ((sg_lp (ns_weightFor_29_L σ  a1 a2) 1000 (9, σ)).bind (Sum.elim (fun e12 => ((ns_finding e12 3).bind fun r13 => some (r13.1, r13.2))) (fun rr => some rr)))))))
set_option maxRecDepth 20000 in
set_option maxHeartbeats 2000000 in
theorem c_ns_weightFor (σ : sg_S) (a1 : Int32) (a2 : Int32)  : sg_Call yX4_weightFor mX4_weightFor (rmL 5) [.ref 0, .int a1, .int a2] σ eMI (ns_weightFor σ a1 a2) := by
  refine sg_call_of (by decide +kernel) rfl (Nat.le_of_ble_eq_true rfl) rfl (fun _ => rfl) ?_
  refine ev_less (ls2 := [some (.ref 0), some (.int a1), some (.int a2), none]) ?_ ⟨rfl, rfl, rfl, trivial⟩
  unfold ns_weightFor
  refine ev_aload_n iX4_weightFor_0 rfl (by decide) rfl ?_
  refine ev_getR (k1 := 1) 4 0 iX4_weightFor_1 kF_X4_10 O_0 rfl (by decide) ?_
  refine ev_iload_n iX4_weightFor_4 rfl rfl ?_
  refine ev_VRI iX4_weightFor_5 kV_X4_92 (c_tn_isSaying σ 1 a1 isT_1) (rc_T isT_1) rfl rfl (Nat.le_of_ble_eq_true rfl) (sg_fitL (by decide) (Nat.le_of_ble_eq_true rfl)) (fun r1 => ?_)
  refine ev_if_eq iX4_weightFor_8 ?_ ?_
  · refine ev_aload_n iX4_weightFor_20 rfl (by decide) rfl ?_
    refine ev_iconst iX4_weightFor_21 kI_0 ?_
    refine ev_VMI iX4_weightFor_22 kV_X4_48 (c_ns_finding σ 0) rc_0 rfl rfl (Nat.le_of_ble_eq_true rfl) (sg_fitL (by decide) (Nat.le_of_ble_eq_true rfl)) (fun r2 => ?_)
    exact ev_iret iX4_weightFor_25 rfl (narI rfl _)
  · refine ev_iload_n iX4_weightFor_11 rfl rfl ?_
    refine ev_bipush iX4_weightFor_12 kB_60 ?_
    refine ev_SRI iX4_weightFor_14 kS_X4_44 (c_ns_within σ a2 60) rfl rfl (Nat.le_of_ble_eq_true rfl) (sg_fitL (by decide) (Nat.le_of_ble_eq_true rfl)) (fun r3 => ?_)
    refine ev_if_ne iX4_weightFor_17 ?_ ?_
    · refine ev_aload_n iX4_weightFor_20 rfl (by decide) rfl ?_
      refine ev_iconst iX4_weightFor_21 kI_0 ?_
      refine ev_VMI iX4_weightFor_22 kV_X4_48 (c_ns_finding σ 0) rc_0 rfl rfl (Nat.le_of_ble_eq_true rfl) (sg_fitL (by decide) (Nat.le_of_ble_eq_true rfl)) (fun r4 => ?_)
      exact ev_iret iX4_weightFor_25 rfl (narI rfl _)
    · refine ev_bipush iX4_weightFor_26 kB_9 ?_
      refine ev_istore_n (ls2 := [some (.ref 0), some (.int a1), some (.int a2), some (.int 9)]) iX4_weightFor_28 rfl (Nat.le_of_ble_eq_true rfl) (Nat.le_of_ble_eq_true rfl) rfl rfl ?_
      refine ev_less (ls2 := [some (.ref 0), some (.int a1), some (.int a2), some (.int 9)]) ?_ ⟨rfl, rfl, rfl, rfl, trivial⟩
      refine ev_seqS 89 (fun z11 => [some (.ref 0), none, none, none]) (fun z11 => z11) (ev_loop (embB := ns_weightFor_29_X σ  a1 a2) (ex := fun b => ns_weightFor_29_X σ  a1 a2 (.inr b)) 29 (fun z10 => [some (.ref 0), some (.int a1), some (.int a2), some (.int z10.1)]) (fun z10 => z10.2) (fun _ => rfl) (fun _ => rfl) (e_ns_weightFor_29_L σ  a1 a2 ) 1000 (9, σ)) (fun _ => rfl) (fun r => ⟨_, rfl, fun a h => by cases h; rfl⟩) (fun e12 => ?_)
      refine ev_aload_n iX4_weightFor_89 rfl (by decide) rfl ?_
      refine ev_iconst iX4_weightFor_90 kI_3 ?_
      refine ev_VMI iX4_weightFor_91 kV_X4_48 (c_ns_finding e12 3) rc_0 rfl rfl (Nat.le_of_ble_eq_true rfl) (sg_fitL (by decide) (Nat.le_of_ble_eq_true rfl)) (fun r13 => ?_)
      exact ev_iret iX4_weightFor_94 rfl (narI rfl _)
def ns_keepsFrom (σ : sg_S) (a1 : Int32) (a2 : Int32) (a3 : Int32) (a4 : Int32) : Option (Int32 × sg_S) :=
  ((tn_become σ 12 1).bind fun r1 => ((tn_silence r1 12 a1).bind fun r2 => ((tn_passDays r2 12 a4).bind fun r3 => ((tn_hasHeard r3 12 a2 a3).bind fun r4 => (if r4 = 0 then some (1, r3) else some (0, r3))))))
set_option maxRecDepth 20000 in
set_option maxHeartbeats 2000000 in
theorem c_ns_keepsFrom (σ : sg_S) (a1 : Int32) (a2 : Int32) (a3 : Int32) (a4 : Int32)  : sg_Call yX4_keepsFrom mX4_keepsFrom (rmL 5) [.ref 0, .int a1, .int a2, .int a3, .int a4] σ eMI (ns_keepsFrom σ a1 a2 a3 a4) := by
  refine sg_call_of (by decide +kernel) rfl (Nat.le_of_ble_eq_true rfl) rfl (fun _ => rfl) ?_
  refine ev_less (ls2 := [some (.ref 0), some (.int a1), some (.int a2), some (.int a3), some (.int a4)]) ?_ ⟨rfl, rfl, rfl, rfl, rfl, trivial⟩
  unfold ns_keepsFrom
  refine ev_aload_n iX4_keepsFrom_0 rfl (by decide) rfl ?_
  refine ev_getR (k1 := 12) 4 1 iX4_keepsFrom_1 kF_X4_16 O_0 rfl (by decide) ?_
  refine ev_aload_n iX4_keepsFrom_4 rfl (by decide) rfl ?_
  refine ev_getR (k1 := 1) 4 0 iX4_keepsFrom_5 kF_X4_10 O_0 rfl (by decide) ?_
  refine ev_VMV iX4_keepsFrom_8 kV_X4_147 (c_tn_become σ 12 1 isT_12 isT_1) (rc_T isT_12) rfl rfl (Nat.le_of_ble_eq_true rfl) (sg_fitL (by decide) (Nat.le_of_ble_eq_true rfl)) (fun r1 => ?_)
  refine ev_aload_n iX4_keepsFrom_11 rfl (by decide) rfl ?_
  refine ev_getR (k1 := 12) 4 1 iX4_keepsFrom_12 kF_X4_16 O_0 rfl (by decide) ?_
  refine ev_iload_n iX4_keepsFrom_15 rfl rfl ?_
  refine ev_VMV iX4_keepsFrom_16 kV_X4_170 (c_tn_silence r1 12 a1 isT_12) (rc_T isT_12) rfl rfl (Nat.le_of_ble_eq_true rfl) (sg_fitL (by decide) (Nat.le_of_ble_eq_true rfl)) (fun r2 => ?_)
  refine ev_aload_n iX4_keepsFrom_19 rfl (by decide) rfl ?_
  refine ev_getR (k1 := 12) 4 1 iX4_keepsFrom_20 kF_X4_16 O_0 rfl (by decide) ?_
  refine ev_iload iX4_keepsFrom_23 rfl ?_
  refine ev_VMV iX4_keepsFrom_25 kV_X4_121 (c_tn_passDays r2 12 a4 isT_12) (rc_T isT_12) rfl rfl (Nat.le_of_ble_eq_true rfl) (sg_fitL (by decide) (Nat.le_of_ble_eq_true rfl)) (fun r3 => ?_)
  refine ev_aload_n iX4_keepsFrom_28 rfl (by decide) rfl ?_
  refine ev_getR (k1 := 12) 4 1 iX4_keepsFrom_29 kF_X4_16 O_0 rfl (by decide) ?_
  refine ev_iload_n iX4_keepsFrom_32 rfl rfl ?_
  refine ev_iload_n iX4_keepsFrom_33 rfl rfl ?_
  refine ev_VRI iX4_keepsFrom_34 kV_X4_104 (c_tn_hasHeard r3 12 a2 a3 isT_12) (rc_T isT_12) rfl rfl (Nat.le_of_ble_eq_true rfl) (sg_fitL (by decide) (Nat.le_of_ble_eq_true rfl)) (fun r4 => ?_)
  refine ev_if_ne iX4_keepsFrom_37 ?_ ?_
  · refine ev_iconst iX4_keepsFrom_40 kI_1 ?_
    refine ev_goto iX4_keepsFrom_41 ?_
    exact ev_iret iX4_keepsFrom_45 rfl (fun ty _ => nar1 ty)
  · refine ev_iconst iX4_keepsFrom_44 kI_0 ?_
    exact ev_iret iX4_keepsFrom_45 rfl (fun ty _ => nar0 ty)
def ns_fits_64_X (σ : sg_S)  (f1 : Int32) (f2 : Int32) (f4 : Int32) : ((Int32 × Int32 × sg_S) ⊕ (Int32 × sg_S)) → sg_X
  | .inl a => .inr (64, [some (.ref 0), some (.int f1), some (.int f2), some (.int a.1), some (.int f4), some (.int a.2.1)], a.2.2)
  | .inr e => .inr (116, [some (.ref 0), some (.int f1), some (.int f2), some (.int e.1), some (.int f4), none], e.2)
def ns_fits_64_L (σ : sg_S)  (f1 : Int32) (f2 : Int32) (f4 : Int32) (a : (Int32 × Int32 × sg_S)) : Option ((Int32 × Int32 × sg_S) ⊕ (Int32 × sg_S)) :=
  (if a.2.1 < 8 then ((tn_become a.2.2 12 1).bind fun r7 => ((tn_listToday r7 12 f4 a.2.1).bind fun r8 => (if sg_in f1 4 = true then ((ns_hearersAreAsTold r8 (53 + 2 * f1.toNatClampNeg) f2).bind fun r10 => (if r10.1 = 0 then some (.inl (a.1, (a.2.1 + 1), r10.2)) else some (.inl ((a.1 + 1), (a.2.1 + 1), r10.2)))) else none))) else some (.inr (a.1, a.2.2)))
set_option maxRecDepth 20000 in
set_option maxHeartbeats 2000000 in
theorem e_ns_fits_64_L (σ : sg_S)  (f1 : Int32) (f2 : Int32) (f4 : Int32)  : ∀ a : (Int32 × Int32 × sg_S), Ev mX4_fits (rmL 5) 64 [some (.ref 0), some (.int f1), some (.int f2), some (.int a.1), some (.int f4), some (.int a.2.1)] [] a.2.2 (ns_fits_64_X σ  f1 f2 f4) (ns_fits_64_L σ  f1 f2 f4 a) := by
  intro a
  unfold ns_fits_64_L
  refine ev_iload iX4_fits_64 rfl ?_
  refine ev_bipush iX4_fits_66 kB_8 ?_
  refine ev_icmp_ge iX4_fits_68 ?_ ?_
  · refine ev_aload_n iX4_fits_71 rfl (by decide) rfl ?_
    refine ev_getR (k1 := 12) 4 1 iX4_fits_72 kF_X4_16 O_0 rfl (by decide) ?_
    refine ev_aload_n iX4_fits_75 rfl (by decide) rfl ?_
    refine ev_getR (k1 := 1) 4 0 iX4_fits_76 kF_X4_10 O_0 rfl (by decide) ?_
    refine ev_VMV iX4_fits_79 kV_X4_147 (c_tn_become a.2.2 12 1 isT_12 isT_1) (rc_T isT_12) rfl rfl (Nat.le_of_ble_eq_true rfl) (sg_fitL (by decide) (Nat.le_of_ble_eq_true rfl)) (fun r7 => ?_)
    refine ev_aload_n iX4_fits_82 rfl (by decide) rfl ?_
    refine ev_getR (k1 := 12) 4 1 iX4_fits_83 kF_X4_16 O_0 rfl (by decide) ?_
    refine ev_iload iX4_fits_86 rfl ?_
    refine ev_iload iX4_fits_88 rfl ?_
    refine ev_VMV iX4_fits_90 kV_X4_176 (c_tn_listToday r7 12 f4 a.2.1 isT_12) (rc_T isT_12) rfl rfl (Nat.le_of_ble_eq_true rfl) (sg_fitL (by decide) (Nat.le_of_ble_eq_true rfl)) (fun r8 => ?_)
    refine ev_aload_n iX4_fits_93 rfl (by decide) rfl ?_
    refine ev_aload_n iX4_fits_94 rfl (by decide) rfl ?_
    refine ev_getR (k1 := 52) 4 5 iX4_fits_95 kF_X4_35 O_0 rfl (by decide) ?_
    refine ev_iload_n iX4_fits_98 rfl rfl ?_
    refine ev_aaldS iX4_fits_99 (fun h9 => ?_)
    refine ev_iload_n iX4_fits_100 rfl rfl ?_
    refine ev_VMI iX4_fits_101 kV_X4_179 (c_ns_hearersAreAsTold r8 (53 + 2 * f1.toNatClampNeg) f2 (sg_isS_of h9)) rc_0 rfl rfl (Nat.le_of_ble_eq_true rfl) (sg_fitL (by decide) (Nat.le_of_ble_eq_true rfl)) (fun r10 => ?_)
    refine ev_if_eq iX4_fits_104 ?_ ?_
    · refine ev_iinc (v := (a.2.1 + 1)) (ls2 := [some (.ref 0), some (.int f1), some (.int f2), some (.int a.1), some (.int f4), some (.int (a.2.1 + 1))]) iX4_fits_110 rfl (by rw [kI_1]) (Nat.le_of_ble_eq_true rfl) rfl rfl ?_
      refine ev_goto iX4_fits_113 ?_
      exact ev_exit rfl ⟨rfl, rfl, rfl, rfl, rfl, rfl, trivial⟩
    · refine ev_iinc (v := (a.1 + 1)) (ls2 := [some (.ref 0), some (.int f1), some (.int f2), some (.int (a.1 + 1)), some (.int f4), some (.int a.2.1)]) iX4_fits_107 rfl (by rw [kI_1]) (Nat.le_of_ble_eq_true rfl) rfl rfl ?_
      refine ev_iinc (v := (a.2.1 + 1)) (ls2 := [some (.ref 0), some (.int f1), some (.int f2), some (.int (a.1 + 1)), some (.int f4), some (.int (a.2.1 + 1))]) iX4_fits_110 rfl (by rw [kI_1]) (Nat.le_of_ble_eq_true rfl) rfl rfl ?_
      refine ev_goto iX4_fits_113 ?_
      exact ev_exit rfl ⟨rfl, rfl, rfl, rfl, rfl, rfl, trivial⟩
  · exact ev_exit rfl ⟨rfl, rfl, rfl, rfl, rfl, trivial⟩
def ns_fits_54_X (σ : sg_S)  (f1 : Int32) (f2 : Int32) : ((Int32 × Int32 × sg_S) ⊕ (Int32 × sg_S)) → sg_X
  | .inl a => .inr (54, [some (.ref 0), some (.int f1), some (.int f2), some (.int a.1), some (.int a.2.1), none], a.2.2)
  | .inr e => .inr (122, [none, none, none, some (.int e.1), none, none], e.2)
def ns_fits_54_L (σ : sg_S)  (f1 : Int32) (f2 : Int32) (a : (Int32 × Int32 × sg_S)) : Option ((Int32 × Int32 × sg_S) ⊕ (Int32 × sg_S)) :=
  (if a.2.1 < 8 then ((sg_lp (ns_fits_64_L a.2.2  f1 f2 a.2.1) 1000 (a.1, 0, a.2.2)).bind fun e13 => some (.inl (e13.1, (a.2.1 + 1), e13.2))) else some (.inr (a.1, a.2.2)))
set_option maxRecDepth 20000 in
set_option maxHeartbeats 2000000 in
theorem e_ns_fits_54_L (σ : sg_S)  (f1 : Int32) (f2 : Int32)  : ∀ a : (Int32 × Int32 × sg_S), Ev mX4_fits (rmL 5) 54 [some (.ref 0), some (.int f1), some (.int f2), some (.int a.1), some (.int a.2.1), none] [] a.2.2 (ns_fits_54_X σ  f1 f2) (ns_fits_54_L σ  f1 f2 a) := by
  intro a
  unfold ns_fits_54_L
  refine ev_iload iX4_fits_54 rfl ?_
  refine ev_bipush iX4_fits_56 kB_8 ?_
  refine ev_icmp_ge iX4_fits_58 ?_ ?_
  · refine ev_iconst iX4_fits_61 kI_0 ?_
    refine ev_istore (ls2 := [some (.ref 0), some (.int f1), some (.int f2), some (.int a.1), some (.int a.2.1), some (.int 0)]) iX4_fits_62 (Nat.le_of_ble_eq_true rfl) (Nat.le_of_ble_eq_true rfl) rfl rfl ?_
    refine ev_less (ls2 := [some (.ref 0), some (.int f1), some (.int f2), some (.int a.1), some (.int a.2.1), some (.int 0)]) ?_ ⟨rfl, rfl, rfl, rfl, rfl, rfl, trivial⟩
    refine ev_seq1 116 (fun z12 => [some (.ref 0), some (.int f1), some (.int f2), some (.int z12.1), some (.int a.2.1), none]) (fun z12 => z12.2) (ev_loop (embB := ns_fits_64_X a.2.2  f1 f2 a.2.1) (ex := fun b => ns_fits_64_X a.2.2  f1 f2 a.2.1 (.inr b)) 64 (fun z11 => [some (.ref 0), some (.int f1), some (.int f2), some (.int z11.1), some (.int a.2.1), some (.int z11.2.1)]) (fun z11 => z11.2.2) (fun _ => rfl) (fun _ => rfl) (e_ns_fits_64_L a.2.2  f1 f2 a.2.1 ) 1000 (a.1, 0, a.2.2)) (fun _ => rfl) (fun e13 => ?_)
    refine ev_iinc (v := (a.2.1 + 1)) (ls2 := [some (.ref 0), some (.int f1), some (.int f2), some (.int e13.1), some (.int (a.2.1 + 1)), none]) iX4_fits_116 rfl (by rw [kI_1]) (Nat.le_of_ble_eq_true rfl) rfl rfl ?_
    refine ev_goto iX4_fits_119 ?_
    exact ev_exit rfl ⟨rfl, rfl, rfl, rfl, rfl, trivial⟩
  · exact ev_exit rfl ⟨rfl, trivial⟩
def ns_fits (σ : sg_S) (a1 : Int32) (a2 : Int32) : Option (Int32 × sg_S) :=
  ((ns_within σ a1 3).bind fun r1 => (if r1 = 0 then ((ns_finding σ 0).bind fun r2 => some (r2.1, r2.2)) else (if sg_in a1 4 = true then (if (σ (53 + 2 * a1.toNatClampNeg) 1) = 0 then ((ns_finding σ 5).bind fun r4 => some (r4.1, r4.2)) else ((tn_isSaying σ 1 a2).bind fun r5 => (if r5 = 0 then ((ns_finding σ 0).bind fun r6 => some (r6.1, r6.2)) else ((sg_lp (ns_fits_54_L σ  a1 a2) 1000 (0, 0, σ)).bind fun e16 => some (e16.1, e16.2))))) else none)))
set_option maxRecDepth 20000 in
set_option maxHeartbeats 2000000 in
theorem c_ns_fits (σ : sg_S) (a1 : Int32) (a2 : Int32)  : sg_Call yX4_fits mX4_fits (rmL 5) [.ref 0, .int a1, .int a2] σ eMI (ns_fits σ a1 a2) := by
  refine sg_call_of (by decide +kernel) rfl (Nat.le_of_ble_eq_true rfl) rfl (fun _ => rfl) ?_
  refine ev_less (ls2 := [some (.ref 0), some (.int a1), some (.int a2), none, none, none]) ?_ ⟨rfl, rfl, rfl, trivial⟩
  unfold ns_fits
  refine ev_iload_n iX4_fits_0 rfl rfl ?_
  refine ev_iconst iX4_fits_1 kI_3 ?_
  refine ev_SRI iX4_fits_2 kS_X4_44 (c_ns_within σ a1 3) rfl rfl (Nat.le_of_ble_eq_true rfl) (sg_fitL (by decide) (Nat.le_of_ble_eq_true rfl)) (fun r1 => ?_)
  refine ev_if_ne iX4_fits_5 ?_ ?_
  · refine ev_aload_n iX4_fits_8 rfl (by decide) rfl ?_
    refine ev_iconst iX4_fits_9 kI_0 ?_
    refine ev_VMI iX4_fits_10 kV_X4_48 (c_ns_finding σ 0) rc_0 rfl rfl (Nat.le_of_ble_eq_true rfl) (sg_fitL (by decide) (Nat.le_of_ble_eq_true rfl)) (fun r2 => ?_)
    exact ev_iret iX4_fits_13 rfl (narI rfl _)
  · refine ev_aload_n iX4_fits_14 rfl (by decide) rfl ?_
    refine ev_getR (k1 := 52) 4 5 iX4_fits_15 kF_X4_35 O_0 rfl (by decide) ?_
    refine ev_iload_n iX4_fits_18 rfl rfl ?_
    refine ev_aaldS iX4_fits_19 (fun h3 => ?_)
    refine ev_getI 1 1 iX4_fits_20 kF_X4_173 (isS_O (sg_isS_of h3)) rfl ?_
    refine ev_if_ne iX4_fits_23 ?_ ?_
    · refine ev_aload_n iX4_fits_26 rfl (by decide) rfl ?_
      refine ev_iconst iX4_fits_27 kI_5 ?_
      refine ev_VMI iX4_fits_28 kV_X4_48 (c_ns_finding σ 5) rc_0 rfl rfl (Nat.le_of_ble_eq_true rfl) (sg_fitL (by decide) (Nat.le_of_ble_eq_true rfl)) (fun r4 => ?_)
      exact ev_iret iX4_fits_31 rfl (narI rfl _)
    · refine ev_aload_n iX4_fits_32 rfl (by decide) rfl ?_
      refine ev_getR (k1 := 1) 4 0 iX4_fits_33 kF_X4_10 O_0 rfl (by decide) ?_
      refine ev_iload_n iX4_fits_36 rfl rfl ?_
      refine ev_VRI iX4_fits_37 kV_X4_92 (c_tn_isSaying σ 1 a2 isT_1) (rc_T isT_1) rfl rfl (Nat.le_of_ble_eq_true rfl) (sg_fitL (by decide) (Nat.le_of_ble_eq_true rfl)) (fun r5 => ?_)
      refine ev_if_ne iX4_fits_40 ?_ ?_
      · refine ev_aload_n iX4_fits_43 rfl (by decide) rfl ?_
        refine ev_iconst iX4_fits_44 kI_0 ?_
        refine ev_VMI iX4_fits_45 kV_X4_48 (c_ns_finding σ 0) rc_0 rfl rfl (Nat.le_of_ble_eq_true rfl) (sg_fitL (by decide) (Nat.le_of_ble_eq_true rfl)) (fun r6 => ?_)
        exact ev_iret iX4_fits_48 rfl (narI rfl _)
      · refine ev_iconst iX4_fits_49 kI_0 ?_
        refine ev_istore_n (ls2 := [some (.ref 0), some (.int a1), some (.int a2), some (.int 0), none, none]) iX4_fits_50 rfl (Nat.le_of_ble_eq_true rfl) (Nat.le_of_ble_eq_true rfl) rfl rfl ?_
        refine ev_iconst iX4_fits_51 kI_0 ?_
        refine ev_istore (ls2 := [some (.ref 0), some (.int a1), some (.int a2), some (.int 0), some (.int 0), none]) iX4_fits_52 (Nat.le_of_ble_eq_true rfl) (Nat.le_of_ble_eq_true rfl) rfl rfl ?_
        refine ev_less (ls2 := [some (.ref 0), some (.int a1), some (.int a2), some (.int 0), some (.int 0), none]) ?_ ⟨rfl, rfl, rfl, rfl, rfl, trivial⟩
        refine ev_seq1 122 (fun z15 => [none, none, none, some (.int z15.1), none, none]) (fun z15 => z15.2) (ev_loop (embB := ns_fits_54_X σ  a1 a2) (ex := fun b => ns_fits_54_X σ  a1 a2 (.inr b)) 54 (fun z14 => [some (.ref 0), some (.int a1), some (.int a2), some (.int z14.1), some (.int z14.2.1), none]) (fun z14 => z14.2.2) (fun _ => rfl) (fun _ => rfl) (e_ns_fits_54_L σ  a1 a2 ) 1000 (0, 0, σ)) (fun _ => rfl) (fun e16 => ?_)
        refine ev_iload_n iX4_fits_122 rfl rfl ?_
        exact ev_iret iX4_fits_123 rfl (narI rfl _)
def ns_kinds_54_X (σ : sg_S)  (f1 : Int32) (f2 : Int32) : ((Int32 × Int32 × sg_S) ⊕ (Int32 × sg_S)) → sg_X
  | .inl a => .inr (54, [some (.ref 0), some (.int f1), some (.int f2), some (.int a.1), some (.int a.2.1)], a.2.2)
  | .inr e => .inr (110, [none, none, none, some (.int e.1), none], e.2)
def ns_kinds_54_L (σ : sg_S)  (f1 : Int32) (f2 : Int32) (a : (Int32 × Int32 × sg_S)) : Option ((Int32 × Int32 × sg_S) ⊕ (Int32 × sg_S)) :=
  (if a.2.1 < 7 then ((tn_become a.2.2 12 1).bind fun r7 => (if sg_in f2 8 = true then sg_let (sg_st r7 14 f2.toNatClampNeg a.2.1) (fun s8 => (if sg_in f1 4 = true then ((ns_sayingsAreAsTold s8 (53 + 2 * f1.toNatClampNeg) f2).bind fun r10 => (if r10.1 = 0 then some (.inl (a.1, (a.2.1 + 1), r10.2)) else sg_leti (a.1 ||| (jshl 1 a.2.1)) (fun x11 => some (.inl (x11, (a.2.1 + 1), r10.2))))) else none)) else none)) else some (.inr (a.1, a.2.2)))
set_option maxRecDepth 20000 in
set_option maxHeartbeats 2000000 in
theorem e_ns_kinds_54_L (σ : sg_S)  (f1 : Int32) (f2 : Int32)  : ∀ a : (Int32 × Int32 × sg_S), Ev mX4_kinds (rmL 5) 54 [some (.ref 0), some (.int f1), some (.int f2), some (.int a.1), some (.int a.2.1)] [] a.2.2 (ns_kinds_54_X σ  f1 f2) (ns_kinds_54_L σ  f1 f2 a) := by
  intro a
  unfold ns_kinds_54_L
  refine ev_iload iX4_kinds_54 rfl ?_
  refine ev_bipush iX4_kinds_56 kB_7 ?_
  refine ev_icmp_ge iX4_kinds_58 ?_ ?_
  · refine ev_aload_n iX4_kinds_61 rfl (by decide) rfl ?_
    refine ev_getR (k1 := 12) 4 1 iX4_kinds_62 kF_X4_16 O_0 rfl (by decide) ?_
    refine ev_aload_n iX4_kinds_65 rfl (by decide) rfl ?_
    refine ev_getR (k1 := 1) 4 0 iX4_kinds_66 kF_X4_10 O_0 rfl (by decide) ?_
    refine ev_VMV iX4_kinds_69 kV_X4_147 (c_tn_become a.2.2 12 1 isT_12 isT_1) (rc_T isT_12) rfl rfl (Nat.le_of_ble_eq_true rfl) (sg_fitL (by decide) (Nat.le_of_ble_eq_true rfl)) (fun r7 => ?_)
    refine ev_aload_n iX4_kinds_72 rfl (by decide) rfl ?_
    refine ev_getR (k1 := 12) 4 1 iX4_kinds_73 kF_X4_16 O_0 rfl (by decide) ?_
    refine ev_getR (k1 := 14) 3 1 iX4_kinds_76 kF_X4_73 O_12 rfl (by decide) ?_
    refine ev_iload_n iX4_kinds_79 rfl rfl ?_
    refine ev_iload iX4_kinds_80 rfl ?_
    refine ev_iast iX4_kinds_82 A_14 ?_
    refine ev_let (fun s8 => ?_)
    refine ev_aload_n iX4_kinds_83 rfl (by decide) rfl ?_
    refine ev_aload_n iX4_kinds_84 rfl (by decide) rfl ?_
    refine ev_getR (k1 := 52) 4 5 iX4_kinds_85 kF_X4_35 O_0 rfl (by decide) ?_
    refine ev_iload_n iX4_kinds_88 rfl rfl ?_
    refine ev_aaldS iX4_kinds_89 (fun h9 => ?_)
    refine ev_iload_n iX4_kinds_90 rfl rfl ?_
    refine ev_VMI iX4_kinds_91 kV_X4_189 (c_ns_sayingsAreAsTold s8 (53 + 2 * f1.toNatClampNeg) f2 (sg_isS_of h9)) rc_0 rfl rfl (Nat.le_of_ble_eq_true rfl) (sg_fitL (by decide) (Nat.le_of_ble_eq_true rfl)) (fun r10 => ?_)
    refine ev_if_eq iX4_kinds_94 ?_ ?_
    · refine ev_iinc (v := (a.2.1 + 1)) (ls2 := [some (.ref 0), some (.int f1), some (.int f2), some (.int a.1), some (.int (a.2.1 + 1))]) iX4_kinds_104 rfl (by rw [kI_1]) (Nat.le_of_ble_eq_true rfl) rfl rfl ?_
      refine ev_goto iX4_kinds_107 ?_
      exact ev_exit rfl ⟨rfl, rfl, rfl, rfl, rfl, trivial⟩
    · refine ev_iload_n iX4_kinds_97 rfl rfl ?_
      refine ev_iconst iX4_kinds_98 kI_1 ?_
      refine ev_iload iX4_kinds_99 rfl ?_
      refine ev_ishl iX4_kinds_101 ?_
      refine ev_ior iX4_kinds_102 ?_
      refine ev_leti (fun x11 => ?_)
      refine ev_istore_n (ls2 := [some (.ref 0), some (.int f1), some (.int f2), some (.int x11), some (.int a.2.1)]) iX4_kinds_103 rfl (Nat.le_of_ble_eq_true rfl) (Nat.le_of_ble_eq_true rfl) rfl rfl ?_
      refine ev_iinc (v := (a.2.1 + 1)) (ls2 := [some (.ref 0), some (.int f1), some (.int f2), some (.int x11), some (.int (a.2.1 + 1))]) iX4_kinds_104 rfl (by rw [kI_1]) (Nat.le_of_ble_eq_true rfl) rfl rfl ?_
      refine ev_goto iX4_kinds_107 ?_
      exact ev_exit rfl ⟨rfl, rfl, rfl, rfl, rfl, trivial⟩
  · exact ev_exit rfl ⟨rfl, trivial⟩
def ns_kinds (σ : sg_S) (a1 : Int32) (a2 : Int32) : Option (Int32 × sg_S) :=
  ((ns_within σ a1 3).bind fun r1 => (if r1 = 0 then ((ns_finding σ 0).bind fun r2 => some (r2.1, r2.2)) else (if sg_in a1 4 = true then (if (σ (53 + 2 * a1.toNatClampNeg) 1) = 0 then ((ns_finding σ 5).bind fun r4 => some (r4.1, r4.2)) else ((tn_isPerson σ 1 a2).bind fun r5 => (if r5 = 0 then ((ns_finding σ 0).bind fun r6 => some (r6.1, r6.2)) else ((sg_lp (ns_kinds_54_L σ  a1 a2) 1000 (0, 0, σ)).bind fun e14 => some (e14.1, e14.2))))) else none)))
set_option maxRecDepth 20000 in
set_option maxHeartbeats 2000000 in
theorem c_ns_kinds (σ : sg_S) (a1 : Int32) (a2 : Int32)  : sg_Call yX4_kinds mX4_kinds (rmL 5) [.ref 0, .int a1, .int a2] σ eMI (ns_kinds σ a1 a2) := by
  refine sg_call_of (by decide +kernel) rfl (Nat.le_of_ble_eq_true rfl) rfl (fun _ => rfl) ?_
  refine ev_less (ls2 := [some (.ref 0), some (.int a1), some (.int a2), none, none]) ?_ ⟨rfl, rfl, rfl, trivial⟩
  unfold ns_kinds
  refine ev_iload_n iX4_kinds_0 rfl rfl ?_
  refine ev_iconst iX4_kinds_1 kI_3 ?_
  refine ev_SRI iX4_kinds_2 kS_X4_44 (c_ns_within σ a1 3) rfl rfl (Nat.le_of_ble_eq_true rfl) (sg_fitL (by decide) (Nat.le_of_ble_eq_true rfl)) (fun r1 => ?_)
  refine ev_if_ne iX4_kinds_5 ?_ ?_
  · refine ev_aload_n iX4_kinds_8 rfl (by decide) rfl ?_
    refine ev_iconst iX4_kinds_9 kI_0 ?_
    refine ev_VMI iX4_kinds_10 kV_X4_48 (c_ns_finding σ 0) rc_0 rfl rfl (Nat.le_of_ble_eq_true rfl) (sg_fitL (by decide) (Nat.le_of_ble_eq_true rfl)) (fun r2 => ?_)
    exact ev_iret iX4_kinds_13 rfl (narI rfl _)
  · refine ev_aload_n iX4_kinds_14 rfl (by decide) rfl ?_
    refine ev_getR (k1 := 52) 4 5 iX4_kinds_15 kF_X4_35 O_0 rfl (by decide) ?_
    refine ev_iload_n iX4_kinds_18 rfl rfl ?_
    refine ev_aaldS iX4_kinds_19 (fun h3 => ?_)
    refine ev_getI 1 1 iX4_kinds_20 kF_X4_173 (isS_O (sg_isS_of h3)) rfl ?_
    refine ev_if_ne iX4_kinds_23 ?_ ?_
    · refine ev_aload_n iX4_kinds_26 rfl (by decide) rfl ?_
      refine ev_iconst iX4_kinds_27 kI_5 ?_
      refine ev_VMI iX4_kinds_28 kV_X4_48 (c_ns_finding σ 5) rc_0 rfl rfl (Nat.le_of_ble_eq_true rfl) (sg_fitL (by decide) (Nat.le_of_ble_eq_true rfl)) (fun r4 => ?_)
      exact ev_iret iX4_kinds_31 rfl (narI rfl _)
    · refine ev_aload_n iX4_kinds_32 rfl (by decide) rfl ?_
      refine ev_getR (k1 := 1) 4 0 iX4_kinds_33 kF_X4_10 O_0 rfl (by decide) ?_
      refine ev_iload_n iX4_kinds_36 rfl rfl ?_
      refine ev_VRI iX4_kinds_37 kV_X4_63 (c_tn_isPerson σ 1 a2 isT_1) (rc_T isT_1) rfl rfl (Nat.le_of_ble_eq_true rfl) (sg_fitL (by decide) (Nat.le_of_ble_eq_true rfl)) (fun r5 => ?_)
      refine ev_if_ne iX4_kinds_40 ?_ ?_
      · refine ev_aload_n iX4_kinds_43 rfl (by decide) rfl ?_
        refine ev_iconst iX4_kinds_44 kI_0 ?_
        refine ev_VMI iX4_kinds_45 kV_X4_48 (c_ns_finding σ 0) rc_0 rfl rfl (Nat.le_of_ble_eq_true rfl) (sg_fitL (by decide) (Nat.le_of_ble_eq_true rfl)) (fun r6 => ?_)
        exact ev_iret iX4_kinds_48 rfl (narI rfl _)
      · refine ev_iconst iX4_kinds_49 kI_0 ?_
        refine ev_istore_n (ls2 := [some (.ref 0), some (.int a1), some (.int a2), some (.int 0), none]) iX4_kinds_50 rfl (Nat.le_of_ble_eq_true rfl) (Nat.le_of_ble_eq_true rfl) rfl rfl ?_
        refine ev_iconst iX4_kinds_51 kI_0 ?_
        refine ev_istore (ls2 := [some (.ref 0), some (.int a1), some (.int a2), some (.int 0), some (.int 0)]) iX4_kinds_52 (Nat.le_of_ble_eq_true rfl) (Nat.le_of_ble_eq_true rfl) rfl rfl ?_
        refine ev_less (ls2 := [some (.ref 0), some (.int a1), some (.int a2), some (.int 0), some (.int 0)]) ?_ ⟨rfl, rfl, rfl, rfl, rfl, trivial⟩
        refine ev_seq1 110 (fun z13 => [none, none, none, some (.int z13.1), none]) (fun z13 => z13.2) (ev_loop (embB := ns_kinds_54_X σ  a1 a2) (ex := fun b => ns_kinds_54_X σ  a1 a2 (.inr b)) 54 (fun z12 => [some (.ref 0), some (.int a1), some (.int a2), some (.int z12.1), some (.int z12.2.1)]) (fun z12 => z12.2.2) (fun _ => rfl) (fun _ => rfl) (e_ns_kinds_54_L σ  a1 a2 ) 1000 (0, 0, σ)) (fun _ => rfl) (fun e14 => ?_)
        refine ev_iload_n iX4_kinds_110 rfl rfl ?_
        exact ev_iret iX4_kinds_111 rfl (narI rfl _)
def ns_hush_73_X (σ : sg_S)  (f1 : Int32) (f2 : Int32) (f3 : Int32) (f4 : Int32) : ((Int32 × sg_S) ⊕ (sg_S ⊕ (Int32 × sg_S))) → sg_X
  | .inl a => .inr (73, [some (.ref 0), some (.int f1), some (.int f2), some (.int f3), some (.int f4), some (.int a.1)], a.2)
  | .inr (.inl e) => .inr (116, [some (.ref 0), some (.int f1), some (.int f2), some (.int f3), some (.int f4), none], e)
  | .inr (.inr r) => .inl (eMI r)
def ns_hush_73_L (σ : sg_S)  (f1 : Int32) (f2 : Int32) (f3 : Int32) (f4 : Int32) (a : (Int32 × sg_S)) : Option ((Int32 × sg_S) ⊕ (sg_S ⊕ (Int32 × sg_S))) :=
  ((tn_everybody a.2 1).bind fun r8 => (if r8 < a.1 then some (.inr (.inl a.2)) else ((jd6_bitCount a.2 a.1).bind fun r9 => (if r9 = f4 then ((ns_keepsFrom a.2 a.1 f1 f2 f3).bind fun r10 => (if r10.1 = 0 then some (.inl ((a.1 + 1), r10.2)) else some (.inr (.inr (a.1, r10.2))))) else some (.inl ((a.1 + 1), a.2))))))
set_option maxRecDepth 20000 in
set_option maxHeartbeats 2000000 in
theorem e_ns_hush_73_L (σ : sg_S)  (f1 : Int32) (f2 : Int32) (f3 : Int32) (f4 : Int32)  : ∀ a : (Int32 × sg_S), Ev mX4_hush (rmL 6) 73 [some (.ref 0), some (.int f1), some (.int f2), some (.int f3), some (.int f4), some (.int a.1)] [] a.2 (ns_hush_73_X σ  f1 f2 f3 f4) (ns_hush_73_L σ  f1 f2 f3 f4 a) := by
  intro a
  unfold ns_hush_73_L
  refine ev_iload iX4_hush_73 rfl ?_
  refine ev_aload_n iX4_hush_75 rfl (by decide) rfl ?_
  refine ev_getR (k1 := 1) 4 0 iX4_hush_76 kF_X4_10 O_0 rfl (by decide) ?_
  refine ev_VRI iX4_hush_79 kV_X4_163 (c_tn_everybody a.2 1 isT_1) (rc_T isT_1) rfl rfl (Nat.le_of_ble_eq_true rfl) (sg_fitL (by decide) (Nat.le_of_ble_eq_true rfl)) (fun r8 => ?_)
  refine ev_icmp_gt iX4_hush_82 ?_ ?_
  · exact ev_exit rfl ⟨rfl, rfl, rfl, rfl, rfl, trivial⟩
  · refine ev_iload iX4_hush_85 rfl ?_
    refine ev_SRI iX4_hush_87 kS_X4_158 (c_jd6_bitCount a.2 a.1) rfl rfl (Nat.le_of_ble_eq_true rfl) (sg_fitL (by decide) (Nat.le_of_ble_eq_true rfl)) (fun r9 => ?_)
    refine ev_iload iX4_hush_90 rfl ?_
    refine ev_icmp_ne iX4_hush_92 ?_ ?_
    · refine ev_aload_n iX4_hush_95 rfl (by decide) rfl ?_
      refine ev_iload iX4_hush_96 rfl ?_
      refine ev_iload_n iX4_hush_98 rfl rfl ?_
      refine ev_iload_n iX4_hush_99 rfl rfl ?_
      refine ev_iload_n iX4_hush_100 rfl rfl ?_
      refine ev_VMI iX4_hush_101 kV_X4_166 (c_ns_keepsFrom a.2 a.1 f1 f2 f3) rc_0 rfl rfl (Nat.le_of_ble_eq_true rfl) (sg_fitL (by decide) (Nat.le_of_ble_eq_true rfl)) (fun r10 => ?_)
      refine ev_if_eq iX4_hush_104 ?_ ?_
      · refine ev_iinc (v := (a.1 + 1)) (ls2 := [some (.ref 0), some (.int f1), some (.int f2), some (.int f3), some (.int f4), some (.int (a.1 + 1))]) iX4_hush_110 rfl (by rw [kI_1]) (Nat.le_of_ble_eq_true rfl) rfl rfl ?_
        refine ev_goto iX4_hush_113 ?_
        exact ev_exit rfl ⟨rfl, rfl, rfl, rfl, rfl, rfl, trivial⟩
      · refine ev_iload iX4_hush_107 rfl ?_
        exact ev_iret iX4_hush_109 rfl (narI rfl _)
    · refine ev_iinc (v := (a.1 + 1)) (ls2 := [some (.ref 0), some (.int f1), some (.int f2), some (.int f3), some (.int f4), some (.int (a.1 + 1))]) iX4_hush_110 rfl (by rw [kI_1]) (Nat.le_of_ble_eq_true rfl) rfl rfl ?_
      refine ev_goto iX4_hush_113 ?_
      exact ev_exit rfl ⟨rfl, rfl, rfl, rfl, rfl, rfl, trivial⟩
def ns_hush_58_X (σ : sg_S)  (f1 : Int32) (f2 : Int32) (f3 : Int32) : ((Int32 × sg_S) ⊕ (sg_S ⊕ (Int32 × sg_S))) → sg_X
  | .inl a => .inr (58, [some (.ref 0), some (.int f1), some (.int f2), some (.int f3), some (.int a.1), none], a.2)
  | .inr (.inl e) => .inr (122, [some (.ref 0), none, none, none, none, none], e)
  | .inr (.inr r) => .inl (eMI r)
def ns_hush_58_L (σ : sg_S)  (f1 : Int32) (f2 : Int32) (f3 : Int32) (a : (Int32 × sg_S)) : Option ((Int32 × sg_S) ⊕ (sg_S ⊕ (Int32 × sg_S))) :=
  (if (a.2 1 10) < a.1 then some (.inr (.inl a.2)) else ((sg_lp (ns_hush_73_L a.2  f1 f2 f3 a.1) 1000 (0, a.2)).bind (Sum.elim (fun e13 => some (.inl ((a.1 + 1), e13))) (fun rr => some (.inr (.inr rr))))))
set_option maxRecDepth 20000 in
set_option maxHeartbeats 2000000 in
theorem e_ns_hush_58_L (σ : sg_S)  (f1 : Int32) (f2 : Int32) (f3 : Int32)  : ∀ a : (Int32 × sg_S), Ev mX4_hush (rmL 6) 58 [some (.ref 0), some (.int f1), some (.int f2), some (.int f3), some (.int a.1), none] [] a.2 (ns_hush_58_X σ  f1 f2 f3) (ns_hush_58_L σ  f1 f2 f3 a) := by
  intro a
  unfold ns_hush_58_L
  refine ev_iload iX4_hush_58 rfl ?_
  refine ev_aload_n iX4_hush_60 rfl (by decide) rfl ?_
  refine ev_getR (k1 := 1) 4 0 iX4_hush_61 kF_X4_10 O_0 rfl (by decide) ?_
  refine ev_getI 3 10 iX4_hush_64 kF_X4_55 O_1 rfl ?_
  refine ev_icmp_gt iX4_hush_67 ?_ ?_
  · exact ev_exit rfl ⟨rfl, trivial⟩
  · refine ev_iconst iX4_hush_70 kI_0 ?_
    refine ev_istore (ls2 := [some (.ref 0), some (.int f1), some (.int f2), some (.int f3), some (.int a.1), some (.int 0)]) iX4_hush_71 (Nat.le_of_ble_eq_true rfl) (Nat.le_of_ble_eq_true rfl) rfl rfl ?_
    refine ev_less (ls2 := [some (.ref 0), some (.int f1), some (.int f2), some (.int f3), some (.int a.1), some (.int 0)]) ?_ ⟨rfl, rfl, rfl, rfl, rfl, rfl, trivial⟩
    refine ev_seqS 116 (fun z12 => [some (.ref 0), some (.int f1), some (.int f2), some (.int f3), some (.int a.1), none]) (fun z12 => z12) (ev_loop (embB := ns_hush_73_X a.2  f1 f2 f3 a.1) (ex := fun b => ns_hush_73_X a.2  f1 f2 f3 a.1 (.inr b)) 73 (fun z11 => [some (.ref 0), some (.int f1), some (.int f2), some (.int f3), some (.int a.1), some (.int z11.1)]) (fun z11 => z11.2) (fun _ => rfl) (fun _ => rfl) (e_ns_hush_73_L a.2  f1 f2 f3 a.1 ) 1000 (0, a.2)) (fun _ => rfl) (fun r => ⟨_, rfl, fun a h => by cases h; rfl⟩) (fun e13 => ?_)
    refine ev_iinc (v := (a.1 + 1)) (ls2 := [some (.ref 0), some (.int f1), some (.int f2), some (.int f3), some (.int (a.1 + 1)), none]) iX4_hush_116 rfl (by rw [kI_1]) (Nat.le_of_ble_eq_true rfl) rfl rfl ?_
    refine ev_goto iX4_hush_119 ?_
    exact ev_exit rfl ⟨rfl, rfl, rfl, rfl, rfl, trivial⟩
def ns_hush (σ : sg_S) (a1 : Int32) (a2 : Int32) (a3 : Int32) : Option (Int32 × sg_S) :=
  ((tn_isSaying σ 1 a1).bind fun r1 => (if r1 = 0 then ((ns_finding σ 0).bind fun r2 => some (r2.1, r2.2)) else ((tn_isPerson σ 1 a2).bind fun r3 => (if r3 = 0 then ((ns_finding σ 0).bind fun r4 => some (r4.1, r4.2)) else ((ns_within σ a3 20).bind fun r5 => (if r5 = 0 then ((ns_finding σ 0).bind fun r6 => some (r6.1, r6.2)) else ((tn_hasHeard σ 1 a1 a2).bind fun r7 => (if r7 = 0 then ((sg_lp (ns_hush_58_L σ  a1 a2 a3) 1000 (0, σ)).bind (Sum.elim (fun e16 => ((ns_finding e16 3).bind fun r17 => some (r17.1, r17.2))) (fun rr => some rr))) else ((ns_finding σ 3).bind fun r18 => some (r18.1, r18.2))))))))))
set_option maxRecDepth 20000 in
set_option maxHeartbeats 2000000 in
theorem c_ns_hush (σ : sg_S) (a1 : Int32) (a2 : Int32) (a3 : Int32)  : sg_Call yX4_hush mX4_hush (rmL 6) [.ref 0, .int a1, .int a2, .int a3] σ eMI (ns_hush σ a1 a2 a3) := by
  refine sg_call_of (by decide +kernel) rfl (Nat.le_of_ble_eq_true rfl) rfl (fun _ => rfl) ?_
  refine ev_less (ls2 := [some (.ref 0), some (.int a1), some (.int a2), some (.int a3), none, none]) ?_ ⟨rfl, rfl, rfl, rfl, trivial⟩
  unfold ns_hush
  refine ev_aload_n iX4_hush_0 rfl (by decide) rfl ?_
  refine ev_getR (k1 := 1) 4 0 iX4_hush_1 kF_X4_10 O_0 rfl (by decide) ?_
  refine ev_iload_n iX4_hush_4 rfl rfl ?_
  refine ev_VRI iX4_hush_5 kV_X4_92 (c_tn_isSaying σ 1 a1 isT_1) (rc_T isT_1) rfl rfl (Nat.le_of_ble_eq_true rfl) (sg_fitL (by decide) (Nat.le_of_ble_eq_true rfl)) (fun r1 => ?_)
  refine ev_if_eq iX4_hush_8 ?_ ?_
  · refine ev_aload_n iX4_hush_31 rfl (by decide) rfl ?_
    refine ev_iconst iX4_hush_32 kI_0 ?_
    refine ev_VMI iX4_hush_33 kV_X4_48 (c_ns_finding σ 0) rc_0 rfl rfl (Nat.le_of_ble_eq_true rfl) (sg_fitL (by decide) (Nat.le_of_ble_eq_true rfl)) (fun r2 => ?_)
    exact ev_iret iX4_hush_36 rfl (narI rfl _)
  · refine ev_aload_n iX4_hush_11 rfl (by decide) rfl ?_
    refine ev_getR (k1 := 1) 4 0 iX4_hush_12 kF_X4_10 O_0 rfl (by decide) ?_
    refine ev_iload_n iX4_hush_15 rfl rfl ?_
    refine ev_VRI iX4_hush_16 kV_X4_63 (c_tn_isPerson σ 1 a2 isT_1) (rc_T isT_1) rfl rfl (Nat.le_of_ble_eq_true rfl) (sg_fitL (by decide) (Nat.le_of_ble_eq_true rfl)) (fun r3 => ?_)
    refine ev_if_eq iX4_hush_19 ?_ ?_
    · refine ev_aload_n iX4_hush_31 rfl (by decide) rfl ?_
      refine ev_iconst iX4_hush_32 kI_0 ?_
      refine ev_VMI iX4_hush_33 kV_X4_48 (c_ns_finding σ 0) rc_0 rfl rfl (Nat.le_of_ble_eq_true rfl) (sg_fitL (by decide) (Nat.le_of_ble_eq_true rfl)) (fun r4 => ?_)
      exact ev_iret iX4_hush_36 rfl (narI rfl _)
    · refine ev_iload_n iX4_hush_22 rfl rfl ?_
      refine ev_bipush iX4_hush_23 kB_20 ?_
      refine ev_SRI iX4_hush_25 kS_X4_44 (c_ns_within σ a3 20) rfl rfl (Nat.le_of_ble_eq_true rfl) (sg_fitL (by decide) (Nat.le_of_ble_eq_true rfl)) (fun r5 => ?_)
      refine ev_if_ne iX4_hush_28 ?_ ?_
      · refine ev_aload_n iX4_hush_31 rfl (by decide) rfl ?_
        refine ev_iconst iX4_hush_32 kI_0 ?_
        refine ev_VMI iX4_hush_33 kV_X4_48 (c_ns_finding σ 0) rc_0 rfl rfl (Nat.le_of_ble_eq_true rfl) (sg_fitL (by decide) (Nat.le_of_ble_eq_true rfl)) (fun r6 => ?_)
        exact ev_iret iX4_hush_36 rfl (narI rfl _)
      · refine ev_aload_n iX4_hush_37 rfl (by decide) rfl ?_
        refine ev_getR (k1 := 1) 4 0 iX4_hush_38 kF_X4_10 O_0 rfl (by decide) ?_
        refine ev_iload_n iX4_hush_41 rfl rfl ?_
        refine ev_iload_n iX4_hush_42 rfl rfl ?_
        refine ev_VRI iX4_hush_43 kV_X4_104 (c_tn_hasHeard σ 1 a1 a2 isT_1) (rc_T isT_1) rfl rfl (Nat.le_of_ble_eq_true rfl) (sg_fitL (by decide) (Nat.le_of_ble_eq_true rfl)) (fun r7 => ?_)
        refine ev_if_eq iX4_hush_46 ?_ ?_
        · refine ev_iconst iX4_hush_55 kI_0 ?_
          refine ev_istore (ls2 := [some (.ref 0), some (.int a1), some (.int a2), some (.int a3), some (.int 0), none]) iX4_hush_56 (Nat.le_of_ble_eq_true rfl) (Nat.le_of_ble_eq_true rfl) rfl rfl ?_
          refine ev_less (ls2 := [some (.ref 0), some (.int a1), some (.int a2), some (.int a3), some (.int 0), none]) ?_ ⟨rfl, rfl, rfl, rfl, rfl, trivial⟩
          refine ev_seqS 122 (fun z15 => [some (.ref 0), none, none, none, none, none]) (fun z15 => z15) (ev_loop (embB := ns_hush_58_X σ  a1 a2 a3) (ex := fun b => ns_hush_58_X σ  a1 a2 a3 (.inr b)) 58 (fun z14 => [some (.ref 0), some (.int a1), some (.int a2), some (.int a3), some (.int z14.1), none]) (fun z14 => z14.2) (fun _ => rfl) (fun _ => rfl) (e_ns_hush_58_L σ  a1 a2 a3 ) 1000 (0, σ)) (fun _ => rfl) (fun r => ⟨_, rfl, fun a h => by cases h; rfl⟩) (fun e16 => ?_)
          refine ev_aload_n iX4_hush_122 rfl (by decide) rfl ?_
          refine ev_iconst iX4_hush_123 kI_3 ?_
          refine ev_VMI iX4_hush_124 kV_X4_48 (c_ns_finding e16 3) rc_0 rfl rfl (Nat.le_of_ble_eq_true rfl) (sg_fitL (by decide) (Nat.le_of_ble_eq_true rfl)) (fun r17 => ?_)
          exact ev_iret iX4_hush_127 rfl (narI rfl _)
        · refine ev_aload_n iX4_hush_49 rfl (by decide) rfl ?_
          refine ev_iconst iX4_hush_50 kI_3 ?_
          refine ev_VMI iX4_hush_51 kV_X4_48 (c_ns_finding σ 3) rc_0 rfl rfl (Nat.le_of_ble_eq_true rfl) (sg_fitL (by decide) (Nat.le_of_ble_eq_true rfl)) (fun r18 => ?_)
          exact ev_iret iX4_hush_54 rfl (narI rfl _)
def ns_text (σ : sg_S)  : Option (Int32 × sg_S) :=
  ((tn_become σ 40 1).bind fun r1 => ((rd_readTape r1).bind fun r2 => sg_let (sg_st r2.2 35 1 0) (fun s3 => (if r2.1 < 0 then some (r2.1, s3) else ((tn_become s3 1 40).bind fun r4 => some (r2.1, r4))))))
set_option maxRecDepth 20000 in
set_option maxHeartbeats 2000000 in
theorem c_ns_text (σ : sg_S)   : sg_Call yX4_text mX4_text (rmL 9) [.ref 0] σ eMI (ns_text σ ) := by
  refine sg_call_of (by decide +kernel) rfl (Nat.le_of_ble_eq_true rfl) rfl (fun _ => rfl) ?_
  refine ev_less (ls2 := [some (.ref 0), none]) ?_ ⟨rfl, trivial⟩
  unfold ns_text
  refine ev_aload_n iX4_text_0 rfl (by decide) rfl ?_
  refine ev_getR (k1 := 34) 4 4 iX4_text_1 kF_X4_29 O_0 rfl (by decide) ?_
  refine ev_getR (k1 := 40) 0 1 iX4_text_4 kF_X4_219 O_34 rfl (by decide) ?_
  refine ev_aload_n iX4_text_7 rfl (by decide) rfl ?_
  refine ev_getR (k1 := 1) 4 0 iX4_text_8 kF_X4_10 O_0 rfl (by decide) ?_
  refine ev_VMV iX4_text_11 kV_X4_147 (c_tn_become σ 40 1 isT_40 isT_1) (rc_T isT_40) rfl rfl (Nat.le_of_ble_eq_true rfl) (sg_fitL (by decide) (Nat.le_of_ble_eq_true rfl)) (fun r1 => ?_)
  refine ev_aload_n iX4_text_14 rfl (by decide) rfl ?_
  refine ev_getR (k1 := 34) 4 4 iX4_text_15 kF_X4_29 O_0 rfl (by decide) ?_
  refine ev_VMI iX4_text_18 kV_X4_220 (c_rd_readTape r1 ) rc_34 rfl rfl (Nat.le_of_ble_eq_true rfl) (sg_fitL (by decide) (Nat.le_of_ble_eq_true rfl)) (fun r2 => ?_)
  refine ev_istore_n (ls2 := [some (.ref 0), some (.int r2.1)]) iX4_text_21 rfl (Nat.le_of_ble_eq_true rfl) (Nat.le_of_ble_eq_true rfl) rfl rfl ?_
  refine ev_aload_n iX4_text_22 rfl (by decide) rfl ?_
  refine ev_getR (k1 := 34) 4 4 iX4_text_23 kF_X4_29 O_0 rfl (by decide) ?_
  refine ev_getR (k1 := 35) 0 0 iX4_text_26 kF_X4_209 O_34 rfl (by decide) ?_
  refine ev_iconst iX4_text_29 kI_0 ?_
  refine ev_putI 2 1 iX4_text_30 kF_X4_213 fp_2_1 rfl rfl O_35 rfl ?_
  refine ev_let (fun s3 => ?_)
  refine ev_iload_n iX4_text_33 rfl rfl ?_
  refine ev_if_lt iX4_text_34 ?_ ?_
  · refine ev_iload_n iX4_text_51 rfl rfl ?_
    exact ev_iret iX4_text_52 rfl (narI rfl _)
  · refine ev_aload_n iX4_text_37 rfl (by decide) rfl ?_
    refine ev_getR (k1 := 1) 4 0 iX4_text_38 kF_X4_10 O_0 rfl (by decide) ?_
    refine ev_aload_n iX4_text_41 rfl (by decide) rfl ?_
    refine ev_getR (k1 := 34) 4 4 iX4_text_42 kF_X4_29 O_0 rfl (by decide) ?_
    refine ev_getR (k1 := 40) 0 1 iX4_text_45 kF_X4_219 O_34 rfl (by decide) ?_
    refine ev_VMV iX4_text_48 kV_X4_147 (c_tn_become s3 1 40 isT_1 isT_40) (rc_T isT_1) rfl rfl (Nat.le_of_ble_eq_true rfl) (sg_fitL (by decide) (Nat.le_of_ble_eq_true rfl)) (fun r4 => ?_)
    refine ev_iload_n iX4_text_51 rfl rfl ?_
    exact ev_iret iX4_text_52 rfl (narI rfl _)
