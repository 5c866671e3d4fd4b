def ns_within (σ : sg_S) (a0 : Int32) (a1 : Int32) : Option Int32 :=
  (if a0 < 0 then some 0 else (if a1 < a0 then some 0 else some 1))
set_option maxRecDepth 20000 in
set_option maxHeartbeats 2000000 in
theorem c_ns_within (σ : sg_S) (a0 : Int32) (a1 : Int32)  : sg_Call yX4_within mX4_within (rmL 0) [.int a0, .int a1] σ (eRI σ) (ns_within σ a0 a1) := by
  refine sg_call_of (by decide +kernel) rfl (Nat.le_of_ble_eq_true rfl) rfl (fun _ => rfl) ?_
  refine ev_less (ls2 := [some (.int a0), some (.int a1)]) ?_ ⟨rfl, rfl, trivial⟩
  unfold ns_within
  refine ev_iload_n iX4_within_0 rfl rfl ?_
  refine ev_if_lt iX4_within_1 ?_ ?_
  · refine ev_iconst iX4_within_13 kI_0 ?_
    exact ev_iret iX4_within_14 rfl (fun ty _ => nar0 ty)
  · refine ev_iload_n iX4_within_4 rfl rfl ?_
    refine ev_iload_n iX4_within_5 rfl rfl ?_
    refine ev_icmp_gt iX4_within_6 ?_ ?_
    · refine ev_iconst iX4_within_13 kI_0 ?_
      exact ev_iret iX4_within_14 rfl (fun ty _ => nar0 ty)
    · refine ev_iconst iX4_within_9 kI_1 ?_
      refine ev_goto iX4_within_10 ?_
      exact ev_iret iX4_within_14 rfl (fun ty _ => nar1 ty)
def rd_step (σ : sg_S)  : Option sg_S :=
  (if (σ 34 3) < 120 then (if sg_in (σ 34 3) 121 = true then (if (σ 37 (σ 34 3).toNatClampNeg) = 0 then some σ else sg_let (sg_st σ 34 3 ((σ 34 3) + 1)) (fun s1 => some s1)) else none) else some σ)
set_option maxRecDepth 20000 in
set_option maxHeartbeats 2000000 in
theorem c_rd_step (σ : sg_S)   : sg_Call yX0_step mX0_step (rmL 0) [.ref 34] σ eMV (rd_step σ ) := by
  refine sg_call_of (by decide +kernel) rfl (Nat.le_of_ble_eq_true rfl) rfl (fun _ => rfl) ?_
  refine ev_less (ls2 := [some (.ref 34)]) ?_ ⟨rfl, trivial⟩
  unfold rd_step
  refine ev_aload_n iX0_step_0 rfl (by decide) rfl ?_
  refine ev_getI 0 3 iX0_step_1 kF_X0_29 O_34 rfl ?_
  refine ev_bipush iX0_step_4 kB_120 ?_
  refine ev_icmp_ge iX0_step_6 ?_ ?_
  · refine ev_aload_n iX0_step_9 rfl (by decide) rfl ?_
    refine ev_getR (k1 := 35) 0 0 iX0_step_10 kF_X0_12 O_34 rfl (by decide) ?_
    refine ev_getR (k1 := 37) 2 2 iX0_step_13 kF_X0_40 O_35 rfl (by decide) ?_
    refine ev_aload_n iX0_step_16 rfl (by decide) rfl ?_
    refine ev_getI 0 3 iX0_step_17 kF_X0_29 O_34 rfl ?_
    refine ev_iald iX0_step_20 A_37 ?_
    refine ev_if_eq iX0_step_21 ?_ ?_
    · exact ev_vret iX0_step_34 rfl
    · refine ev_aload_n iX0_step_24 rfl (by decide) rfl ?_
      refine ev_dupR iX0_step_25 (by decide) ?_
      refine ev_getI 0 3 iX0_step_26 kF_X0_29 O_34 rfl ?_
      refine ev_iconst iX0_step_29 kI_1 ?_
      refine ev_iadd iX0_step_30 ?_
      refine ev_putI 0 3 iX0_step_31 kF_X0_29 fp_0_3 rfl rfl O_34 rfl ?_
      refine ev_let (fun s1 => ?_)
      exact ev_vret iX0_step_34 rfl
  · exact ev_vret iX0_step_34 rfl
def rd_isWord (σ : sg_S) (a1 : Int32) : Option Int32 :=
  (if sg_in (σ 34 3) 121 = true then (if (σ 37 (σ 34 3).toNatClampNeg) = 1 then (if sg_in (σ 34 3) 121 = true then (if (σ 39 (σ 34 3).toNatClampNeg) = a1 then some 1 else some 0) else none) else some 0) else none)
set_option maxRecDepth 20000 in
set_option maxHeartbeats 2000000 in
theorem c_rd_isWord (σ : sg_S) (a1 : Int32)  : sg_Call yX0_isWord mX0_isWord (rmL 0) [.ref 34, .int a1] σ (eRI σ) (rd_isWord σ a1) := by
  refine sg_call_of (by decide +kernel) rfl (Nat.le_of_ble_eq_true rfl) rfl (fun _ => rfl) ?_
  refine ev_less (ls2 := [some (.ref 34), some (.int a1)]) ?_ ⟨rfl, rfl, trivial⟩
  unfold rd_isWord
  refine ev_aload_n iX0_isWord_0 rfl (by decide) rfl ?_
  refine ev_getR (k1 := 35) 0 0 iX0_isWord_1 kF_X0_12 O_34 rfl (by decide) ?_
  refine ev_getR (k1 := 37) 2 2 iX0_isWord_4 kF_X0_40 O_35 rfl (by decide) ?_
  refine ev_aload_n iX0_isWord_7 rfl (by decide) rfl ?_
  refine ev_getI 0 3 iX0_isWord_8 kF_X0_29 O_34 rfl ?_
  refine ev_iald iX0_isWord_11 A_37 ?_
  refine ev_iconst iX0_isWord_12 kI_1 ?_
  refine ev_icmp_ne iX0_isWord_13 ?_ ?_
  · refine ev_aload_n iX0_isWord_16 rfl (by decide) rfl ?_
    refine ev_getR (k1 := 35) 0 0 iX0_isWord_17 kF_X0_12 O_34 rfl (by decide) ?_
    refine ev_getR (k1 := 39) 2 4 iX0_isWord_20 kF_X0_49 O_35 rfl (by decide) ?_
    refine ev_aload_n iX0_isWord_23 rfl (by decide) rfl ?_
    refine ev_getI 0 3 iX0_isWord_24 kF_X0_29 O_34 rfl ?_
    refine ev_iald iX0_isWord_27 A_39 ?_
    refine ev_iload_n iX0_isWord_28 rfl rfl ?_
    refine ev_icmp_ne iX0_isWord_29 ?_ ?_
    · refine ev_iconst iX0_isWord_32 kI_1 ?_
      refine ev_goto iX0_isWord_33 ?_
      exact ev_iret iX0_isWord_37 rfl (fun ty _ => nar1 ty)
    · refine ev_iconst iX0_isWord_36 kI_0 ?_
      exact ev_iret iX0_isWord_37 rfl (fun ty _ => nar0 ty)
  · refine ev_iconst iX0_isWord_36 kI_0 ?_
    exact ev_iret iX0_isWord_37 rfl (fun ty _ => nar0 ty)
def rd_isNumber (σ : sg_S) (a1 : Int32) : Option Int32 :=
  (if sg_in (σ 34 3) 121 = true then (if (σ 37 (σ 34 3).toNatClampNeg) = 2 then (if sg_in (σ 34 3) 121 = true then (if a1 < (σ 39 (σ 34 3).toNatClampNeg) then some 0 else some 1) else none) else some 0) else none)
set_option maxRecDepth 20000 in
set_option maxHeartbeats 2000000 in
theorem c_rd_isNumber (σ : sg_S) (a1 : Int32)  : sg_Call yX0_isNumber mX0_isNumber (rmL 0) [.ref 34, .int a1] σ (eRI σ) (rd_isNumber σ a1) := by
  refine sg_call_of (by decide +kernel) rfl (Nat.le_of_ble_eq_true rfl) rfl (fun _ => rfl) ?_
  refine ev_less (ls2 := [some (.ref 34), some (.int a1)]) ?_ ⟨rfl, rfl, trivial⟩
  unfold rd_isNumber
  refine ev_aload_n iX0_isNumber_0 rfl (by decide) rfl ?_
  refine ev_getR (k1 := 35) 0 0 iX0_isNumber_1 kF_X0_12 O_34 rfl (by decide) ?_
  refine ev_getR (k1 := 37) 2 2 iX0_isNumber_4 kF_X0_40 O_35 rfl (by decide) ?_
  refine ev_aload_n iX0_isNumber_7 rfl (by decide) rfl ?_
  refine ev_getI 0 3 iX0_isNumber_8 kF_X0_29 O_34 rfl ?_
  refine ev_iald iX0_isNumber_11 A_37 ?_
  refine ev_iconst iX0_isNumber_12 kI_2 ?_
  refine ev_icmp_ne iX0_isNumber_13 ?_ ?_
  · refine ev_aload_n iX0_isNumber_16 rfl (by decide) rfl ?_
    refine ev_getR (k1 := 35) 0 0 iX0_isNumber_17 kF_X0_12 O_34 rfl (by decide) ?_
    refine ev_getR (k1 := 39) 2 4 iX0_isNumber_20 kF_X0_49 O_35 rfl (by decide) ?_
    refine ev_aload_n iX0_isNumber_23 rfl (by decide) rfl ?_
    refine ev_getI 0 3 iX0_isNumber_24 kF_X0_29 O_34 rfl ?_
    refine ev_iald iX0_isNumber_27 A_39 ?_
    refine ev_iload_n iX0_isNumber_28 rfl rfl ?_
    refine ev_icmp_gt iX0_isNumber_29 ?_ ?_
    · refine ev_iconst iX0_isNumber_36 kI_0 ?_
      exact ev_iret iX0_isNumber_37 rfl (fun ty _ => nar0 ty)
    · refine ev_iconst iX0_isNumber_32 kI_1 ?_
      refine ev_goto iX0_isNumber_33 ?_
      exact ev_iret iX0_isNumber_37 rfl (fun ty _ => nar1 ty)
  · refine ev_iconst iX0_isNumber_36 kI_0 ?_
    exact ev_iret iX0_isNumber_37 rfl (fun ty _ => nar0 ty)
def rd_readPerson_J61 (σ : sg_S)   (v1 : Int32) (v2 : Int32) : Option (Int32 × sg_S) :=
  ((rd_isWord σ 10).bind fun r3 => (if r3 = 0 then ((tn_settle σ 40 v1 v2 0).bind fun r4 => some (1, r4.2)) else ((rd_step σ).bind fun r5 => ((tn_settle r5 40 v1 v2 1).bind fun r6 => some (1, r6.2)))))
set_option maxRecDepth 20000 in
set_option maxHeartbeats 2000000 in
theorem e_rd_readPerson_J61 (σ : sg_S)   (v1 : Int32) (v2 : Int32)  : Ev mX0_readPerson (rmL 1) 61 [some (.ref 34), some (.int v1), some (.int v2), none] [] σ (fun b => Sum.inl (eMI b)) (rd_readPerson_J61 σ   v1 v2) := by
  unfold rd_readPerson_J61
  refine ev_iconst iX0_readPerson_61 kI_0 ?_
  refine ev_istore_n (ls2 := [some (.ref 34), some (.int v1), some (.int v2), some (.int 0)]) iX0_readPerson_62 rfl (Nat.le_of_ble_eq_true rfl) (Nat.le_of_ble_eq_true rfl) rfl rfl ?_
  refine ev_aload_n iX0_readPerson_63 rfl (by decide) rfl ?_
  refine ev_bipush iX0_readPerson_64 kB_10 ?_
  refine ev_VRI iX0_readPerson_66 kV_X0_52 (c_rd_isWord σ 10) rc_34 rfl rfl (Nat.le_of_ble_eq_true rfl) (sg_fitL (by decide) (Nat.le_of_ble_eq_true rfl)) (fun r3 => ?_)
  refine ev_if_eq iX0_readPerson_69 ?_ ?_
  · refine ev_aload_n iX0_readPerson_78 rfl (by decide) rfl ?_
    refine ev_getR (k1 := 40) 0 1 iX0_readPerson_79 kF_X0_21 O_34 rfl (by decide) ?_
    refine ev_iload_n iX0_readPerson_82 rfl rfl ?_
    refine ev_iload_n iX0_readPerson_83 rfl rfl ?_
    refine ev_iload_n iX0_readPerson_84 rfl rfl ?_
    refine ev_VMI iX0_readPerson_85 kV_X0_75 (c_tn_settle σ 40 v1 v2 0 isT_40) (rc_T isT_40) rfl rfl (Nat.le_of_ble_eq_true rfl) (sg_fitL (by decide) (Nat.le_of_ble_eq_true rfl)) (fun r4 => ?_)
    refine ev_popI iX0_readPerson_88 ?_
    refine ev_iconst iX0_readPerson_89 kI_1 ?_
    exact ev_iret iX0_readPerson_90 rfl (fun ty _ => nar1 ty)
  · refine ev_iconst iX0_readPerson_72 kI_1 ?_
    refine ev_istore_n (ls2 := [some (.ref 34), some (.int v1), some (.int v2), some (.int 1)]) iX0_readPerson_73 rfl (Nat.le_of_ble_eq_true rfl) (Nat.le_of_ble_eq_true rfl) rfl rfl ?_
    refine ev_aload_n iX0_readPerson_74 rfl (by decide) rfl ?_
    refine ev_VMV iX0_readPerson_75 kV_X0_43 (c_rd_step σ ) rc_34 rfl rfl (Nat.le_of_ble_eq_true rfl) (sg_fitL (by decide) (Nat.le_of_ble_eq_true rfl)) (fun r5 => ?_)
    refine ev_aload_n iX0_readPerson_78 rfl (by decide) rfl ?_
    refine ev_getR (k1 := 40) 0 1 iX0_readPerson_79 kF_X0_21 O_34 rfl (by decide) ?_
    refine ev_iload_n iX0_readPerson_82 rfl rfl ?_
    refine ev_iload_n iX0_readPerson_83 rfl rfl ?_
    refine ev_iload_n iX0_readPerson_84 rfl rfl ?_
    refine ev_VMI iX0_readPerson_85 kV_X0_75 (c_tn_settle r5 40 v1 v2 1 isT_40) (rc_T isT_40) rfl rfl (Nat.le_of_ble_eq_true rfl) (sg_fitL (by decide) (Nat.le_of_ble_eq_true rfl)) (fun r6 => ?_)
    refine ev_popI iX0_readPerson_88 ?_
    refine ev_iconst iX0_readPerson_89 kI_1 ?_
    exact ev_iret iX0_readPerson_90 rfl (fun ty _ => nar1 ty)
def rd_readPerson (σ : sg_S) (a1 : Int32) : Option (Int32 × sg_S) :=
  (if (σ 40 10) < 8 then ((rd_step σ).bind fun r1 => ((rd_isWord r1 9).bind fun r2 => (if r2 = 0 then rd_readPerson_J61 r1 a1 5 else ((rd_step r1).bind fun r7 => ((rd_isNumber r7 9).bind fun r8 => (if r8 = 0 then some (0, r7) else (if sg_in (r7 34 3) 121 = true then sg_leti (r7 39 (r7 34 3).toNatClampNeg) (fun x9 => ((rd_step r7).bind fun r10 => rd_readPerson_J61 r10 a1 x9)) else none))))))) else some (0, σ))
set_option maxRecDepth 20000 in
set_option maxHeartbeats 2000000 in
theorem c_rd_readPerson (σ : sg_S) (a1 : Int32)  : sg_Call yX0_readPerson mX0_readPerson (rmL 1) [.ref 34, .int a1] σ eMI (rd_readPerson σ a1) := by
  refine sg_call_of (by decide +kernel) rfl (Nat.le_of_ble_eq_true rfl) rfl (fun _ => rfl) ?_
  refine ev_less (ls2 := [some (.ref 34), some (.int a1), none, none]) ?_ ⟨rfl, rfl, trivial⟩
  unfold rd_readPerson
  refine ev_aload_n iX0_readPerson_0 rfl (by decide) rfl ?_
  refine ev_getR (k1 := 40) 0 1 iX0_readPerson_1 kF_X0_21 O_34 rfl (by decide) ?_
  refine ev_getI 3 10 iX0_readPerson_4 kF_X0_69 O_40 rfl ?_
  refine ev_bipush iX0_readPerson_7 kB_8 ?_
  refine ev_icmp_lt iX0_readPerson_9 ?_ ?_
  · refine ev_aload_n iX0_readPerson_14 rfl (by decide) rfl ?_
    refine ev_VMV iX0_readPerson_15 kV_X0_43 (c_rd_step σ ) rc_34 rfl rfl (Nat.le_of_ble_eq_true rfl) (sg_fitL (by decide) (Nat.le_of_ble_eq_true rfl)) (fun r1 => ?_)
    refine ev_iconst iX0_readPerson_18 kI_5 ?_
    refine ev_istore_n (ls2 := [some (.ref 34), some (.int a1), some (.int 5), none]) iX0_readPerson_19 rfl (Nat.le_of_ble_eq_true rfl) (Nat.le_of_ble_eq_true rfl) rfl rfl ?_
    refine ev_aload_n iX0_readPerson_20 rfl (by decide) rfl ?_
    refine ev_bipush iX0_readPerson_21 kB_9 ?_
    refine ev_VRI iX0_readPerson_23 kV_X0_52 (c_rd_isWord r1 9) rc_34 rfl rfl (Nat.le_of_ble_eq_true rfl) (sg_fitL (by decide) (Nat.le_of_ble_eq_true rfl)) (fun r2 => ?_)
    refine ev_if_eq iX0_readPerson_26 ?_ ?_
    · exact ev_less (e_rd_readPerson_J61 r1   a1 5 ) ⟨rfl, rfl, rfl, trivial⟩
    · refine ev_aload_n iX0_readPerson_29 rfl (by decide) rfl ?_
      refine ev_VMV iX0_readPerson_30 kV_X0_43 (c_rd_step r1 ) rc_34 rfl rfl (Nat.le_of_ble_eq_true rfl) (sg_fitL (by decide) (Nat.le_of_ble_eq_true rfl)) (fun r7 => ?_)
      refine ev_aload_n iX0_readPerson_33 rfl (by decide) rfl ?_
      refine ev_bipush iX0_readPerson_34 kB_9 ?_
      refine ev_VRI iX0_readPerson_36 kV_X0_72 (c_rd_isNumber r7 9) rc_34 rfl rfl (Nat.le_of_ble_eq_true rfl) (sg_fitL (by decide) (Nat.le_of_ble_eq_true rfl)) (fun r8 => ?_)
      refine ev_if_ne iX0_readPerson_39 ?_ ?_
      · refine ev_iconst iX0_readPerson_42 kI_0 ?_
        exact ev_iret iX0_readPerson_43 rfl (fun ty _ => nar0 ty)
      · refine ev_aload_n iX0_readPerson_44 rfl (by decide) rfl ?_
        refine ev_getR (k1 := 35) 0 0 iX0_readPerson_45 kF_X0_12 O_34 rfl (by decide) ?_
        refine ev_getR (k1 := 39) 2 4 iX0_readPerson_48 kF_X0_49 O_35 rfl (by decide) ?_
        refine ev_aload_n iX0_readPerson_51 rfl (by decide) rfl ?_
        refine ev_getI 0 3 iX0_readPerson_52 kF_X0_29 O_34 rfl ?_
        refine ev_iald iX0_readPerson_55 A_39 ?_
        refine ev_leti (fun x9 => ?_)
        refine ev_istore_n (ls2 := [some (.ref 34), some (.int a1), some (.int x9), none]) iX0_readPerson_56 rfl (Nat.le_of_ble_eq_true rfl) (Nat.le_of_ble_eq_true rfl) rfl rfl ?_
        refine ev_aload_n iX0_readPerson_57 rfl (by decide) rfl ?_
        refine ev_VMV iX0_readPerson_58 kV_X0_43 (c_rd_step r7 ) rc_34 rfl rfl (Nat.le_of_ble_eq_true rfl) (sg_fitL (by decide) (Nat.le_of_ble_eq_true rfl)) (fun r10 => ?_)
        exact ev_less (e_rd_readPerson_J61 r10   a1 x9 ) ⟨rfl, rfl, rfl, trivial⟩
  · refine ev_iconst iX0_readPerson_12 kI_0 ?_
    exact ev_iret iX0_readPerson_13 rfl (fun ty _ => nar0 ty)
def rd_readNumbers_3_X (σ : sg_S)  (f1 : Int32) (f2 : Int32) (f3 : Int32) : ((Int32 × sg_S) ⊕ (sg_S ⊕ (Int32 × sg_S))) → sg_X
  | .inl a => .inr (3, [some (.ref 34), some (.int f1), some (.int f2), some (.int f3), some (.int a.1), none], a.2)
  | .inr (.inl e) => .inr (75, [some (.ref 34), none, none, none, none, none], e)
  | .inr (.inr r) => .inl (eMI r)
def rd_readNumbers_3_J37 (σ : sg_S)  (f1 : Int32) (f2 : Int32) (f3 : Int32) (v4 : Int32) (t0 : Int32) : Option ((Int32 × sg_S) ⊕ (sg_S ⊕ (Int32 × sg_S))) :=
  ((rd_isNumber σ t0).bind fun r2 => (if r2 = 0 then some (.inr (.inr (0, σ))) else (if sg_in (σ 34 3) 121 = true then (if sg_in v4 3 = true then sg_let (sg_st σ 51 v4.toNatClampNeg (σ 39 (σ 34 3).toNatClampNeg)) (fun s3 => some (.inl ((v4 + 1), s3))) else none) else none)))
set_option maxRecDepth 20000 in
set_option maxHeartbeats 2000000 in
theorem e_rd_readNumbers_3_J37 (σ : sg_S)  (f1 : Int32) (f2 : Int32) (f3 : Int32) (v4 : Int32) (t0 : Int32)  : Ev mX0_readNumbers (rmL 1) 37 [some (.ref 34), some (.int f1), some (.int f2), some (.int f3), some (.int v4), none] [.int t0] σ (rd_readNumbers_3_X σ  f1 f2 f3) (rd_readNumbers_3_J37 σ  f1 f2 f3 v4 t0) := by
  unfold rd_readNumbers_3_J37
  refine ev_istore (ls2 := [some (.ref 34), some (.int f1), some (.int f2), some (.int f3), some (.int v4), some (.int t0)]) iX0_readNumbers_37 (Nat.le_of_ble_eq_true rfl) (Nat.le_of_ble_eq_true rfl) rfl rfl ?_
  refine ev_aload_n iX0_readNumbers_39 rfl (by decide) rfl ?_
  refine ev_iload iX0_readNumbers_40 rfl ?_
  refine ev_VRI iX0_readNumbers_42 kV_X0_72 (c_rd_isNumber σ t0) rc_34 rfl rfl (Nat.le_of_ble_eq_true rfl) (sg_fitL (by decide) (Nat.le_of_ble_eq_true rfl)) (fun r2 => ?_)
  refine ev_if_ne iX0_readNumbers_45 ?_ ?_
  · refine ev_iconst iX0_readNumbers_48 kI_0 ?_
    exact ev_iret iX0_readNumbers_49 rfl (fun ty _ => nar0 ty)
  · refine ev_aload_n iX0_readNumbers_50 rfl (by decide) rfl ?_
    refine ev_getR (k1 := 51) 0 2 iX0_readNumbers_51 kF_X0_25 O_34 rfl (by decide) ?_
    refine ev_iload iX0_readNumbers_54 rfl ?_
    refine ev_aload_n iX0_readNumbers_56 rfl (by decide) rfl ?_
    refine ev_getR (k1 := 35) 0 0 iX0_readNumbers_57 kF_X0_12 O_34 rfl (by decide) ?_
    refine ev_getR (k1 := 39) 2 4 iX0_readNumbers_60 kF_X0_49 O_35 rfl (by decide) ?_
    refine ev_aload_n iX0_readNumbers_63 rfl (by decide) rfl ?_
    refine ev_getI 0 3 iX0_readNumbers_64 kF_X0_29 O_34 rfl ?_
    refine ev_iald iX0_readNumbers_67 A_39 ?_
    refine ev_iast iX0_readNumbers_68 A_51 ?_
    refine ev_let (fun s3 => ?_)
    refine ev_iinc (v := (v4 + 1)) (ls2 := [some (.ref 34), some (.int f1), some (.int f2), some (.int f3), some (.int (v4 + 1)), some (.int t0)]) iX0_readNumbers_69 rfl (by rw [kI_1]) (Nat.le_of_ble_eq_true rfl) rfl rfl ?_
    refine ev_goto iX0_readNumbers_72 ?_
    exact ev_exit rfl ⟨rfl, rfl, rfl, rfl, rfl, trivial⟩
def rd_readNumbers_3_L (σ : sg_S)  (f1 : Int32) (f2 : Int32) (f3 : Int32) (a : (Int32 × sg_S)) : Option ((Int32 × sg_S) ⊕ (sg_S ⊕ (Int32 × sg_S))) :=
  (if a.1 < 3 then ((rd_step a.2).bind fun r1 => (if a.1 = 0 then rd_readNumbers_3_J37 r1 f1 f2 f3 a.1 f1 else (if a.1 = 1 then rd_readNumbers_3_J37 r1 f1 f2 f3 a.1 f2 else rd_readNumbers_3_J37 r1 f1 f2 f3 a.1 f3))) else some (.inr (.inl a.2)))
set_option maxRecDepth 20000 in
set_option maxHeartbeats 2000000 in
theorem e_rd_readNumbers_3_L (σ : sg_S)  (f1 : Int32) (f2 : Int32) (f3 : Int32)  : ∀ a : (Int32 × sg_S), Ev mX0_readNumbers (rmL 1) 3 [some (.ref 34), some (.int f1), some (.int f2), some (.int f3), some (.int a.1), none] [] a.2 (rd_readNumbers_3_X σ  f1 f2 f3) (rd_readNumbers_3_L σ  f1 f2 f3 a) := by
  intro a
  unfold rd_readNumbers_3_L
  refine ev_iload iX0_readNumbers_3 rfl ?_
  refine ev_aload_n iX0_readNumbers_5 rfl (by decide) rfl ?_
  refine ev_getR (k1 := 51) 0 2 iX0_readNumbers_6 kF_X0_25 O_34 rfl (by decide) ?_
  refine ev_alen (v := 3) iX0_readNumbers_9 A_51 rfl ?_
  refine ev_icmp_ge iX0_readNumbers_10 ?_ ?_
  · refine ev_aload_n iX0_readNumbers_13 rfl (by decide) rfl ?_
    refine ev_VMV iX0_readNumbers_14 kV_X0_43 (c_rd_step a.2 ) rc_34 rfl rfl (Nat.le_of_ble_eq_true rfl) (sg_fitL (by decide) (Nat.le_of_ble_eq_true rfl)) (fun r1 => ?_)
    refine ev_iload iX0_readNumbers_17 rfl ?_
    refine ev_if_ne iX0_readNumbers_19 ?_ ?_
    · refine ev_iload_n iX0_readNumbers_22 rfl rfl ?_
      refine ev_goto iX0_readNumbers_23 ?_
      exact ev_less (e_rd_readNumbers_3_J37 r1  f1 f2 f3 a.1 f1 ) ⟨rfl, rfl, rfl, rfl, rfl, trivial⟩
    · refine ev_iload iX0_readNumbers_26 rfl ?_
      refine ev_iconst iX0_readNumbers_28 kI_1 ?_
      refine ev_icmp_ne iX0_readNumbers_29 ?_ ?_
      · refine ev_iload_n iX0_readNumbers_32 rfl rfl ?_
        refine ev_goto iX0_readNumbers_33 ?_
        exact ev_less (e_rd_readNumbers_3_J37 r1  f1 f2 f3 a.1 f2 ) ⟨rfl, rfl, rfl, rfl, rfl, trivial⟩
      · refine ev_iload_n iX0_readNumbers_36 rfl rfl ?_
        exact ev_less (e_rd_readNumbers_3_J37 r1  f1 f2 f3 a.1 f3 ) ⟨rfl, rfl, rfl, rfl, rfl, trivial⟩
  · exact ev_exit rfl ⟨rfl, trivial⟩
def rd_readNumbers (σ : sg_S) (a1 : Int32) (a2 : Int32) (a3 : Int32) : Option (Int32 × sg_S) :=
  ((sg_lp (rd_readNumbers_3_L σ  a1 a2 a3) 1000 (0, σ)).bind (Sum.elim (fun e6 => ((rd_step e6).bind fun r7 => some (1, r7))) (fun rr => some rr)))
set_option maxRecDepth 20000 in
set_option maxHeartbeats 2000000 in
theorem c_rd_readNumbers (σ : sg_S) (a1 : Int32) (a2 : Int32) (a3 : Int32)  : sg_Call yX0_readNumbers mX0_readNumbers (rmL 1) [.ref 34, .int a1, .int a2, .int a3] σ eMI (rd_readNumbers σ a1 a2 a3) := by
  refine sg_call_of (by decide +kernel) rfl (Nat.le_of_ble_eq_true rfl) rfl (fun _ => rfl) ?_
  refine ev_less (ls2 := [some (.ref 34), some (.int a1), some (.int a2), some (.int a3), none, none]) ?_ ⟨rfl, rfl, rfl, rfl, trivial⟩
  unfold rd_readNumbers
  refine ev_iconst iX0_readNumbers_0 kI_0 ?_
  refine ev_istore (ls2 := [some (.ref 34), some (.int a1), some (.int a2), some (.int a3), some (.int 0), none]) iX0_readNumbers_1 (Nat.le_of_ble_eq_true rfl) (Nat.le_of_ble_eq_true rfl) rfl rfl ?_
  refine ev_less (ls2 := [some (.ref 34), some (.int a1), some (.int a2), some (.int a3), some (.int 0), none]) ?_ ⟨rfl, rfl, rfl, rfl, rfl, trivial⟩
  refine ev_seqS 75 (fun z5 => [some (.ref 34), none, none, none, none, none]) (fun z5 => z5) (ev_loop (embB := rd_readNumbers_3_X σ  a1 a2 a3) (ex := fun b => rd_readNumbers_3_X σ  a1 a2 a3 (.inr b)) 3 (fun z4 => [some (.ref 34), some (.int a1), some (.int a2), some (.int a3), some (.int z4.1), none]) (fun z4 => z4.2) (fun _ => rfl) (fun _ => rfl) (e_rd_readNumbers_3_L σ  a1 a2 a3 ) 1000 (0, σ)) (fun _ => rfl) (fun r => ⟨_, rfl, fun a h => by cases h; rfl⟩) (fun e6 => ?_)
  refine ev_aload_n iX0_readNumbers_75 rfl (by decide) rfl ?_
  refine ev_VMV iX0_readNumbers_76 kV_X0_43 (c_rd_step e6 ) rc_34 rfl rfl (Nat.le_of_ble_eq_true rfl) (sg_fitL (by decide) (Nat.le_of_ble_eq_true rfl)) (fun r7 => ?_)
  refine ev_iconst iX0_readNumbers_79 kI_1 ?_
  exact ev_iret iX0_readNumbers_80 rfl (fun ty _ => nar1 ty)
def rd_readSaying (σ : sg_S)  : Option (Int32 × sg_S) :=
  (if (σ 40 11) < 6 then ((rd_readNumbers σ ((σ 40 10) - 1) 7 9).bind fun r1 => (if r1.1 = 0 then some (0, r1.2) else ((tn_putAbout r1.2 40 (r1.2 51 0) (r1.2 51 1) (r1.2 51 2)).bind fun r2 => some (1, r2.2)))) else some (0, σ))
set_option maxRecDepth 20000 in
set_option maxHeartbeats 2000000 in
theorem c_rd_readSaying (σ : sg_S)   : sg_Call yX0_readSaying mX0_readSaying (rmL 2) [.ref 34] σ eMI (rd_readSaying σ ) := by
  refine sg_call_of (by decide +kernel) rfl (Nat.le_of_ble_eq_true rfl) rfl (fun _ => rfl) ?_
  refine ev_less (ls2 := [some (.ref 34)]) ?_ ⟨rfl, trivial⟩
  unfold rd_readSaying
  refine ev_aload_n iX0_readSaying_0 rfl (by decide) rfl ?_
  refine ev_getR (k1 := 40) 0 1 iX0_readSaying_1 kF_X0_21 O_34 rfl (by decide) ?_
  refine ev_getI 3 11 iX0_readSaying_4 kF_X0_79 O_40 rfl ?_
  refine ev_bipush iX0_readSaying_7 kB_6 ?_
  refine ev_icmp_ge iX0_readSaying_9 ?_ ?_
  · refine ev_aload_n iX0_readSaying_12 rfl (by decide) rfl ?_
    refine ev_aload_n iX0_readSaying_13 rfl (by decide) rfl ?_
    refine ev_getR (k1 := 40) 0 1 iX0_readSaying_14 kF_X0_21 O_34 rfl (by decide) ?_
    refine ev_getI 3 10 iX0_readSaying_17 kF_X0_69 O_40 rfl ?_
    refine ev_iconst iX0_readSaying_20 kI_1 ?_
    refine ev_isub iX0_readSaying_21 ?_
    refine ev_bipush iX0_readSaying_22 kB_7 ?_
    refine ev_bipush iX0_readSaying_24 kB_9 ?_
    refine ev_VMI iX0_readSaying_26 kV_X0_82 (c_rd_readNumbers σ ((σ 40 10) - 1) 7 9) rc_34 rfl rfl (Nat.le_of_ble_eq_true rfl) (sg_fitL (by decide) (Nat.le_of_ble_eq_true rfl)) (fun r1 => ?_)
    refine ev_if_ne iX0_readSaying_29 ?_ ?_
    · refine ev_iconst iX0_readSaying_32 kI_0 ?_
      exact ev_iret iX0_readSaying_33 rfl (fun ty _ => nar0 ty)
    · refine ev_aload_n iX0_readSaying_34 rfl (by decide) rfl ?_
      refine ev_getR (k1 := 40) 0 1 iX0_readSaying_35 kF_X0_21 O_34 rfl (by decide) ?_
      refine ev_aload_n iX0_readSaying_38 rfl (by decide) rfl ?_
      refine ev_getR (k1 := 51) 0 2 iX0_readSaying_39 kF_X0_25 O_34 rfl (by decide) ?_
      refine ev_iconst iX0_readSaying_42 kI_0 ?_
      refine ev_ialdK 0 iX0_readSaying_43 A_51 rfl rfl ?_
      refine ev_aload_n iX0_readSaying_44 rfl (by decide) rfl ?_
      refine ev_getR (k1 := 51) 0 2 iX0_readSaying_45 kF_X0_25 O_34 rfl (by decide) ?_
      refine ev_iconst iX0_readSaying_48 kI_1 ?_
      refine ev_ialdK 1 iX0_readSaying_49 A_51 rfl rfl ?_
      refine ev_aload_n iX0_readSaying_50 rfl (by decide) rfl ?_
      refine ev_getR (k1 := 51) 0 2 iX0_readSaying_51 kF_X0_25 O_34 rfl (by decide) ?_
      refine ev_iconst iX0_readSaying_54 kI_2 ?_
      refine ev_ialdK 2 iX0_readSaying_55 A_51 rfl rfl ?_
      refine ev_VMI iX0_readSaying_56 kV_X0_86 (c_tn_putAbout r1.2 40 (r1.2 51 0) (r1.2 51 1) (r1.2 51 2) isT_40) (rc_T isT_40) rfl rfl (Nat.le_of_ble_eq_true rfl) (sg_fitL (by decide) (Nat.le_of_ble_eq_true rfl)) (fun r2 => ?_)
      refine ev_popI iX0_readSaying_59 ?_
      refine ev_iconst iX0_readSaying_60 kI_1 ?_
      exact ev_iret iX0_readSaying_61 rfl (fun ty _ => nar1 ty)
  · refine ev_iconst iX0_readSaying_32 kI_0 ?_
    exact ev_iret iX0_readSaying_33 rfl (fun ty _ => nar0 ty)
def rd_readTalk (σ : sg_S)  : Option (Int32 × sg_S) :=
  ((rd_readNumbers σ 5 7 7).bind fun r1 => (if r1.1 = 0 then some (0, r1.2) else (if sg_in (r1.2 51 0) 6 = true then sg_let (sg_st r1.2 41 (r1.2 51 0).toNatClampNeg ((10 * (r1.2 51 1)) + (r1.2 51 2))) (fun s2 => some (1, s2)) else none)))
set_option maxRecDepth 20000 in
set_option maxHeartbeats 2000000 in
theorem c_rd_readTalk (σ : sg_S)   : sg_Call yX0_readTalk mX0_readTalk (rmL 2) [.ref 34] σ eMI (rd_readTalk σ ) := by
  refine sg_call_of (by decide +kernel) rfl (Nat.le_of_ble_eq_true rfl) rfl (fun _ => rfl) ?_
  refine ev_less (ls2 := [some (.ref 34)]) ?_ ⟨rfl, trivial⟩
  unfold rd_readTalk
  refine ev_aload_n iX0_readTalk_0 rfl (by decide) rfl ?_
  refine ev_iconst iX0_readTalk_1 kI_5 ?_
  refine ev_bipush iX0_readTalk_2 kB_7 ?_
  refine ev_bipush iX0_readTalk_4 kB_7 ?_
  refine ev_VMI iX0_readTalk_6 kV_X0_82 (c_rd_readNumbers σ 5 7 7) rc_34 rfl rfl (Nat.le_of_ble_eq_true rfl) (sg_fitL (by decide) (Nat.le_of_ble_eq_true rfl)) (fun r1 => ?_)
  refine ev_if_ne iX0_readTalk_9 ?_ ?_
  · refine ev_iconst iX0_readTalk_12 kI_0 ?_
    exact ev_iret iX0_readTalk_13 rfl (fun ty _ => nar0 ty)
  · refine ev_aload_n iX0_readTalk_14 rfl (by decide) rfl ?_
    refine ev_getR (k1 := 40) 0 1 iX0_readTalk_15 kF_X0_21 O_34 rfl (by decide) ?_
    refine ev_getR (k1 := 41) 3 0 iX0_readTalk_18 kF_X0_89 O_40 rfl (by decide) ?_
    refine ev_aload_n iX0_readTalk_21 rfl (by decide) rfl ?_
    refine ev_getR (k1 := 51) 0 2 iX0_readTalk_22 kF_X0_25 O_34 rfl (by decide) ?_
    refine ev_iconst iX0_readTalk_25 kI_0 ?_
    refine ev_ialdK 0 iX0_readTalk_26 A_51 rfl rfl ?_
    refine ev_bipush iX0_readTalk_27 kB_10 ?_
    refine ev_aload_n iX0_readTalk_29 rfl (by decide) rfl ?_
    refine ev_getR (k1 := 51) 0 2 iX0_readTalk_30 kF_X0_25 O_34 rfl (by decide) ?_
    refine ev_iconst iX0_readTalk_33 kI_1 ?_
    refine ev_ialdK 1 iX0_readTalk_34 A_51 rfl rfl ?_
    refine ev_imul iX0_readTalk_35 ?_
    refine ev_aload_n iX0_readTalk_36 rfl (by decide) rfl ?_
    refine ev_getR (k1 := 51) 0 2 iX0_readTalk_37 kF_X0_25 O_34 rfl (by decide) ?_
    refine ev_iconst iX0_readTalk_40 kI_2 ?_
    refine ev_ialdK 2 iX0_readTalk_41 A_51 rfl rfl ?_
    refine ev_iadd iX0_readTalk_42 ?_
    refine ev_iast iX0_readTalk_43 A_41 ?_
    refine ev_let (fun s2 => ?_)
    refine ev_iconst iX0_readTalk_44 kI_1 ?_
    exact ev_iret iX0_readTalk_45 rfl (fun ty _ => nar1 ty)
def rd_readItem_J60 (σ : sg_S)   (t0 : Int32) : Option (Int32 × sg_S) :=
  ((ns_within σ t0 6).bind fun r3 => (if r3 = 0 then some (0, σ) else ((rd_readPerson σ t0).bind fun r4 => (if r4.1 = 0 then some (0, r4.2) else some (1, r4.2)))))
set_option maxRecDepth 20000 in
set_option maxHeartbeats 2000000 in
theorem e_rd_readItem_J60 (σ : sg_S)   (t0 : Int32)  : Ev mX0_readItem (rmL 3) 60 [some (.ref 34), none] [.int t0] σ (fun b => Sum.inl (eMI b)) (rd_readItem_J60 σ   t0) := by
  unfold rd_readItem_J60
  refine ev_istore_n (ls2 := [some (.ref 34), some (.int t0)]) iX0_readItem_60 rfl (Nat.le_of_ble_eq_true rfl) (Nat.le_of_ble_eq_true rfl) rfl rfl ?_
  refine ev_iload_n iX0_readItem_61 rfl rfl ?_
  refine ev_bipush iX0_readItem_62 kB_6 ?_
  refine ev_callN iX0_readItem_64 rfl kN_s kN_i kN_c (c_ns_within σ t0 6) rfl rfl (Nat.le_of_ble_eq_true rfl) (sg_fitL (by decide) (Nat.le_of_ble_eq_true rfl)) (fun r3 => ?_)
  show Ev _ _ 67 _ (.int r3 :: _) _ _ _
  refine ev_if_eq iX0_readItem_67 ?_ ?_
  · refine ev_iconst iX0_readItem_82 kI_0 ?_
    exact ev_iret iX0_readItem_83 rfl (fun ty _ => nar0 ty)
  · refine ev_aload_n iX0_readItem_70 rfl (by decide) rfl ?_
    refine ev_iload_n iX0_readItem_71 rfl rfl ?_
    refine ev_VMI iX0_readItem_72 kV_X0_66 (c_rd_readPerson σ t0) rc_34 rfl rfl (Nat.le_of_ble_eq_true rfl) (sg_fitL (by decide) (Nat.le_of_ble_eq_true rfl)) (fun r4 => ?_)
    refine ev_if_eq iX0_readItem_75 ?_ ?_
    · refine ev_iconst iX0_readItem_82 kI_0 ?_
      exact ev_iret iX0_readItem_83 rfl (fun ty _ => nar0 ty)
    · refine ev_iconst iX0_readItem_78 kI_1 ?_
      refine ev_goto iX0_readItem_79 ?_
      exact ev_iret iX0_readItem_83 rfl (fun ty _ => nar1 ty)
def rd_readItem (σ : sg_S)  : Option (Int32 × sg_S) :=
  ((rd_isWord σ 7).bind fun r1 => (if r1 = 0 then ((rd_isWord σ 8).bind fun r2 => (if r2 = 0 then (if sg_in (σ 34 3) 121 = true then (if (σ 37 (σ 34 3).toNatClampNeg) = 1 then (if sg_in (σ 34 3) 121 = true then rd_readItem_J60 σ (σ 39 (σ 34 3).toNatClampNeg) else none) else rd_readItem_J60 σ (-1)) else none) else ((rd_readTalk σ).bind fun r5 => (if vp_nar .boolean r5.1 = r5.1 then some (r5.1, r5.2) else none)))) else ((rd_readSaying σ).bind fun r6 => (if vp_nar .boolean r6.1 = r6.1 then some (r6.1, r6.2) else none))))
set_option maxRecDepth 20000 in
set_option maxHeartbeats 2000000 in
theorem c_rd_readItem (σ : sg_S)   : sg_Call yX0_readItem mX0_readItem (rmL 3) [.ref 34] σ eMI (rd_readItem σ ) := by
  refine sg_call_of (by decide +kernel) rfl (Nat.le_of_ble_eq_true rfl) rfl (fun _ => rfl) ?_
  refine ev_less (ls2 := [some (.ref 34), none]) ?_ ⟨rfl, trivial⟩
  unfold rd_readItem
  refine ev_aload_n iX0_readItem_0 rfl (by decide) rfl ?_
  refine ev_bipush iX0_readItem_1 kB_7 ?_
  refine ev_VRI iX0_readItem_3 kV_X0_52 (c_rd_isWord σ 7) rc_34 rfl rfl (Nat.le_of_ble_eq_true rfl) (sg_fitL (by decide) (Nat.le_of_ble_eq_true rfl)) (fun r1 => ?_)
  refine ev_if_eq iX0_readItem_6 ?_ ?_
  · refine ev_aload_n iX0_readItem_14 rfl (by decide) rfl ?_
    refine ev_bipush iX0_readItem_15 kB_8 ?_
    refine ev_VRI iX0_readItem_17 kV_X0_52 (c_rd_isWord σ 8) rc_34 rfl rfl (Nat.le_of_ble_eq_true rfl) (sg_fitL (by decide) (Nat.le_of_ble_eq_true rfl)) (fun r2 => ?_)
    refine ev_if_eq iX0_readItem_20 ?_ ?_
    · refine ev_aload_n iX0_readItem_28 rfl (by decide) rfl ?_
      refine ev_getR (k1 := 35) 0 0 iX0_readItem_29 kF_X0_12 O_34 rfl (by decide) ?_
      refine ev_getR (k1 := 37) 2 2 iX0_readItem_32 kF_X0_40 O_35 rfl (by decide) ?_
      refine ev_aload_n iX0_readItem_35 rfl (by decide) rfl ?_
      refine ev_getI 0 3 iX0_readItem_36 kF_X0_29 O_34 rfl ?_
      refine ev_iald iX0_readItem_39 A_37 ?_
      refine ev_iconst iX0_readItem_40 kI_1 ?_
      refine ev_icmp_ne iX0_readItem_41 ?_ ?_
      · refine ev_aload_n iX0_readItem_44 rfl (by decide) rfl ?_
        refine ev_getR (k1 := 35) 0 0 iX0_readItem_45 kF_X0_12 O_34 rfl (by decide) ?_
        refine ev_getR (k1 := 39) 2 4 iX0_readItem_48 kF_X0_49 O_35 rfl (by decide) ?_
        refine ev_aload_n iX0_readItem_51 rfl (by decide) rfl ?_
        refine ev_getI 0 3 iX0_readItem_52 kF_X0_29 O_34 rfl ?_
        refine ev_iald iX0_readItem_55 A_39 ?_
        refine ev_goto iX0_readItem_56 ?_
        exact ev_less (e_rd_readItem_J60 σ   (σ 39 (σ 34 3).toNatClampNeg) ) ⟨rfl, trivial⟩
      · refine ev_iconst iX0_readItem_59 kI_m1 ?_
        exact ev_less (e_rd_readItem_J60 σ   (-1) ) ⟨rfl, trivial⟩
    · refine ev_aload_n iX0_readItem_23 rfl (by decide) rfl ?_
      refine ev_VMI iX0_readItem_24 kV_X0_59 (c_rd_readTalk σ ) rc_34 rfl rfl (Nat.le_of_ble_eq_true rfl) (sg_fitL (by decide) (Nat.le_of_ble_eq_true rfl)) (fun r5 => ?_)
      refine ev_nar (fun hn => ?_)
      exact ev_iret iX0_readItem_27 rfl (narG rfl hn)
  · refine ev_aload_n iX0_readItem_9 rfl (by decide) rfl ?_
    refine ev_VMI iX0_readItem_10 kV_X0_56 (c_rd_readSaying σ ) rc_34 rfl rfl (Nat.le_of_ble_eq_true rfl) (sg_fitL (by decide) (Nat.le_of_ble_eq_true rfl)) (fun r6 => ?_)
    refine ev_nar (fun hn => ?_)
    exact ev_iret iX0_readItem_13 rfl (narG rfl hn)
def rd_readTape_14_X (σ : sg_S)   : ((Int32 × sg_S) ⊕ (sg_S ⊕ (Int32 × sg_S))) → sg_X
  | .inl a => .inr (14, [some (.ref 34), some (.int a.1)], a.2)
  | .inr (.inl e) => .inr (76, [some (.ref 34), none], e)
  | .inr (.inr r) => .inl (eMI r)
def rd_readTape_14_L (σ : sg_S)   (a : (Int32 × sg_S)) : Option ((Int32 × sg_S) ⊕ (sg_S ⊕ (Int32 × sg_S))) :=
  (if 120 < a.1 then some (.inr (.inl a.2)) else ((rd_readItem a.2).bind fun r3 => (if r3.1 = 0 then some (.inr (.inl r3.2)) else (if sg_in (r3.2 34 3) 121 = true then (if (r3.2 37 (r3.2 34 3).toNatClampNeg) = 0 then some (.inr (.inr (a.1, r3.2))) else (if sg_in (r3.2 34 3) 121 = true then (if (r3.2 37 (r3.2 34 3).toNatClampNeg) = 3 then ((rd_step r3.2).bind fun r4 => some (.inl ((a.1 + 1), r4))) else some (.inr (.inl r3.2))) else none)) else none))))
set_option maxRecDepth 20000 in
set_option maxHeartbeats 2000000 in
theorem e_rd_readTape_14_L (σ : sg_S)    : ∀ a : (Int32 × sg_S), Ev mX0_readTape (rmL 8) 14 [some (.ref 34), some (.int a.1)] [] a.2 (rd_readTape_14_X σ  ) (rd_readTape_14_L σ   a) := by
  intro a
  unfold rd_readTape_14_L
  refine ev_iload_n iX0_readTape_14 rfl rfl ?_
  refine ev_bipush iX0_readTape_15 kB_120 ?_
  refine ev_icmp_gt iX0_readTape_17 ?_ ?_
  · exact ev_exit rfl ⟨rfl, trivial⟩
  · refine ev_aload_n iX0_readTape_20 rfl (by decide) rfl ?_
    refine ev_VMI iX0_readTape_21 kV_X0_36 (c_rd_readItem a.2 ) rc_34 rfl rfl (Nat.le_of_ble_eq_true rfl) (sg_fitL (by decide) (Nat.le_of_ble_eq_true rfl)) (fun r3 => ?_)
    refine ev_if_ne iX0_readTape_24 ?_ ?_
    · refine ev_goto iX0_readTape_27 ?_
      exact ev_exit rfl ⟨rfl, trivial⟩
    · refine ev_aload_n iX0_readTape_30 rfl (by decide) rfl ?_
      refine ev_getR (k1 := 35) 0 0 iX0_readTape_31 kF_X0_12 O_34 rfl (by decide) ?_
      refine ev_getR (k1 := 37) 2 2 iX0_readTape_34 kF_X0_40 O_35 rfl (by decide) ?_
      refine ev_aload_n iX0_readTape_37 rfl (by decide) rfl ?_
      refine ev_getI 0 3 iX0_readTape_38 kF_X0_29 O_34 rfl ?_
      refine ev_iald iX0_readTape_41 A_37 ?_
      refine ev_if_ne iX0_readTape_42 ?_ ?_
      · refine ev_iload_n iX0_readTape_45 rfl rfl ?_
        exact ev_iret iX0_readTape_46 rfl (narI rfl _)
      · refine ev_aload_n iX0_readTape_47 rfl (by decide) rfl ?_
        refine ev_getR (k1 := 35) 0 0 iX0_readTape_48 kF_X0_12 O_34 rfl (by decide) ?_
        refine ev_getR (k1 := 37) 2 2 iX0_readTape_51 kF_X0_40 O_35 rfl (by decide) ?_
        refine ev_aload_n iX0_readTape_54 rfl (by decide) rfl ?_
        refine ev_getI 0 3 iX0_readTape_55 kF_X0_29 O_34 rfl ?_
        refine ev_iald iX0_readTape_58 A_37 ?_
        refine ev_iconst iX0_readTape_59 kI_3 ?_
        refine ev_icmp_eq iX0_readTape_60 ?_ ?_
        · refine ev_aload_n iX0_readTape_66 rfl (by decide) rfl ?_
          refine ev_VMV iX0_readTape_67 kV_X0_43 (c_rd_step r3.2 ) rc_34 rfl rfl (Nat.le_of_ble_eq_true rfl) (sg_fitL (by decide) (Nat.le_of_ble_eq_true rfl)) (fun r4 => ?_)
          refine ev_iinc (v := (a.1 + 1)) (ls2 := [some (.ref 34), some (.int (a.1 + 1))]) iX0_readTape_70 rfl (by rw [kI_1]) (Nat.le_of_ble_eq_true rfl) rfl rfl ?_
          refine ev_goto iX0_readTape_73 ?_
          exact ev_exit rfl ⟨rfl, rfl, trivial⟩
        · refine ev_goto iX0_readTape_63 ?_
          exact ev_exit rfl ⟨rfl, trivial⟩
def rd_readTape (σ : sg_S)  : Option (Int32 × sg_S) :=
  ((tp_cut σ).bind fun r1 => sg_let (sg_st r1 34 3 0) (fun s2 => ((sg_lp (rd_readTape_14_L s2  ) 1000 (1, s2)).bind (Sum.elim (fun e7 => (if sg_in (e7 34 3) 121 = true then some (((-1) - (e7 38 (e7 34 3).toNatClampNeg)), e7) else none)) (fun rr => some rr)))))
set_option maxRecDepth 20000 in
set_option maxHeartbeats 2000000 in
theorem c_rd_readTape (σ : sg_S)   : sg_Call yX0_readTape mX0_readTape (rmL 8) [.ref 34] σ eMI (rd_readTape σ ) := by
  refine sg_call_of (by decide +kernel) rfl (Nat.le_of_ble_eq_true rfl) rfl (fun _ => rfl) ?_
  refine ev_less (ls2 := [some (.ref 34), none]) ?_ ⟨rfl, trivial⟩
  unfold rd_readTape
  refine ev_aload_n iX0_readTape_0 rfl (by decide) rfl ?_
  refine ev_getR (k1 := 35) 0 0 iX0_readTape_1 kF_X0_12 O_34 rfl (by decide) ?_
  refine ev_VMV iX0_readTape_4 kV_X0_33 (c_tp_cut σ ) rc_35 rfl rfl (Nat.le_of_ble_eq_true rfl) (sg_fitL (by decide) (Nat.le_of_ble_eq_true rfl)) (fun r1 => ?_)
  refine ev_aload_n iX0_readTape_7 rfl (by decide) rfl ?_
  refine ev_iconst iX0_readTape_8 kI_0 ?_
  refine ev_putI 0 3 iX0_readTape_9 kF_X0_29 fp_0_3 rfl rfl O_34 rfl ?_
  refine ev_let (fun s2 => ?_)
  refine ev_iconst iX0_readTape_12 kI_1 ?_
  refine ev_istore_n (ls2 := [some (.ref 34), some (.int 1)]) iX0_readTape_13 rfl (Nat.le_of_ble_eq_true rfl) (Nat.le_of_ble_eq_true rfl) rfl rfl ?_
  refine ev_less (ls2 := [some (.ref 34), some (.int 1)]) ?_ ⟨rfl, rfl, trivial⟩
  refine ev_seqS 76 (fun z6 => [some (.ref 34), none]) (fun z6 => z6) (ev_loop (embB := rd_readTape_14_X s2  ) (ex := fun b => rd_readTape_14_X s2   (.inr b)) 14 (fun z5 => [some (.ref 34), some (.int z5.1)]) (fun z5 => z5.2) (fun _ => rfl) (fun _ => rfl) (e_rd_readTape_14_L s2   ) 1000 (1, s2)) (fun _ => rfl) (fun r => ⟨_, rfl, fun a h => by cases h; rfl⟩) (fun e7 => ?_)
  refine ev_iconst iX0_readTape_76 kI_m1 ?_
  refine ev_aload_n iX0_readTape_77 rfl (by decide) rfl ?_
  refine ev_getR (k1 := 35) 0 0 iX0_readTape_78 kF_X0_12 O_34 rfl (by decide) ?_
  refine ev_getR (k1 := 38) 2 3 iX0_readTape_81 kF_X0_46 O_35 rfl (by decide) ?_
  refine ev_aload_n iX0_readTape_84 rfl (by decide) rfl ?_
  refine ev_getI 0 3 iX0_readTape_85 kF_X0_29 O_34 rfl ?_
  refine ev_iald iX0_readTape_88 A_38 ?_
  refine ev_isub iX0_readTape_89 ?_
  exact ev_iret iX0_readTape_90 rfl (narI rfl _)
