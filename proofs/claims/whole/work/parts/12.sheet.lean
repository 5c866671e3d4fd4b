def sh_put (σ : sg_S) (b0 : Nat) (a1 : Int32) (a2 : Int32) : Option sg_S :=
  (if (σ b0 1) = 8 then (if sg_in a1 40 = true then sg_let (sg_st σ (b0 + 1) a1.toNatClampNeg a2.toInt8.toInt32) (fun s1 => some s1) else none) else (if (σ b0 1) = 16 then (if sg_in a1 40 = true then sg_let (sg_st σ (b0 + 1) a1.toNatClampNeg a2.toInt16.toInt32) (fun s2 => some s2) else none) else (if sg_in a1 40 = true then sg_let (sg_st σ (b0 + 1) a1.toNatClampNeg a2) (fun s3 => some s3) else none)))
set_option maxRecDepth 20000 in
set_option maxHeartbeats 2000000 in
theorem c_sh_put (σ : sg_S) (b0 : Nat) (a1 : Int32) (a2 : Int32) (hb0 : sg_isS b0) : sg_Call yX1_put mX1_put (rmL 0) [.ref b0, .int a1, .int a2] σ eMV (sh_put σ b0 a1 a2) := by
  refine sg_call_of (by decide +kernel) rfl (Nat.le_of_ble_eq_true rfl) rfl (fun _ => rfl) ?_
  refine ev_less (ls2 := [some (.ref b0), some (.int a1), some (.int a2)]) ?_ ⟨rfl, rfl, rfl, trivial⟩
  unfold sh_put
  refine ev_aload_n iX1_put_0 rfl (isS_ne hb0) rfl ?_
  refine ev_getI 1 1 iX1_put_1 kF_X1_15 (isS_O hb0) rfl ?_
  refine ev_bipush iX1_put_4 kB_8 ?_
  refine ev_icmp_ne iX1_put_6 ?_ ?_
  · refine ev_aload_n iX1_put_9 rfl (isS_ne hb0) rfl ?_
    refine ev_getR (k1 := (b0 + 1)) 1 0 iX1_put_10 kF_X1_9 (isS_O hb0) rfl (isS_ne1 hb0) ?_
    refine ev_iload_n iX1_put_13 rfl rfl ?_
    refine ev_iload_n iX1_put_14 rfl rfl ?_
    refine ev_i2b iX1_put_15 ?_
    refine ev_iast iX1_put_16 (isS_A hb0) ?_
    refine ev_let (fun s1 => ?_)
    refine ev_goto iX1_put_17 ?_
    exact ev_vret iX1_put_47 rfl
  · refine ev_aload_n iX1_put_20 rfl (isS_ne hb0) rfl ?_
    refine ev_getI 1 1 iX1_put_21 kF_X1_15 (isS_O hb0) rfl ?_
    refine ev_bipush iX1_put_24 kB_16 ?_
    refine ev_icmp_ne iX1_put_26 ?_ ?_
    · refine ev_aload_n iX1_put_29 rfl (isS_ne hb0) rfl ?_
      refine ev_getR (k1 := (b0 + 1)) 1 0 iX1_put_30 kF_X1_9 (isS_O hb0) rfl (isS_ne1 hb0) ?_
      refine ev_iload_n iX1_put_33 rfl rfl ?_
      refine ev_iload_n iX1_put_34 rfl rfl ?_
      refine ev_i2s iX1_put_35 ?_
      refine ev_iast iX1_put_36 (isS_A hb0) ?_
      refine ev_let (fun s2 => ?_)
      refine ev_goto iX1_put_37 ?_
      exact ev_vret iX1_put_47 rfl
    · refine ev_aload_n iX1_put_40 rfl (isS_ne hb0) rfl ?_
      refine ev_getR (k1 := (b0 + 1)) 1 0 iX1_put_41 kF_X1_9 (isS_O hb0) rfl (isS_ne1 hb0) ?_
      refine ev_iload_n iX1_put_44 rfl rfl ?_
      refine ev_iload_n iX1_put_45 rfl rfl ?_
      refine ev_iast iX1_put_46 (isS_A hb0) ?_
      refine ev_let (fun s3 => ?_)
      exact ev_vret iX1_put_47 rfl
def sh_has (σ : sg_S) (b0 : Nat) (a1 : Int32) (a2 : Int32) : Option Int32 :=
  (if a2 < 0 then some 0 else (if a1 < 0 then some 0 else (if (σ b0 2) < a1 then some 0 else (if ((σ b0 2) - a1) < a2 then some 0 else some 1))))
set_option maxRecDepth 20000 in
set_option maxHeartbeats 2000000 in
theorem c_sh_has (σ : sg_S) (b0 : Nat) (a1 : Int32) (a2 : Int32) (hb0 : sg_isS b0) : sg_Call yX1_has mX1_has (rmL 0) [.ref b0, .int a1, .int a2] σ (eRI σ) (sh_has σ b0 a1 a2) := by
  refine sg_call_of (by decide +kernel) rfl (Nat.le_of_ble_eq_true rfl) rfl (fun _ => rfl) ?_
  refine ev_less (ls2 := [some (.ref b0), some (.int a1), some (.int a2)]) ?_ ⟨rfl, rfl, rfl, trivial⟩
  unfold sh_has
  refine ev_iload_n iX1_has_0 rfl rfl ?_
  refine ev_if_lt iX1_has_1 ?_ ?_
  · refine ev_iconst iX1_has_30 kI_0 ?_
    exact ev_iret iX1_has_31 rfl (fun ty _ => nar0 ty)
  · refine ev_iload_n iX1_has_4 rfl rfl ?_
    refine ev_if_lt iX1_has_5 ?_ ?_
    · refine ev_iconst iX1_has_30 kI_0 ?_
      exact ev_iret iX1_has_31 rfl (fun ty _ => nar0 ty)
    · refine ev_iload_n iX1_has_8 rfl rfl ?_
      refine ev_aload_n iX1_has_9 rfl (isS_ne hb0) rfl ?_
      refine ev_getI 1 2 iX1_has_10 kF_X1_19 (isS_O hb0) rfl ?_
      refine ev_icmp_gt iX1_has_13 ?_ ?_
      · refine ev_iconst iX1_has_30 kI_0 ?_
        exact ev_iret iX1_has_31 rfl (fun ty _ => nar0 ty)
      · refine ev_iload_n iX1_has_16 rfl rfl ?_
        refine ev_aload_n iX1_has_17 rfl (isS_ne hb0) rfl ?_
        refine ev_getI 1 2 iX1_has_18 kF_X1_19 (isS_O hb0) rfl ?_
        refine ev_iload_n iX1_has_21 rfl rfl ?_
        refine ev_isub iX1_has_22 ?_
        refine ev_icmp_gt iX1_has_23 ?_ ?_
        · refine ev_iconst iX1_has_30 kI_0 ?_
          exact ev_iret iX1_has_31 rfl (fun ty _ => nar0 ty)
        · refine ev_iconst iX1_has_26 kI_1 ?_
          refine ev_goto iX1_has_27 ?_
          exact ev_iret iX1_has_31 rfl (fun ty _ => nar1 ty)
def sh_allows (σ : sg_S) (b0 : Nat) (a1 : Int32) (a2 : Int32) : Option Int32 :=
  (if sg_in a1 40 = true then (if (σ (b0 + 1) a1.toNatClampNeg) = (-1) then some 1 else (if sg_in a1 40 = true then (if (σ (b0 + 1) a1.toNatClampNeg) = a2 then some 1 else some 0) else none)) else none)
set_option maxRecDepth 20000 in
set_option maxHeartbeats 2000000 in
theorem c_sh_allows (σ : sg_S) (b0 : Nat) (a1 : Int32) (a2 : Int32) (hb0 : sg_isS b0) : sg_Call yX1_allows mX1_allows (rmL 0) [.ref b0, .int a1, .int a2] σ (eRI σ) (sh_allows σ b0 a1 a2) := by
  refine sg_call_of (by decide +kernel) rfl (Nat.le_of_ble_eq_true rfl) rfl (fun _ => rfl) ?_
  refine ev_less (ls2 := [some (.ref b0), some (.int a1), some (.int a2)]) ?_ ⟨rfl, rfl, rfl, trivial⟩
  unfold sh_allows
  refine ev_aload_n iX1_allows_0 rfl (isS_ne hb0) rfl ?_
  refine ev_getR (k1 := (b0 + 1)) 1 0 iX1_allows_1 kF_X1_9 (isS_O hb0) rfl (isS_ne1 hb0) ?_
  refine ev_iload_n iX1_allows_4 rfl rfl ?_
  refine ev_iald iX1_allows_5 (isS_A hb0) ?_
  refine ev_iconst iX1_allows_6 kI_m1 ?_
  refine ev_icmp_eq iX1_allows_7 ?_ ?_
  · refine ev_iconst iX1_allows_20 kI_1 ?_
    refine ev_goto iX1_allows_21 ?_
    exact ev_iret iX1_allows_25 rfl (fun ty _ => nar1 ty)
  · refine ev_aload_n iX1_allows_10 rfl (isS_ne hb0) rfl ?_
    refine ev_getR (k1 := (b0 + 1)) 1 0 iX1_allows_11 kF_X1_9 (isS_O hb0) rfl (isS_ne1 hb0) ?_
    refine ev_iload_n iX1_allows_14 rfl rfl ?_
    refine ev_iald iX1_allows_15 (isS_A hb0) ?_
    refine ev_iload_n iX1_allows_16 rfl rfl ?_
    refine ev_icmp_ne iX1_allows_17 ?_ ?_
    · refine ev_iconst iX1_allows_20 kI_1 ?_
      refine ev_goto iX1_allows_21 ?_
      exact ev_iret iX1_allows_25 rfl (fun ty _ => nar1 ty)
    · refine ev_iconst iX1_allows_24 kI_0 ?_
      exact ev_iret iX1_allows_25 rfl (fun ty _ => nar0 ty)
def tp_append (σ : sg_S) (a1 : Int32) : Option sg_S :=
  (if sg_in (σ 35 1) 120 = true then sg_let (sg_st σ 36 (σ 35 1).toNatClampNeg a1) (fun s1 => sg_let (sg_st s1 35 1 ((s1 35 1) + 1)) (fun s2 => some s2)) else none)
set_option maxRecDepth 20000 in
set_option maxHeartbeats 2000000 in
theorem c_tp_append (σ : sg_S) (a1 : Int32)  : sg_Call yX2_append mX2_append (rmL 0) [.ref 35, .int a1] σ eMV (tp_append σ a1) := by
  refine sg_call_of (by decide +kernel) rfl (Nat.le_of_ble_eq_true rfl) rfl (fun _ => rfl) ?_
  refine ev_less (ls2 := [some (.ref 35), some (.int a1)]) ?_ ⟨rfl, rfl, trivial⟩
  unfold tp_append
  refine ev_aload_n iX2_append_0 rfl (by decide) rfl ?_
  refine ev_getR (k1 := 36) 2 0 iX2_append_1 kF_X2_9 O_35 rfl (by decide) ?_
  refine ev_aload_n iX2_append_4 rfl (by decide) rfl ?_
  refine ev_getI 2 1 iX2_append_5 kF_X2_15 O_35 rfl ?_
  refine ev_iload_n iX2_append_8 rfl rfl ?_
  refine ev_iast iX2_append_9 A_36 ?_
  refine ev_let (fun s1 => ?_)
  refine ev_aload_n iX2_append_10 rfl (by decide) rfl ?_
  refine ev_dupR iX2_append_11 (by decide) ?_
  refine ev_getI 2 1 iX2_append_12 kF_X2_15 O_35 rfl ?_
  refine ev_iconst iX2_append_15 kI_1 ?_
  refine ev_iadd iX2_append_16 ?_
  refine ev_putI 2 1 iX2_append_17 kF_X2_15 fp_2_1 rfl rfl O_35 rfl ?_
  refine ev_let (fun s2 => ?_)
  exact ev_vret iX2_append_20 rfl
def tp_isLetter (σ : sg_S) (a0 : Int32) : Option Int32 :=
  (if a0 < 97 then some 0 else (if 122 < a0 then some 0 else some 1))
set_option maxRecDepth 20000 in
set_option maxHeartbeats 2000000 in
theorem c_tp_isLetter (σ : sg_S) (a0 : Int32)  : sg_Call yX2_isLetter mX2_isLetter (rmL 0) [.int a0] σ (eRI σ) (tp_isLetter σ a0) := by
  refine sg_call_of (by decide +kernel) rfl (Nat.le_of_ble_eq_true rfl) rfl (fun _ => rfl) ?_
  refine ev_less (ls2 := [some (.int a0)]) ?_ ⟨rfl, trivial⟩
  unfold tp_isLetter
  refine ev_iload_n iX2_isLetter_0 rfl rfl ?_
  refine ev_bipush iX2_isLetter_1 kB_97 ?_
  refine ev_icmp_lt iX2_isLetter_3 ?_ ?_
  · refine ev_iconst iX2_isLetter_16 kI_0 ?_
    exact ev_iret iX2_isLetter_17 rfl (fun ty _ => nar0 ty)
  · refine ev_iload_n iX2_isLetter_6 rfl rfl ?_
    refine ev_bipush iX2_isLetter_7 kB_122 ?_
    refine ev_icmp_gt iX2_isLetter_9 ?_ ?_
    · refine ev_iconst iX2_isLetter_16 kI_0 ?_
      exact ev_iret iX2_isLetter_17 rfl (fun ty _ => nar0 ty)
    · refine ev_iconst iX2_isLetter_12 kI_1 ?_
      refine ev_goto iX2_isLetter_13 ?_
      exact ev_iret iX2_isLetter_17 rfl (fun ty _ => nar1 ty)
def tp_isDigit (σ : sg_S) (a0 : Int32) : Option Int32 :=
  (if a0 < 48 then some 0 else (if 57 < a0 then some 0 else some 1))
set_option maxRecDepth 20000 in
set_option maxHeartbeats 2000000 in
theorem c_tp_isDigit (σ : sg_S) (a0 : Int32)  : sg_Call yX2_isDigit mX2_isDigit (rmL 0) [.int a0] σ (eRI σ) (tp_isDigit σ a0) := by
  refine sg_call_of (by decide +kernel) rfl (Nat.le_of_ble_eq_true rfl) rfl (fun _ => rfl) ?_
  refine ev_less (ls2 := [some (.int a0)]) ?_ ⟨rfl, trivial⟩
  unfold tp_isDigit
  refine ev_iload_n iX2_isDigit_0 rfl rfl ?_
  refine ev_bipush iX2_isDigit_1 kB_48 ?_
  refine ev_icmp_lt iX2_isDigit_3 ?_ ?_
  · refine ev_iconst iX2_isDigit_16 kI_0 ?_
    exact ev_iret iX2_isDigit_17 rfl (fun ty _ => nar0 ty)
  · refine ev_iload_n iX2_isDigit_6 rfl rfl ?_
    refine ev_bipush iX2_isDigit_7 kB_57 ?_
    refine ev_icmp_gt iX2_isDigit_9 ?_ ?_
    · refine ev_iconst iX2_isDigit_16 kI_0 ?_
      exact ev_iret iX2_isDigit_17 rfl (fun ty _ => nar0 ty)
    · refine ev_iconst iX2_isDigit_12 kI_1 ?_
      refine ev_goto iX2_isDigit_13 ?_
      exact ev_iret iX2_isDigit_17 rfl (fun ty _ => nar1 ty)
def sh_renew (σ : sg_S) (b0 : Nat) (a1 : Int32) (a2 : Int32) : Option sg_S :=
  sg_let (sg_st σ b0 1 a1) (fun s1 => sg_let (sg_st s1 b0 2 a2) (fun s2 => ((jd7_fill s2 (b0 + 1) 40 0).bind fun r3 => some r3)))
set_option maxRecDepth 20000 in
set_option maxHeartbeats 2000000 in
theorem c_sh_renew (σ : sg_S) (b0 : Nat) (a1 : Int32) (a2 : Int32) (hb0 : sg_isS b0) : sg_Call yX1_renew mX1_renew (rmL 1) [.ref b0, .int a1, .int a2] σ eMV (sh_renew σ b0 a1 a2) := by
  refine sg_call_of (by decide +kernel) rfl (Nat.le_of_ble_eq_true rfl) rfl (fun _ => rfl) ?_
  refine ev_less (ls2 := [some (.ref b0), some (.int a1), some (.int a2)]) ?_ ⟨rfl, rfl, rfl, trivial⟩
  unfold sh_renew
  refine ev_aload_n iX1_renew_0 rfl (isS_ne hb0) rfl ?_
  refine ev_iload_n iX1_renew_1 rfl rfl ?_
  refine ev_putI 1 1 iX1_renew_2 kF_X1_15 fp_1_1 rfl rfl (isS_O hb0) rfl ?_
  refine ev_let (fun s1 => ?_)
  refine ev_aload_n iX1_renew_5 rfl (isS_ne hb0) rfl ?_
  refine ev_iload_n iX1_renew_6 rfl rfl ?_
  refine ev_putI 1 2 iX1_renew_7 kF_X1_19 fp_1_2 rfl rfl (isS_O hb0) rfl ?_
  refine ev_let (fun s2 => ?_)
  refine ev_aload_n iX1_renew_10 rfl (isS_ne hb0) rfl ?_
  refine ev_getR (k1 := (b0 + 1)) 1 0 iX1_renew_11 kF_X1_9 (isS_O hb0) rfl (isS_ne1 hb0) ?_
  refine ev_iconst iX1_renew_14 kI_0 ?_
  refine ev_SMV iX1_renew_15 kS_X1_22 (c_jd7_fill s2 (b0 + 1) 40 0 (isS_A hb0)) rfl rfl (Nat.le_of_ble_eq_true rfl) (sg_fitL (by decide) (Nat.le_of_ble_eq_true rfl)) (fun r3 => ?_)
  exact ev_vret iX1_renew_18 rfl
def tp_goesOn_J30 (σ : sg_S)   (v1 : Int32) : Option Int32 :=
  (if sg_in (v1 - 1) 120 = true then ((tp_isDigit σ (σ 36 (v1 - 1).toNatClampNeg)).bind fun r2 => (if r2 = 0 then some 0 else (if sg_in v1 120 = true then ((tp_isDigit σ (σ 36 v1.toNatClampNeg)).bind fun r3 => (if r3 = 0 then some 0 else some 1)) else none))) else none)
set_option maxRecDepth 20000 in
set_option maxHeartbeats 2000000 in
theorem e_tp_goesOn_J30 (σ : sg_S)   (v1 : Int32)  : Ev mX2_goesOn (rmL 1) 30 [some (.ref 35), some (.int v1)] [] σ (fun b => Sum.inl (eRI σ b)) (tp_goesOn_J30 σ   v1) := by
  unfold tp_goesOn_J30
  refine ev_aload_n iX2_goesOn_30 rfl (by decide) rfl ?_
  refine ev_getR (k1 := 36) 2 0 iX2_goesOn_31 kF_X2_9 O_35 rfl (by decide) ?_
  refine ev_iload_n iX2_goesOn_34 rfl rfl ?_
  refine ev_iconst iX2_goesOn_35 kI_1 ?_
  refine ev_isub iX2_goesOn_36 ?_
  refine ev_iald iX2_goesOn_37 A_36 ?_
  refine ev_SRI iX2_goesOn_38 kS_X2_43 (c_tp_isDigit σ (σ 36 (v1 - 1).toNatClampNeg)) rfl rfl (Nat.le_of_ble_eq_true rfl) (sg_fitL (by decide) (Nat.le_of_ble_eq_true rfl)) (fun r2 => ?_)
  refine ev_if_eq iX2_goesOn_41 ?_ ?_
  · refine ev_iconst iX2_goesOn_60 kI_0 ?_
    exact ev_iret iX2_goesOn_61 rfl (fun ty _ => nar0 ty)
  · refine ev_aload_n iX2_goesOn_44 rfl (by decide) rfl ?_
    refine ev_getR (k1 := 36) 2 0 iX2_goesOn_45 kF_X2_9 O_35 rfl (by decide) ?_
    refine ev_iload_n iX2_goesOn_48 rfl rfl ?_
    refine ev_iald iX2_goesOn_49 A_36 ?_
    refine ev_SRI iX2_goesOn_50 kS_X2_43 (c_tp_isDigit σ (σ 36 v1.toNatClampNeg)) rfl rfl (Nat.le_of_ble_eq_true rfl) (sg_fitL (by decide) (Nat.le_of_ble_eq_true rfl)) (fun r3 => ?_)
    refine ev_if_eq iX2_goesOn_53 ?_ ?_
    · refine ev_iconst iX2_goesOn_60 kI_0 ?_
      exact ev_iret iX2_goesOn_61 rfl (fun ty _ => nar0 ty)
    · refine ev_iconst iX2_goesOn_56 kI_1 ?_
      refine ev_goto iX2_goesOn_57 ?_
      exact ev_iret iX2_goesOn_61 rfl (fun ty _ => nar1 ty)
def tp_goesOn (σ : sg_S) (a1 : Int32) : Option Int32 :=
  (if 0 < a1 then (if sg_in (a1 - 1) 120 = true then ((tp_isLetter σ (σ 36 (a1 - 1).toNatClampNeg)).bind fun r1 => (if r1 = 0 then tp_goesOn_J30 σ a1 else (if sg_in a1 120 = true then ((tp_isLetter σ (σ 36 a1.toNatClampNeg)).bind fun r4 => (if r4 = 0 then tp_goesOn_J30 σ a1 else some 1)) else none))) else none) else some 0)
set_option maxRecDepth 20000 in
set_option maxHeartbeats 2000000 in
theorem c_tp_goesOn (σ : sg_S) (a1 : Int32)  : sg_Call yX2_goesOn mX2_goesOn (rmL 1) [.ref 35, .int a1] σ (eRI σ) (tp_goesOn σ a1) := by
  refine sg_call_of (by decide +kernel) rfl (Nat.le_of_ble_eq_true rfl) rfl (fun _ => rfl) ?_
  refine ev_less (ls2 := [some (.ref 35), some (.int a1)]) ?_ ⟨rfl, rfl, trivial⟩
  unfold tp_goesOn
  refine ev_iload_n iX2_goesOn_0 rfl rfl ?_
  refine ev_if_le iX2_goesOn_1 ?_ ?_
  · refine ev_aload_n iX2_goesOn_4 rfl (by decide) rfl ?_
    refine ev_getR (k1 := 36) 2 0 iX2_goesOn_5 kF_X2_9 O_35 rfl (by decide) ?_
    refine ev_iload_n iX2_goesOn_8 rfl rfl ?_
    refine ev_iconst iX2_goesOn_9 kI_1 ?_
    refine ev_isub iX2_goesOn_10 ?_
    refine ev_iald iX2_goesOn_11 A_36 ?_
    refine ev_SRI iX2_goesOn_12 kS_X2_40 (c_tp_isLetter σ (σ 36 (a1 - 1).toNatClampNeg)) rfl rfl (Nat.le_of_ble_eq_true rfl) (sg_fitL (by decide) (Nat.le_of_ble_eq_true rfl)) (fun r1 => ?_)
    refine ev_if_eq iX2_goesOn_15 ?_ ?_
    · exact ev_less (e_tp_goesOn_J30 σ   a1 ) ⟨rfl, rfl, trivial⟩
    · refine ev_aload_n iX2_goesOn_18 rfl (by decide) rfl ?_
      refine ev_getR (k1 := 36) 2 0 iX2_goesOn_19 kF_X2_9 O_35 rfl (by decide) ?_
      refine ev_iload_n iX2_goesOn_22 rfl rfl ?_
      refine ev_iald iX2_goesOn_23 A_36 ?_
      refine ev_SRI iX2_goesOn_24 kS_X2_40 (c_tp_isLetter σ (σ 36 a1.toNatClampNeg)) rfl rfl (Nat.le_of_ble_eq_true rfl) (sg_fitL (by decide) (Nat.le_of_ble_eq_true rfl)) (fun r4 => ?_)
      refine ev_if_ne iX2_goesOn_27 ?_ ?_
      · exact ev_less (e_tp_goesOn_J30 σ   a1 ) ⟨rfl, rfl, trivial⟩
      · refine ev_iconst iX2_goesOn_56 kI_1 ?_
        refine ev_goto iX2_goesOn_57 ?_
        exact ev_iret iX2_goesOn_61 rfl (fun ty _ => nar1 ty)
  · refine ev_iconst iX2_goesOn_60 kI_0 ?_
    exact ev_iret iX2_goesOn_61 rfl (fun ty _ => nar0 ty)
def tp_worth_5_X (σ : sg_S)  (f2 : Int32) : ((Int32 × Int32) ⊕ Int32) → sg_X
  | .inl a => .inr (5, [some (.ref 35), none, some (.int f2), some (.int a.1), some (.int a.2)], σ)
  | .inr e => .inr (39, [none, none, none, some (.int e), none], σ)
def tp_worth_5_L (σ : sg_S)  (f2 : Int32) (a : (Int32 × Int32)) : Option ((Int32 × Int32) ⊕ Int32) :=
  (if a.2 < f2 then (if sg_in a.2 120 = true then sg_leti (jmin (((10 * a.1) + (σ 36 a.2.toNatClampNeg)) - 48) 10000) (fun x1 => some (.inl (x1, (a.2 + 1)))) else none) else some (.inr a.1))
set_option maxRecDepth 20000 in
set_option maxHeartbeats 2000000 in
theorem e_tp_worth_5_L (σ : sg_S)  (f2 : Int32)  : ∀ a : (Int32 × Int32), Ev mX2_worth (rmL 1) 5 [some (.ref 35), none, some (.int f2), some (.int a.1), some (.int a.2)] [] σ (tp_worth_5_X σ  f2) (tp_worth_5_L σ  f2 a) := by
  intro a
  unfold tp_worth_5_L
  refine ev_iload iX2_worth_5 rfl ?_
  refine ev_iload_n iX2_worth_7 rfl rfl ?_
  refine ev_icmp_ge iX2_worth_8 ?_ ?_
  · refine ev_bipush iX2_worth_11 kB_10 ?_
    refine ev_iload_n iX2_worth_13 rfl rfl ?_
    refine ev_imul iX2_worth_14 ?_
    refine ev_aload_n iX2_worth_15 rfl (by decide) rfl ?_
    refine ev_getR (k1 := 36) 2 0 iX2_worth_16 kF_X2_9 O_35 rfl (by decide) ?_
    refine ev_iload iX2_worth_19 rfl ?_
    refine ev_iald iX2_worth_21 A_36 ?_
    refine ev_iadd iX2_worth_22 ?_
    refine ev_bipush iX2_worth_23 kB_48 ?_
    refine ev_isub iX2_worth_25 ?_
    refine ev_sipush iX2_worth_26 kH_10000 ?_
    refine ev_min iX2_worth_29 kM_X2_53 kM_s kM_i kM_c (Nat.le_of_ble_eq_true rfl) ⟨Nat.le_of_ble_eq_true rfl, Nat.le_of_ble_eq_true rfl⟩ ?_
    refine ev_leti (fun x1 => ?_)
    refine ev_istore_n (ls2 := [some (.ref 35), none, some (.int f2), some (.int x1), some (.int a.2)]) iX2_worth_32 rfl (Nat.le_of_ble_eq_true rfl) (Nat.le_of_ble_eq_true rfl) rfl rfl ?_
    refine ev_iinc (v := (a.2 + 1)) (ls2 := [some (.ref 35), none, some (.int f2), some (.int x1), some (.int (a.2 + 1))]) iX2_worth_33 rfl (by rw [kI_1]) (Nat.le_of_ble_eq_true rfl) rfl rfl ?_
    refine ev_goto iX2_worth_36 ?_
    exact ev_exit rfl ⟨rfl, rfl, rfl, rfl, trivial⟩
  · exact ev_exit rfl ⟨rfl, trivial⟩
def tp_worth (σ : sg_S) (a1 : Int32) (a2 : Int32) : Option Int32 :=
  ((sg_lp (tp_worth_5_L σ  a2) 1000 (0, a1)).bind fun e4 => some e4)
set_option maxRecDepth 20000 in
set_option maxHeartbeats 2000000 in
theorem c_tp_worth (σ : sg_S) (a1 : Int32) (a2 : Int32)  : sg_Call yX2_worth mX2_worth (rmL 1) [.ref 35, .int a1, .int a2] σ (eRI σ) (tp_worth σ a1 a2) := by
  refine sg_call_of (by decide +kernel) rfl (Nat.le_of_ble_eq_true rfl) rfl (fun _ => rfl) ?_
  refine ev_less (ls2 := [some (.ref 35), some (.int a1), some (.int a2), none, none]) ?_ ⟨rfl, rfl, rfl, trivial⟩
  unfold tp_worth
  refine ev_iconst iX2_worth_0 kI_0 ?_
  refine ev_istore_n (ls2 := [some (.ref 35), some (.int a1), some (.int a2), some (.int 0), none]) iX2_worth_1 rfl (Nat.le_of_ble_eq_true rfl) (Nat.le_of_ble_eq_true rfl) rfl rfl ?_
  refine ev_iload_n iX2_worth_2 rfl rfl ?_
  refine ev_istore (ls2 := [some (.ref 35), some (.int a1), some (.int a2), some (.int 0), some (.int a1)]) iX2_worth_3 (Nat.le_of_ble_eq_true rfl) (Nat.le_of_ble_eq_true rfl) rfl rfl ?_
  refine ev_less (ls2 := [some (.ref 35), none, some (.int a2), some (.int 0), some (.int a1)]) ?_ ⟨rfl, rfl, rfl, rfl, trivial⟩
  refine ev_seq1 39 (fun z3 => [none, none, none, some (.int z3), none]) (fun _ => σ) (ev_loop (embB := tp_worth_5_X σ  a2) (ex := fun b => tp_worth_5_X σ  a2 (.inr b)) 5 (fun z2 => [some (.ref 35), none, some (.int a2), some (.int z2.1), some (.int z2.2)]) (fun _ => σ) (fun _ => rfl) (fun _ => rfl) (e_tp_worth_5_L σ  a2 ) 1000 (0, a1)) (fun _ => rfl) (fun e4 => ?_)
  refine ev_iload_n iX2_worth_39 rfl rfl ?_
  exact ev_iret iX2_worth_40 rfl (narI rfl _)
def tp_tokenEnd_4_X (σ : sg_S)   : (Int32 ⊕ Int32) → sg_X
  | .inl a => .inr (4, [some (.ref 35), none, some (.int a)], σ)
  | .inr e => .inr (26, [none, none, some (.int e)], σ)
def tp_tokenEnd_4_L (σ : sg_S)   (a : Int32) : Option (Int32 ⊕ Int32) :=
  (if a < (σ 35 1) then ((tp_goesOn σ a).bind fun r2 => (if r2 = 0 then some (.inr a) else some (.inl (a + 1)))) else some (.inr a))
set_option maxRecDepth 20000 in
set_option maxHeartbeats 2000000 in
theorem e_tp_tokenEnd_4_L (σ : sg_S)    : ∀ a : Int32, Ev mX2_tokenEnd (rmL 2) 4 [some (.ref 35), none, some (.int a)] [] σ (tp_tokenEnd_4_X σ  ) (tp_tokenEnd_4_L σ   a) := by
  intro a
  unfold tp_tokenEnd_4_L
  refine ev_iload_n iX2_tokenEnd_4 rfl rfl ?_
  refine ev_aload_n iX2_tokenEnd_5 rfl (by decide) rfl ?_
  refine ev_getI 2 1 iX2_tokenEnd_6 kF_X2_15 O_35 rfl ?_
  refine ev_icmp_ge iX2_tokenEnd_9 ?_ ?_
  · refine ev_aload_n iX2_tokenEnd_12 rfl (by decide) rfl ?_
    refine ev_iload_n iX2_tokenEnd_13 rfl rfl ?_
    refine ev_VRI iX2_tokenEnd_14 kV_X2_28 (c_tp_goesOn σ a) rc_35 rfl rfl (Nat.le_of_ble_eq_true rfl) (sg_fitL (by decide) (Nat.le_of_ble_eq_true rfl)) (fun r2 => ?_)
    refine ev_if_eq iX2_tokenEnd_17 ?_ ?_
    · exact ev_exit rfl ⟨rfl, trivial⟩
    · refine ev_iinc (v := (a + 1)) (ls2 := [some (.ref 35), none, some (.int (a + 1))]) iX2_tokenEnd_20 rfl (by rw [kI_1]) (Nat.le_of_ble_eq_true rfl) rfl rfl ?_
      refine ev_goto iX2_tokenEnd_23 ?_
      exact ev_exit rfl ⟨rfl, rfl, trivial⟩
  · exact ev_exit rfl ⟨rfl, trivial⟩
def tp_tokenEnd (σ : sg_S) (a1 : Int32) : Option Int32 :=
  sg_leti (a1 + 1) (fun x1 => ((sg_lp (tp_tokenEnd_4_L σ  ) 1000 x1).bind fun e5 => some e5))
set_option maxRecDepth 20000 in
set_option maxHeartbeats 2000000 in
theorem c_tp_tokenEnd (σ : sg_S) (a1 : Int32)  : sg_Call yX2_tokenEnd mX2_tokenEnd (rmL 2) [.ref 35, .int a1] σ (eRI σ) (tp_tokenEnd σ a1) := by
  refine sg_call_of (by decide +kernel) rfl (Nat.le_of_ble_eq_true rfl) rfl (fun _ => rfl) ?_
  refine ev_less (ls2 := [some (.ref 35), some (.int a1), none]) ?_ ⟨rfl, rfl, trivial⟩
  unfold tp_tokenEnd
  refine ev_iload_n iX2_tokenEnd_0 rfl rfl ?_
  refine ev_iconst iX2_tokenEnd_1 kI_1 ?_
  refine ev_iadd iX2_tokenEnd_2 ?_
  refine ev_leti (fun x1 => ?_)
  refine ev_istore_n (ls2 := [some (.ref 35), some (.int a1), some (.int x1)]) iX2_tokenEnd_3 rfl (Nat.le_of_ble_eq_true rfl) (Nat.le_of_ble_eq_true rfl) rfl rfl ?_
  refine ev_less (ls2 := [some (.ref 35), none, some (.int x1)]) ?_ ⟨rfl, rfl, trivial⟩
  refine ev_seq1 26 (fun z4 => [none, none, some (.int z4)]) (fun _ => σ) (ev_loop (embB := tp_tokenEnd_4_X σ  ) (ex := fun b => tp_tokenEnd_4_X σ   (.inr b)) 4 (fun z3 => [some (.ref 35), none, some (.int z3)]) (fun _ => σ) (fun _ => rfl) (fun _ => rfl) (e_tp_tokenEnd_4_L σ   ) 1000 x1) (fun _ => rfl) (fun e5 => ?_)
  refine ev_iload_n iX2_tokenEnd_26 rfl rfl ?_
  exact ev_iret iX2_tokenEnd_27 rfl (narI rfl _)
def tp_isAlike_3_X (σ : sg_S)  (f1 : Int32) (f2 : Int32) (f3 : Int32) : (Int32 ⊕ (Unit ⊕ Int32)) → sg_X
  | .inl a => .inr (3, [some (.ref 35), some (.int f1), some (.int f2), some (.int f3), some (.int a)], σ)
  | .inr (.inl _) => .inr (38, [none, none, none, none, none], σ)
  | .inr (.inr r) => .inl (eRI σ r)
def tp_isAlike_3_L (σ : sg_S)  (f1 : Int32) (f2 : Int32) (f3 : Int32) (a : Int32) : Option (Int32 ⊕ (Unit ⊕ Int32)) :=
  (if a < f2 then (if sg_in a 120 = true then ((jd0_charAt σ 11 ((f3 + a) - f1)).bind fun r1 => (if (σ 36 a.toNatClampNeg) = r1 then some (.inl (a + 1)) else some (.inr (.inr 0)))) else none) else some (.inr (.inl ())))
set_option maxRecDepth 20000 in
set_option maxHeartbeats 2000000 in
theorem e_tp_isAlike_3_L (σ : sg_S)  (f1 : Int32) (f2 : Int32) (f3 : Int32)  : ∀ a : Int32, Ev mX2_isAlike (rmL 4) 3 [some (.ref 35), some (.int f1), some (.int f2), some (.int f3), some (.int a)] [] σ (tp_isAlike_3_X σ  f1 f2 f3) (tp_isAlike_3_L σ  f1 f2 f3 a) := by
  intro a
  unfold tp_isAlike_3_L
  refine ev_iload iX2_isAlike_3 rfl ?_
  refine ev_iload_n iX2_isAlike_5 rfl rfl ?_
  refine ev_icmp_ge iX2_isAlike_6 ?_ ?_
  · refine ev_aload_n iX2_isAlike_9 rfl (by decide) rfl ?_
    refine ev_getR (k1 := 36) 2 0 iX2_isAlike_10 kF_X2_9 O_35 rfl (by decide) ?_
    refine ev_iload iX2_isAlike_13 rfl ?_
    refine ev_iald iX2_isAlike_15 A_36 ?_
    refine ev_ldcS (tx := "person gossip clerk judge nobody mute child saying talk trust quiet ") (i := 11) iX2_isAlike_16 (by decide +kernel) (by decide) ?_
    refine ev_iload_n iX2_isAlike_18 rfl rfl ?_
    refine ev_iload iX2_isAlike_19 rfl ?_
    refine ev_iadd iX2_isAlike_21 ?_
    refine ev_iload_n iX2_isAlike_22 rfl rfl ?_
    refine ev_isub iX2_isAlike_23 ?_
    refine ev_VRI iX2_isAlike_24 kV_X2_66 (c_jd0_charAt σ 11 ((f3 + a) - f1) (by decide)) (rc_W (by decide)) rfl rfl (Nat.le_of_ble_eq_true rfl) (sg_fitL (by decide) (Nat.le_of_ble_eq_true rfl)) (fun r1 => ?_)
    refine ev_icmp_eq iX2_isAlike_27 ?_ ?_
    · refine ev_iinc (v := (a + 1)) (ls2 := [some (.ref 35), some (.int f1), some (.int f2), some (.int f3), some (.int (a + 1))]) iX2_isAlike_32 rfl (by rw [kI_1]) (Nat.le_of_ble_eq_true rfl) rfl rfl ?_
      refine ev_goto iX2_isAlike_35 ?_
      exact ev_exit rfl ⟨rfl, rfl, rfl, rfl, rfl, trivial⟩
    · refine ev_iconst iX2_isAlike_30 kI_0 ?_
      exact ev_iret iX2_isAlike_31 rfl (fun ty _ => nar0 ty)
  · exact ev_exit rfl trivial
def tp_isAlike (σ : sg_S) (a1 : Int32) (a2 : Int32) (a3 : Int32) : Option Int32 :=
  ((sg_lp (tp_isAlike_3_L σ  a1 a2 a3) 1000 a1).bind (Sum.elim (fun _ => some 1) (fun rr => some rr)))
set_option maxRecDepth 20000 in
set_option maxHeartbeats 2000000 in
theorem c_tp_isAlike (σ : sg_S) (a1 : Int32) (a2 : Int32) (a3 : Int32)  : sg_Call yX2_isAlike mX2_isAlike (rmL 4) [.ref 35, .int a1, .int a2, .int a3] σ (eRI σ) (tp_isAlike σ a1 a2 a3) := by
  refine sg_call_of (by decide +kernel) rfl (Nat.le_of_ble_eq_true rfl) rfl (fun _ => rfl) ?_
  refine ev_less (ls2 := [some (.ref 35), some (.int a1), some (.int a2), some (.int a3), none]) ?_ ⟨rfl, rfl, rfl, rfl, trivial⟩
  unfold tp_isAlike
  refine ev_iload_n iX2_isAlike_0 rfl rfl ?_
  refine ev_istore (ls2 := [some (.ref 35), some (.int a1), some (.int a2), some (.int a3), some (.int a1)]) iX2_isAlike_1 (Nat.le_of_ble_eq_true rfl) (Nat.le_of_ble_eq_true rfl) rfl rfl ?_
  refine ev_less (ls2 := [some (.ref 35), some (.int a1), some (.int a2), some (.int a3), some (.int a1)]) ?_ ⟨rfl, rfl, rfl, rfl, rfl, trivial⟩
  refine ev_seqS 38 (fun _ => [none, none, none, none, none]) (fun _ => σ) (ev_loop (embB := tp_isAlike_3_X σ  a1 a2 a3) (ex := fun b => tp_isAlike_3_X σ  a1 a2 a3 (.inr b)) 3 (fun z2 => [some (.ref 35), some (.int a1), some (.int a2), some (.int a3), some (.int z2)]) (fun _ => σ) (fun _ => rfl) (fun _ => rfl) (e_tp_isAlike_3_L σ  a1 a2 a3 ) 1000 a1) (fun _ => rfl) (fun r => ⟨_, rfl, fun a h => by cases h; rfl⟩) (fun e4 => ?_)
  refine ev_iconst iX2_isAlike_38 kI_1 ?_
  exact ev_iret iX2_isAlike_39 rfl (fun ty _ => nar1 ty)
def tp_wordNumber_8_X (σ : sg_S)  (f1 : Int32) (f2 : Int32) : ((Int32 × Int32 × Int32) ⊕ (Unit ⊕ Int32)) → sg_X
  | .inl a => .inr (8, [some (.ref 35), some (.int f1), some (.int f2), some (.int a.1), some (.int a.2.1), some (.int a.2.2)], σ)
  | .inr (.inl _) => .inr (69, [none, none, none, none, none, none], σ)
  | .inr (.inr r) => .inl (eRI σ r)
def tp_wordNumber_8_L (σ : sg_S)  (f1 : Int32) (f2 : Int32) (a : (Int32 × Int32 × Int32)) : Option ((Int32 × Int32 × Int32) ⊕ (Unit ⊕ Int32)) :=
  ((jd0_length σ 11).bind fun r1 => (if a.2.2 < r1 then ((jd0_charAt σ 11 a.2.2).bind fun r2 => (if r2 = 32 then (if (a.2.2 - a.2.1) = (f2 - f1) then ((tp_isAlike σ f1 f2 a.2.1).bind fun r3 => (if r3 = 0 then sg_leti (a.2.2 + 1) (fun x4 => some (.inl ((a.1 + 1), x4, (a.2.2 + 1)))) else some (.inr (.inr a.1)))) else sg_leti (a.2.2 + 1) (fun x5 => some (.inl ((a.1 + 1), x5, (a.2.2 + 1))))) else some (.inl (a.1, a.2.1, (a.2.2 + 1))))) else some (.inr (.inl ()))))
set_option maxRecDepth 20000 in
set_option maxHeartbeats 2000000 in
theorem e_tp_wordNumber_8_L (σ : sg_S)  (f1 : Int32) (f2 : Int32)  : ∀ a : (Int32 × Int32 × Int32), Ev mX2_wordNumber (rmL 5) 8 [some (.ref 35), some (.int f1), some (.int f2), some (.int a.1), some (.int a.2.1), some (.int a.2.2)] [] σ (tp_wordNumber_8_X σ  f1 f2) (tp_wordNumber_8_L σ  f1 f2 a) := by
  intro a
  unfold tp_wordNumber_8_L
  refine ev_iload iX2_wordNumber_8 rfl ?_
  refine ev_ldcS (tx := "person gossip clerk judge nobody mute child saying talk trust quiet ") (i := 11) iX2_wordNumber_10 (by decide +kernel) (by decide) ?_
  refine ev_VRI iX2_wordNumber_12 kV_X2_60 (c_jd0_length σ 11 (by decide)) (rc_W (by decide)) rfl rfl (Nat.le_of_ble_eq_true rfl) (sg_fitL (by decide) (Nat.le_of_ble_eq_true rfl)) (fun r1 => ?_)
  refine ev_icmp_ge iX2_wordNumber_15 ?_ ?_
  · refine ev_ldcS (tx := "person gossip clerk judge nobody mute child saying talk trust quiet ") (i := 11) iX2_wordNumber_18 (by decide +kernel) (by decide) ?_
    refine ev_iload iX2_wordNumber_20 rfl ?_
    refine ev_VRI iX2_wordNumber_22 kV_X2_66 (c_jd0_charAt σ 11 a.2.2 (by decide)) (rc_W (by decide)) rfl rfl (Nat.le_of_ble_eq_true rfl) (sg_fitL (by decide) (Nat.le_of_ble_eq_true rfl)) (fun r2 => ?_)
    refine ev_bipush iX2_wordNumber_25 kB_32 ?_
    refine ev_icmp_ne iX2_wordNumber_27 ?_ ?_
    · refine ev_iload iX2_wordNumber_30 rfl ?_
      refine ev_iload iX2_wordNumber_32 rfl ?_
      refine ev_isub iX2_wordNumber_34 ?_
      refine ev_iload_n iX2_wordNumber_35 rfl rfl ?_
      refine ev_iload_n iX2_wordNumber_36 rfl rfl ?_
      refine ev_isub iX2_wordNumber_37 ?_
      refine ev_icmp_ne iX2_wordNumber_38 ?_ ?_
      · refine ev_aload_n iX2_wordNumber_41 rfl (by decide) rfl ?_
        refine ev_iload_n iX2_wordNumber_42 rfl rfl ?_
        refine ev_iload_n iX2_wordNumber_43 rfl rfl ?_
        refine ev_iload iX2_wordNumber_44 rfl ?_
        refine ev_VRI iX2_wordNumber_46 kV_X2_70 (c_tp_isAlike σ f1 f2 a.2.1) rc_35 rfl rfl (Nat.le_of_ble_eq_true rfl) (sg_fitL (by decide) (Nat.le_of_ble_eq_true rfl)) (fun r3 => ?_)
        refine ev_if_eq iX2_wordNumber_49 ?_ ?_
        · refine ev_iinc (v := (a.1 + 1)) (ls2 := [some (.ref 35), some (.int f1), some (.int f2), some (.int (a.1 + 1)), some (.int a.2.1), some (.int a.2.2)]) iX2_wordNumber_54 rfl (by rw [kI_1]) (Nat.le_of_ble_eq_true rfl) rfl rfl ?_
          refine ev_iload iX2_wordNumber_57 rfl ?_
          refine ev_iconst iX2_wordNumber_59 kI_1 ?_
          refine ev_iadd iX2_wordNumber_60 ?_
          refine ev_leti (fun x4 => ?_)
          refine ev_istore (ls2 := [some (.ref 35), some (.int f1), some (.int f2), some (.int (a.1 + 1)), some (.int x4), some (.int a.2.2)]) iX2_wordNumber_61 (Nat.le_of_ble_eq_true rfl) (Nat.le_of_ble_eq_true rfl) rfl rfl ?_
          refine ev_iinc (v := (a.2.2 + 1)) (ls2 := [some (.ref 35), some (.int f1), some (.int f2), some (.int (a.1 + 1)), some (.int x4), some (.int (a.2.2 + 1))]) iX2_wordNumber_63 rfl (by rw [kI_1]) (Nat.le_of_ble_eq_true rfl) rfl rfl ?_
          refine ev_goto iX2_wordNumber_66 ?_
          exact ev_exit rfl ⟨rfl, rfl, rfl, rfl, rfl, rfl, trivial⟩
        · refine ev_iload_n iX2_wordNumber_52 rfl rfl ?_
          exact ev_iret iX2_wordNumber_53 rfl (narI rfl _)
      · refine ev_iinc (v := (a.1 + 1)) (ls2 := [some (.ref 35), some (.int f1), some (.int f2), some (.int (a.1 + 1)), some (.int a.2.1), some (.int a.2.2)]) iX2_wordNumber_54 rfl (by rw [kI_1]) (Nat.le_of_ble_eq_true rfl) rfl rfl ?_
        refine ev_iload iX2_wordNumber_57 rfl ?_
        refine ev_iconst iX2_wordNumber_59 kI_1 ?_
        refine ev_iadd iX2_wordNumber_60 ?_
        refine ev_leti (fun x5 => ?_)
        refine ev_istore (ls2 := [some (.ref 35), some (.int f1), some (.int f2), some (.int (a.1 + 1)), some (.int x5), some (.int a.2.2)]) iX2_wordNumber_61 (Nat.le_of_ble_eq_true rfl) (Nat.le_of_ble_eq_true rfl) rfl rfl ?_
        refine ev_iinc (v := (a.2.2 + 1)) (ls2 := [some (.ref 35), some (.int f1), some (.int f2), some (.int (a.1 + 1)), some (.int x5), some (.int (a.2.2 + 1))]) iX2_wordNumber_63 rfl (by rw [kI_1]) (Nat.le_of_ble_eq_true rfl) rfl rfl ?_
        refine ev_goto iX2_wordNumber_66 ?_
        exact ev_exit rfl ⟨rfl, rfl, rfl, rfl, rfl, rfl, trivial⟩
    · refine ev_iinc (v := (a.2.2 + 1)) (ls2 := [some (.ref 35), some (.int f1), some (.int f2), some (.int a.1), some (.int a.2.1), some (.int (a.2.2 + 1))]) iX2_wordNumber_63 rfl (by rw [kI_1]) (Nat.le_of_ble_eq_true rfl) rfl rfl ?_
      refine ev_goto iX2_wordNumber_66 ?_
      exact ev_exit rfl ⟨rfl, rfl, rfl, rfl, rfl, rfl, trivial⟩
  · exact ev_exit rfl trivial
def tp_wordNumber (σ : sg_S) (a1 : Int32) (a2 : Int32) : Option Int32 :=
  ((sg_lp (tp_wordNumber_8_L σ  a1 a2) 1000 (0, 0, 0)).bind (Sum.elim (fun _ => some (-1)) (fun rr => some rr)))
set_option maxRecDepth 20000 in
set_option maxHeartbeats 2000000 in
theorem c_tp_wordNumber (σ : sg_S) (a1 : Int32) (a2 : Int32)  : sg_Call yX2_wordNumber mX2_wordNumber (rmL 5) [.ref 35, .int a1, .int a2] σ (eRI σ) (tp_wordNumber σ a1 a2) := by
  refine sg_call_of (by decide +kernel) rfl (Nat.le_of_ble_eq_true rfl) rfl (fun _ => rfl) ?_
  refine ev_less (ls2 := [some (.ref 35), some (.int a1), some (.int a2), none, none, none]) ?_ ⟨rfl, rfl, rfl, trivial⟩
  unfold tp_wordNumber
  refine ev_iconst iX2_wordNumber_0 kI_0 ?_
  refine ev_istore_n (ls2 := [some (.ref 35), some (.int a1), some (.int a2), some (.int 0), none, none]) iX2_wordNumber_1 rfl (Nat.le_of_ble_eq_true rfl) (Nat.le_of_ble_eq_true rfl) rfl rfl ?_
  refine ev_iconst iX2_wordNumber_2 kI_0 ?_
  refine ev_istore (ls2 := [some (.ref 35), some (.int a1), some (.int a2), some (.int 0), some (.int 0), none]) iX2_wordNumber_3 (Nat.le_of_ble_eq_true rfl) (Nat.le_of_ble_eq_true rfl) rfl rfl ?_
  refine ev_iconst iX2_wordNumber_5 kI_0 ?_
  refine ev_istore (ls2 := [some (.ref 35), some (.int a1), some (.int a2), some (.int 0), some (.int 0), some (.int 0)]) iX2_wordNumber_6 (Nat.le_of_ble_eq_true rfl) (Nat.le_of_ble_eq_true rfl) rfl rfl ?_
  refine ev_less (ls2 := [some (.ref 35), some (.int a1), some (.int a2), some (.int 0), some (.int 0), some (.int 0)]) ?_ ⟨rfl, rfl, rfl, rfl, rfl, rfl, trivial⟩
  refine ev_seqS 69 (fun _ => [none, none, none, none, none, none]) (fun _ => σ) (ev_loop (embB := tp_wordNumber_8_X σ  a1 a2) (ex := fun b => tp_wordNumber_8_X σ  a1 a2 (.inr b)) 8 (fun z6 => [some (.ref 35), some (.int a1), some (.int a2), some (.int z6.1), some (.int z6.2.1), some (.int z6.2.2)]) (fun _ => σ) (fun _ => rfl) (fun _ => rfl) (e_tp_wordNumber_8_L σ  a1 a2 ) 1000 (0, 0, 0)) (fun _ => rfl) (fun r => ⟨_, rfl, fun a h => by cases h; rfl⟩) (fun e8 => ?_)
  refine ev_iconst iX2_wordNumber_69 kI_m1 ?_
  exact ev_iret iX2_wordNumber_70 rfl (narI rfl _)
def tp_keepToken (σ : sg_S) (a1 : Int32) (a2 : Int32) (a3 : Int32) : Option sg_S :=
  (if sg_in a1 121 = true then sg_let (sg_st σ 38 a1.toNatClampNeg a2) (fun s1 => (if sg_in a1 121 = true then sg_let (sg_st s1 39 a1.toNatClampNeg 0) (fun s2 => (if sg_in a2 120 = true then ((tp_isLetter s2 (s2 36 a2.toNatClampNeg)).bind fun r3 => (if r3 = 0 then (if sg_in a2 120 = true then ((tp_isDigit s2 (s2 36 a2.toNatClampNeg)).bind fun r4 => (if r4 = 0 then (if sg_in a2 120 = true then (if (s2 36 a2.toNatClampNeg) = 59 then (if sg_in a1 121 = true then sg_let (sg_st s2 37 a1.toNatClampNeg 3) (fun s5 => some s5) else none) else (if sg_in a1 121 = true then sg_let (sg_st s2 37 a1.toNatClampNeg 4) (fun s6 => some s6) else none)) else none) else (if sg_in a1 121 = true then sg_let (sg_st s2 37 a1.toNatClampNeg 2) (fun s7 => ((tp_worth s7 a2 a3).bind fun r8 => (if sg_in a1 121 = true then sg_let (sg_st s7 39 a1.toNatClampNeg r8) (fun s9 => some s9) else none))) else none))) else none) else (if sg_in a1 121 = true then sg_let (sg_st s2 37 a1.toNatClampNeg 1) (fun s10 => ((tp_wordNumber s10 a2 a3).bind fun r11 => (if sg_in a1 121 = true then sg_let (sg_st s10 39 a1.toNatClampNeg r11) (fun s12 => some s12) else none))) else none))) else none)) else none)) else none)
set_option maxRecDepth 20000 in
set_option maxHeartbeats 2000000 in
theorem c_tp_keepToken (σ : sg_S) (a1 : Int32) (a2 : Int32) (a3 : Int32)  : sg_Call yX2_keepToken mX2_keepToken (rmL 6) [.ref 35, .int a1, .int a2, .int a3] σ eMV (tp_keepToken σ a1 a2 a3) := by
  refine sg_call_of (by decide +kernel) rfl (Nat.le_of_ble_eq_true rfl) rfl (fun _ => rfl) ?_
  refine ev_less (ls2 := [some (.ref 35), some (.int a1), some (.int a2), some (.int a3)]) ?_ ⟨rfl, rfl, rfl, rfl, trivial⟩
  unfold tp_keepToken
  refine ev_aload_n iX2_keepToken_0 rfl (by decide) rfl ?_
  refine ev_getR (k1 := 38) 2 3 iX2_keepToken_1 kF_X2_22 O_35 rfl (by decide) ?_
  refine ev_iload_n iX2_keepToken_4 rfl rfl ?_
  refine ev_iload_n iX2_keepToken_5 rfl rfl ?_
  refine ev_iast iX2_keepToken_6 A_38 ?_
  refine ev_let (fun s1 => ?_)
  refine ev_aload_n iX2_keepToken_7 rfl (by decide) rfl ?_
  refine ev_getR (k1 := 39) 2 4 iX2_keepToken_8 kF_X2_25 O_35 rfl (by decide) ?_
  refine ev_iload_n iX2_keepToken_11 rfl rfl ?_
  refine ev_iconst iX2_keepToken_12 kI_0 ?_
  refine ev_iast iX2_keepToken_13 A_39 ?_
  refine ev_let (fun s2 => ?_)
  refine ev_aload_n iX2_keepToken_14 rfl (by decide) rfl ?_
  refine ev_getR (k1 := 36) 2 0 iX2_keepToken_15 kF_X2_9 O_35 rfl (by decide) ?_
  refine ev_iload_n iX2_keepToken_18 rfl rfl ?_
  refine ev_iald iX2_keepToken_19 A_36 ?_
  refine ev_SRI iX2_keepToken_20 kS_X2_40 (c_tp_isLetter s2 (s2 36 a2.toNatClampNeg)) rfl rfl (Nat.le_of_ble_eq_true rfl) (sg_fitL (by decide) (Nat.le_of_ble_eq_true rfl)) (fun r3 => ?_)
  refine ev_if_eq iX2_keepToken_23 ?_ ?_
  · refine ev_aload_n iX2_keepToken_48 rfl (by decide) rfl ?_
    refine ev_getR (k1 := 36) 2 0 iX2_keepToken_49 kF_X2_9 O_35 rfl (by decide) ?_
    refine ev_iload_n iX2_keepToken_52 rfl rfl ?_
    refine ev_iald iX2_keepToken_53 A_36 ?_
    refine ev_SRI iX2_keepToken_54 kS_X2_43 (c_tp_isDigit s2 (s2 36 a2.toNatClampNeg)) rfl rfl (Nat.le_of_ble_eq_true rfl) (sg_fitL (by decide) (Nat.le_of_ble_eq_true rfl)) (fun r4 => ?_)
    refine ev_if_eq iX2_keepToken_57 ?_ ?_
    · refine ev_aload_n iX2_keepToken_82 rfl (by decide) rfl ?_
      refine ev_getR (k1 := 37) 2 2 iX2_keepToken_83 kF_X2_19 O_35 rfl (by decide) ?_
      refine ev_iload_n iX2_keepToken_86 rfl rfl ?_
      refine ev_aload_n iX2_keepToken_87 rfl (by decide) rfl ?_
      refine ev_getR (k1 := 36) 2 0 iX2_keepToken_88 kF_X2_9 O_35 rfl (by decide) ?_
      refine ev_iload_n iX2_keepToken_91 rfl rfl ?_
      refine ev_iald iX2_keepToken_92 A_36 ?_
      refine ev_bipush iX2_keepToken_93 kB_59 ?_
      refine ev_icmp_ne iX2_keepToken_95 ?_ ?_
      · refine ev_iconst iX2_keepToken_98 kI_3 ?_
        refine ev_goto iX2_keepToken_99 ?_
        refine ev_iast iX2_keepToken_103 A_37 ?_
        refine ev_let (fun s5 => ?_)
        exact ev_vret iX2_keepToken_104 rfl
      · refine ev_iconst iX2_keepToken_102 kI_4 ?_
        refine ev_iast iX2_keepToken_103 A_37 ?_
        refine ev_let (fun s6 => ?_)
        exact ev_vret iX2_keepToken_104 rfl
    · refine ev_aload_n iX2_keepToken_60 rfl (by decide) rfl ?_
      refine ev_getR (k1 := 37) 2 2 iX2_keepToken_61 kF_X2_19 O_35 rfl (by decide) ?_
      refine ev_iload_n iX2_keepToken_64 rfl rfl ?_
      refine ev_iconst iX2_keepToken_65 kI_2 ?_
      refine ev_iast iX2_keepToken_66 A_37 ?_
      refine ev_let (fun s7 => ?_)
      refine ev_aload_n iX2_keepToken_67 rfl (by decide) rfl ?_
      refine ev_getR (k1 := 39) 2 4 iX2_keepToken_68 kF_X2_25 O_35 rfl (by decide) ?_
      refine ev_iload_n iX2_keepToken_71 rfl rfl ?_
      refine ev_aload_n iX2_keepToken_72 rfl (by decide) rfl ?_
      refine ev_iload_n iX2_keepToken_73 rfl rfl ?_
      refine ev_iload_n iX2_keepToken_74 rfl rfl ?_
      refine ev_VRI iX2_keepToken_75 kV_X2_50 (c_tp_worth s7 a2 a3) rc_35 rfl rfl (Nat.le_of_ble_eq_true rfl) (sg_fitL (by decide) (Nat.le_of_ble_eq_true rfl)) (fun r8 => ?_)
      refine ev_iast iX2_keepToken_78 A_39 ?_
      refine ev_let (fun s9 => ?_)
      refine ev_goto iX2_keepToken_79 ?_
      exact ev_vret iX2_keepToken_104 rfl
  · refine ev_aload_n iX2_keepToken_26 rfl (by decide) rfl ?_
    refine ev_getR (k1 := 37) 2 2 iX2_keepToken_27 kF_X2_19 O_35 rfl (by decide) ?_
    refine ev_iload_n iX2_keepToken_30 rfl rfl ?_
    refine ev_iconst iX2_keepToken_31 kI_1 ?_
    refine ev_iast iX2_keepToken_32 A_37 ?_
    refine ev_let (fun s10 => ?_)
    refine ev_aload_n iX2_keepToken_33 rfl (by decide) rfl ?_
    refine ev_getR (k1 := 39) 2 4 iX2_keepToken_34 kF_X2_25 O_35 rfl (by decide) ?_
    refine ev_iload_n iX2_keepToken_37 rfl rfl ?_
    refine ev_aload_n iX2_keepToken_38 rfl (by decide) rfl ?_
    refine ev_iload_n iX2_keepToken_39 rfl rfl ?_
    refine ev_iload_n iX2_keepToken_40 rfl rfl ?_
    refine ev_VRI iX2_keepToken_41 kV_X2_46 (c_tp_wordNumber s10 a2 a3) rc_35 rfl rfl (Nat.le_of_ble_eq_true rfl) (sg_fitL (by decide) (Nat.le_of_ble_eq_true rfl)) (fun r11 => ?_)
    refine ev_iast iX2_keepToken_44 A_39 ?_
    refine ev_let (fun s12 => ?_)
    refine ev_goto iX2_keepToken_45 ?_
    exact ev_vret iX2_keepToken_104 rfl
def tp_cut_4_X (σ : sg_S)   : ((Int32 × Int32 × sg_S) ⊕ (Int32 × sg_S)) → sg_X
  | .inl a => .inr (4, [some (.ref 35), some (.int a.1), some (.int a.2.1)], a.2.2)
  | .inr e => .inr (51, [some (.ref 35), some (.int e.1), none], e.2)
def tp_cut_4_L (σ : sg_S)   (a : (Int32 × Int32 × sg_S)) : Option ((Int32 × Int32 × sg_S) ⊕ (Int32 × sg_S)) :=
  (if a.2.1 < (a.2.2 35 1) then (if sg_in a.2.1 120 = true then (if (a.2.2 36 a.2.1.toNatClampNeg) = 32 then some (.inl (a.1, (a.2.1 + 1), a.2.2)) else ((tp_goesOn a.2.2 a.2.1).bind fun r1 => (if r1 = 0 then ((tp_tokenEnd a.2.2 a.2.1).bind fun r2 => ((tp_keepToken a.2.2 a.1 a.2.1 r2).bind fun r3 => some (.inl ((a.1 + 1), (a.2.1 + 1), r3)))) else some (.inl (a.1, (a.2.1 + 1), a.2.2))))) else none) else some (.inr (a.1, a.2.2)))
set_option maxRecDepth 20000 in
set_option maxHeartbeats 2000000 in
theorem e_tp_cut_4_L (σ : sg_S)    : ∀ a : (Int32 × Int32 × sg_S), Ev mX2_cut (rmL 7) 4 [some (.ref 35), some (.int a.1), some (.int a.2.1)] [] a.2.2 (tp_cut_4_X σ  ) (tp_cut_4_L σ   a) := by
  intro a
  unfold tp_cut_4_L
  refine ev_iload_n iX2_cut_4 rfl rfl ?_
  refine ev_aload_n iX2_cut_5 rfl (by decide) rfl ?_
  refine ev_getI 2 1 iX2_cut_6 kF_X2_15 O_35 rfl ?_
  refine ev_icmp_ge iX2_cut_9 ?_ ?_
  · refine ev_aload_n iX2_cut_12 rfl (by decide) rfl ?_
    refine ev_getR (k1 := 36) 2 0 iX2_cut_13 kF_X2_9 O_35 rfl (by decide) ?_
    refine ev_iload_n iX2_cut_16 rfl rfl ?_
    refine ev_iald iX2_cut_17 A_36 ?_
    refine ev_bipush iX2_cut_18 kB_32 ?_
    refine ev_icmp_eq iX2_cut_20 ?_ ?_
    · refine ev_iinc (v := (a.2.1 + 1)) (ls2 := [some (.ref 35), some (.int a.1), some (.int (a.2.1 + 1))]) iX2_cut_45 rfl (by rw [kI_1]) (Nat.le_of_ble_eq_true rfl) rfl rfl ?_
      refine ev_goto iX2_cut_48 ?_
      exact ev_exit rfl ⟨rfl, rfl, rfl, trivial⟩
    · refine ev_aload_n iX2_cut_23 rfl (by decide) rfl ?_
      refine ev_iload_n iX2_cut_24 rfl rfl ?_
      refine ev_VRI iX2_cut_25 kV_X2_28 (c_tp_goesOn a.2.2 a.2.1) rc_35 rfl rfl (Nat.le_of_ble_eq_true rfl) (sg_fitL (by decide) (Nat.le_of_ble_eq_true rfl)) (fun r1 => ?_)
      refine ev_if_ne iX2_cut_28 ?_ ?_
      · refine ev_aload_n iX2_cut_31 rfl (by decide) rfl ?_
        refine ev_iload_n iX2_cut_32 rfl rfl ?_
        refine ev_iload_n iX2_cut_33 rfl rfl ?_
        refine ev_aload_n iX2_cut_34 rfl (by decide) rfl ?_
        refine ev_iload_n iX2_cut_35 rfl rfl ?_
        refine ev_VRI iX2_cut_36 kV_X2_32 (c_tp_tokenEnd a.2.2 a.2.1) rc_35 rfl rfl (Nat.le_of_ble_eq_true rfl) (sg_fitL (by decide) (Nat.le_of_ble_eq_true rfl)) (fun r2 => ?_)
        refine ev_VMV iX2_cut_39 kV_X2_36 (c_tp_keepToken a.2.2 a.1 a.2.1 r2) rc_35 rfl rfl (Nat.le_of_ble_eq_true rfl) (sg_fitL (by decide) (Nat.le_of_ble_eq_true rfl)) (fun r3 => ?_)
        refine ev_iinc (v := (a.1 + 1)) (ls2 := [some (.ref 35), some (.int (a.1 + 1)), some (.int a.2.1)]) iX2_cut_42 rfl (by rw [kI_1]) (Nat.le_of_ble_eq_true rfl) rfl rfl ?_
        refine ev_iinc (v := (a.2.1 + 1)) (ls2 := [some (.ref 35), some (.int (a.1 + 1)), some (.int (a.2.1 + 1))]) iX2_cut_45 rfl (by rw [kI_1]) (Nat.le_of_ble_eq_true rfl) rfl rfl ?_
        refine ev_goto iX2_cut_48 ?_
        exact ev_exit rfl ⟨rfl, rfl, rfl, trivial⟩
      · refine ev_iinc (v := (a.2.1 + 1)) (ls2 := [some (.ref 35), some (.int a.1), some (.int (a.2.1 + 1))]) iX2_cut_45 rfl (by rw [kI_1]) (Nat.le_of_ble_eq_true rfl) rfl rfl ?_
        refine ev_goto iX2_cut_48 ?_
        exact ev_exit rfl ⟨rfl, rfl, rfl, trivial⟩
  · exact ev_exit rfl ⟨rfl, rfl, trivial⟩
def tp_cut (σ : sg_S)  : Option sg_S :=
  ((sg_lp (tp_cut_4_L σ  ) 1000 (0, 0, σ)).bind fun e6 => (if sg_in e6.1 121 = true then sg_let (sg_st e6.2 37 e6.1.toNatClampNeg 0) (fun s7 => (if sg_in e6.1 121 = true then sg_let (sg_st s7 38 e6.1.toNatClampNeg (s7 35 1)) (fun s8 => (if sg_in e6.1 121 = true then sg_let (sg_st s8 39 e6.1.toNatClampNeg 0) (fun s9 => some s9) else none)) else none)) else none))
set_option maxRecDepth 20000 in
set_option maxHeartbeats 2000000 in
theorem c_tp_cut (σ : sg_S)   : sg_Call yX2_cut mX2_cut (rmL 7) [.ref 35] σ eMV (tp_cut σ ) := by
  refine sg_call_of (by decide +kernel) rfl (Nat.le_of_ble_eq_true rfl) rfl (fun _ => rfl) ?_
  refine ev_less (ls2 := [some (.ref 35), none, none]) ?_ ⟨rfl, trivial⟩
  unfold tp_cut
  refine ev_iconst iX2_cut_0 kI_0 ?_
  refine ev_istore_n (ls2 := [some (.ref 35), some (.int 0), none]) iX2_cut_1 rfl (Nat.le_of_ble_eq_true rfl) (Nat.le_of_ble_eq_true rfl) rfl rfl ?_
  refine ev_iconst iX2_cut_2 kI_0 ?_
  refine ev_istore_n (ls2 := [some (.ref 35), some (.int 0), some (.int 0)]) iX2_cut_3 rfl (Nat.le_of_ble_eq_true rfl) (Nat.le_of_ble_eq_true rfl) rfl rfl ?_
  refine ev_less (ls2 := [some (.ref 35), some (.int 0), some (.int 0)]) ?_ ⟨rfl, rfl, rfl, trivial⟩
  refine ev_seq1 51 (fun z5 => [some (.ref 35), some (.int z5.1), none]) (fun z5 => z5.2) (ev_loop (embB := tp_cut_4_X σ  ) (ex := fun b => tp_cut_4_X σ   (.inr b)) 4 (fun z4 => [some (.ref 35), some (.int z4.1), some (.int z4.2.1)]) (fun z4 => z4.2.2) (fun _ => rfl) (fun _ => rfl) (e_tp_cut_4_L σ   ) 1000 (0, 0, σ)) (fun _ => rfl) (fun e6 => ?_)
  refine ev_aload_n iX2_cut_51 rfl (by decide) rfl ?_
  refine ev_getR (k1 := 37) 2 2 iX2_cut_52 kF_X2_19 O_35 rfl (by decide) ?_
  refine ev_iload_n iX2_cut_55 rfl rfl ?_
  refine ev_iconst iX2_cut_56 kI_0 ?_
  refine ev_iast iX2_cut_57 A_37 ?_
  refine ev_let (fun s7 => ?_)
  refine ev_aload_n iX2_cut_58 rfl (by decide) rfl ?_
  refine ev_getR (k1 := 38) 2 3 iX2_cut_59 kF_X2_22 O_35 rfl (by decide) ?_
  refine ev_iload_n iX2_cut_62 rfl rfl ?_
  refine ev_aload_n iX2_cut_63 rfl (by decide) rfl ?_
  refine ev_getI 2 1 iX2_cut_64 kF_X2_15 O_35 rfl ?_
  refine ev_iast iX2_cut_67 A_38 ?_
  refine ev_let (fun s8 => ?_)
  refine ev_aload_n iX2_cut_68 rfl (by decide) rfl ?_
  refine ev_getR (k1 := 39) 2 4 iX2_cut_69 kF_X2_25 O_35 rfl (by decide) ?_
  refine ev_iload_n iX2_cut_72 rfl rfl ?_
  refine ev_iconst iX2_cut_73 kI_0 ?_
  refine ev_iast iX2_cut_74 A_39 ?_
  refine ev_let (fun s9 => ?_)
  exact ev_vret iX2_cut_75 rfl
