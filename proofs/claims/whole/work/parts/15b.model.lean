def md_listed (σ : sg_S) (a1 : Int32) : Option (Int32 × sg_S) :=
  ((md_isPlace σ a1).bind fun r1 => (if r1 = 0 then ((md_finding σ (-1000001)).bind fun r2 => some (r2.1, r2.2)) else (if sg_in (5 + a1) 119 = true then some ((σ 63 (5 + a1).toNatClampNeg), σ) else none)))
set_option maxRecDepth 20000 in
set_option maxHeartbeats 2000000 in
theorem c_md_listed (σ : sg_S) (a1 : Int32)  : sg_Call yX5_listed mX5_listed (rmL 2) [.ref 62, .int a1] σ eMI (md_listed σ a1) := by
  refine sg_call_of (by decide +kernel) rfl (Nat.le_of_ble_eq_true rfl) rfl (fun _ => rfl) ?_
  refine ev_less (ls2 := [some (.ref 62), some (.int a1)]) ?_ ⟨rfl, rfl, trivial⟩
  unfold md_listed
  refine ev_iload_n iX5_listed_0 rfl rfl ?_
  refine ev_SRI iX5_listed_1 kS_X5_74 (c_md_isPlace σ a1) rfl rfl (Nat.le_of_ble_eq_true rfl) (sg_fitL (by decide) (Nat.le_of_ble_eq_true rfl)) (fun r1 => ?_)
  refine ev_if_eq iX5_listed_4 ?_ ?_
  · refine ev_aload_n iX5_listed_18 rfl (by decide) rfl ?_
    refine ev_ldc iX5_listed_19 kC_X5_60 ?_
    refine ev_VMI iX5_listed_21 kV_X5_66 (c_md_finding σ (-1000001)) rc_62 rfl rfl (Nat.le_of_ble_eq_true rfl) (sg_fitL (by decide) (Nat.le_of_ble_eq_true rfl)) (fun r2 => ?_)
    exact ev_iret iX5_listed_24 rfl (narI rfl _)
  · refine ev_aload_n iX5_listed_7 rfl (by decide) rfl ?_
    refine ev_getR (k1 := 63) 5 0 iX5_listed_8 kF_X5_9 O_62 rfl (by decide) ?_
    refine ev_iconst iX5_listed_11 kI_5 ?_
    refine ev_iload_n iX5_listed_12 rfl rfl ?_
    refine ev_iadd iX5_listed_13 ?_
    refine ev_iald iX5_listed_14 A_63 ?_
    refine ev_goto iX5_listed_15 ?_
    exact ev_iret iX5_listed_24 rfl (narI rfl _)
def md_person (σ : sg_S) (a1 : Int32) (a2 : Int32) : Option (Int32 × sg_S) :=
  ((md_isKind σ a1).bind fun r1 => (if r1 = 0 then ((md_finding σ (-1000001)).bind fun r2 => some (r2.1, r2.2)) else ((md_isNine σ a2).bind fun r3 => (if r3 = 0 then ((md_finding σ (-1000001)).bind fun r4 => some (r4.1, r4.2)) else (if (σ 63 1) = 8 then ((md_finding σ (-1000002)).bind fun r5 => some (r5.1, r5.2)) else ((md_comes σ a1 a2).bind fun r6 => some (r6.1, r6.2)))))))
set_option maxRecDepth 20000 in
set_option maxHeartbeats 2000000 in
theorem c_md_person (σ : sg_S) (a1 : Int32) (a2 : Int32)  : sg_Call yX5_person mX5_person (rmL 2) [.ref 62, .int a1, .int a2] σ eMI (md_person σ a1 a2) := by
  refine sg_call_of (by decide +kernel) rfl (Nat.le_of_ble_eq_true rfl) rfl (fun _ => rfl) ?_
  refine ev_less (ls2 := [some (.ref 62), some (.int a1), some (.int a2)]) ?_ ⟨rfl, rfl, rfl, trivial⟩
  unfold md_person
  refine ev_iload_n iX5_person_0 rfl rfl ?_
  refine ev_SRI iX5_person_1 kS_X5_91 (c_md_isKind σ a1) rfl rfl (Nat.le_of_ble_eq_true rfl) (sg_fitL (by decide) (Nat.le_of_ble_eq_true rfl)) (fun r1 => ?_)
  refine ev_if_eq iX5_person_4 ?_ ?_
  · refine ev_aload_n iX5_person_14 rfl (by decide) rfl ?_
    refine ev_ldc iX5_person_15 kC_X5_60 ?_
    refine ev_VMI iX5_person_17 kV_X5_66 (c_md_finding σ (-1000001)) rc_62 rfl rfl (Nat.le_of_ble_eq_true rfl) (sg_fitL (by decide) (Nat.le_of_ble_eq_true rfl)) (fun r2 => ?_)
    exact ev_iret iX5_person_20 rfl (narI rfl _)
  · refine ev_iload_n iX5_person_7 rfl rfl ?_
    refine ev_SRI iX5_person_8 kS_X5_94 (c_md_isNine σ a2) rfl rfl (Nat.le_of_ble_eq_true rfl) (sg_fitL (by decide) (Nat.le_of_ble_eq_true rfl)) (fun r3 => ?_)
    refine ev_if_ne iX5_person_11 ?_ ?_
    · refine ev_aload_n iX5_person_14 rfl (by decide) rfl ?_
      refine ev_ldc iX5_person_15 kC_X5_60 ?_
      refine ev_VMI iX5_person_17 kV_X5_66 (c_md_finding σ (-1000001)) rc_62 rfl rfl (Nat.le_of_ble_eq_true rfl) (sg_fitL (by decide) (Nat.le_of_ble_eq_true rfl)) (fun r4 => ?_)
      exact ev_iret iX5_person_20 rfl (narI rfl _)
    · refine ev_aload_n iX5_person_21 rfl (by decide) rfl ?_
      refine ev_getR (k1 := 63) 5 0 iX5_person_22 kF_X5_9 O_62 rfl (by decide) ?_
      refine ev_iconst iX5_person_25 kI_1 ?_
      refine ev_ialdK 1 iX5_person_26 A_63 rfl rfl ?_
      refine ev_bipush iX5_person_27 kB_8 ?_
      refine ev_icmp_ne iX5_person_29 ?_ ?_
      · refine ev_aload_n iX5_person_32 rfl (by decide) rfl ?_
        refine ev_ldc iX5_person_33 kC_X5_97 ?_
        refine ev_VMI iX5_person_35 kV_X5_66 (c_md_finding σ (-1000002)) rc_62 rfl rfl (Nat.le_of_ble_eq_true rfl) (sg_fitL (by decide) (Nat.le_of_ble_eq_true rfl)) (fun r5 => ?_)
        refine ev_goto iX5_person_38 ?_
        exact ev_iret iX5_person_47 rfl (narI rfl _)
      · refine ev_aload_n iX5_person_41 rfl (by decide) rfl ?_
        refine ev_iload_n iX5_person_42 rfl rfl ?_
        refine ev_iload_n iX5_person_43 rfl rfl ?_
        refine ev_VMI iX5_person_44 kV_X5_98 (c_md_comes σ a1 a2) rc_62 rfl rfl (Nat.le_of_ble_eq_true rfl) (sg_fitL (by decide) (Nat.le_of_ble_eq_true rfl)) (fun r6 => ?_)
        exact ev_iret iX5_person_47 rfl (narI rfl _)
def md_isSaid_11_X (σ : sg_S)  (f1 : Int32) (f2 : Int32) (f3 : Int32) (f4 : Int32) : ((Int32 × sg_S) ⊕ sg_S) → sg_X
  | .inl a => .inr (11, [some (.ref 62), some (.int f1), some (.int f2), some (.int f3), some (.int f4), some (.int a.1)], a.2)
  | .inr e => .inr (37, [some (.ref 62), some (.int f1), some (.int f2), some (.int f3), some (.int f4), none], e)
def md_isSaid_11_L (σ : sg_S)  (f1 : Int32) (f2 : Int32) (f3 : Int32) (f4 : Int32) (a : (Int32 × sg_S)) : Option ((Int32 × sg_S) ⊕ sg_S) :=
  (if a.1 < 11 then ((md_sayingAt a.2 f4 a.1).bind fun r2 => (if sg_in r2 119 = true then sg_let (sg_st a.2 63 r2.toNatClampNeg 0) (fun s3 => some (.inl ((a.1 + 1), s3))) else none)) else some (.inr a.2))
set_option maxRecDepth 20000 in
set_option maxHeartbeats 2000000 in
theorem e_md_isSaid_11_L (σ : sg_S)  (f1 : Int32) (f2 : Int32) (f3 : Int32) (f4 : Int32)  : ∀ a : (Int32 × sg_S), Ev mX5_isSaid (rmL 2) 11 [some (.ref 62), some (.int f1), some (.int f2), some (.int f3), some (.int f4), some (.int a.1)] [] a.2 (md_isSaid_11_X σ  f1 f2 f3 f4) (md_isSaid_11_L σ  f1 f2 f3 f4 a) := by
  intro a
  unfold md_isSaid_11_L
  refine ev_iload iX5_isSaid_11 rfl ?_
  refine ev_bipush iX5_isSaid_13 kB_11 ?_
  refine ev_icmp_ge iX5_isSaid_15 ?_ ?_
  · refine ev_aload_n iX5_isSaid_18 rfl (by decide) rfl ?_
    refine ev_getR (k1 := 63) 5 0 iX5_isSaid_19 kF_X5_9 O_62 rfl (by decide) ?_
    refine ev_iload iX5_isSaid_22 rfl ?_
    refine ev_iload iX5_isSaid_24 rfl ?_
    refine ev_SRI iX5_isSaid_26 kS_X5_88 (c_md_sayingAt a.2 f4 a.1) rfl rfl (Nat.le_of_ble_eq_true rfl) (sg_fitL (by decide) (Nat.le_of_ble_eq_true rfl)) (fun r2 => ?_)
    refine ev_iconst iX5_isSaid_29 kI_0 ?_
    refine ev_iast iX5_isSaid_30 A_63 ?_
    refine ev_let (fun s3 => ?_)
    refine ev_iinc (v := (a.1 + 1)) (ls2 := [some (.ref 62), some (.int f1), some (.int f2), some (.int f3), some (.int f4), some (.int (a.1 + 1))]) iX5_isSaid_31 rfl (by rw [kI_1]) (Nat.le_of_ble_eq_true rfl) rfl rfl ?_
    refine ev_goto iX5_isSaid_34 ?_
    exact ev_exit rfl ⟨rfl, rfl, rfl, rfl, rfl, rfl, trivial⟩
  · exact ev_exit rfl ⟨rfl, rfl, rfl, rfl, rfl, trivial⟩
def md_isSaid (σ : sg_S) (a1 : Int32) (a2 : Int32) (a3 : Int32) : Option (Int32 × sg_S) :=
  sg_leti (σ 63 3) (fun x1 => ((sg_lp (md_isSaid_11_L σ  a1 a2 a3 x1) 1000 (0, σ)).bind fun e6 => ((md_sayingAt e6 x1 0).bind fun r7 => (if sg_in r7 119 = true then sg_let (sg_st e6 63 r7.toNatClampNeg a2) (fun s8 => ((md_sayingAt s8 x1 1).bind fun r9 => (if sg_in r9 119 = true then sg_let (sg_st s8 63 r9.toNatClampNeg a3) (fun s10 => ((md_isBegun s10 x1 a1).bind fun r11 => sg_let (sg_st r11 63 3 ((r11 63 3) + 1)) (fun s12 => some (x1, s12)))) else none))) else none))))
set_option maxRecDepth 20000 in
set_option maxHeartbeats 2000000 in
theorem c_md_isSaid (σ : sg_S) (a1 : Int32) (a2 : Int32) (a3 : Int32)  : sg_Call yX5_isSaid mX5_isSaid (rmL 2) [.ref 62, .int a1, .int a2, .int a3] σ eMI (md_isSaid σ a1 a2 a3) := by
  refine sg_call_of (by decide +kernel) rfl (Nat.le_of_ble_eq_true rfl) rfl (fun _ => rfl) ?_
  refine ev_less (ls2 := [some (.ref 62), some (.int a1), some (.int a2), some (.int a3), none, none]) ?_ ⟨rfl, rfl, rfl, rfl, trivial⟩
  unfold md_isSaid
  refine ev_aload_n iX5_isSaid_0 rfl (by decide) rfl ?_
  refine ev_getR (k1 := 63) 5 0 iX5_isSaid_1 kF_X5_9 O_62 rfl (by decide) ?_
  refine ev_iconst iX5_isSaid_4 kI_3 ?_
  refine ev_ialdK 3 iX5_isSaid_5 A_63 rfl rfl ?_
  refine ev_leti (fun x1 => ?_)
  refine ev_istore (ls2 := [some (.ref 62), some (.int a1), some (.int a2), some (.int a3), some (.int x1), none]) iX5_isSaid_6 (Nat.le_of_ble_eq_true rfl) (Nat.le_of_ble_eq_true rfl) rfl rfl ?_
  refine ev_iconst iX5_isSaid_8 kI_0 ?_
  refine ev_istore (ls2 := [some (.ref 62), some (.int a1), some (.int a2), some (.int a3), some (.int x1), some (.int 0)]) iX5_isSaid_9 (Nat.le_of_ble_eq_true rfl) (Nat.le_of_ble_eq_true rfl) rfl rfl ?_
  refine ev_less (ls2 := [some (.ref 62), some (.int a1), some (.int a2), some (.int a3), some (.int x1), some (.int 0)]) ?_ ⟨rfl, rfl, rfl, rfl, rfl, rfl, trivial⟩
  refine ev_seq1 37 (fun z5 => [some (.ref 62), some (.int a1), some (.int a2), some (.int a3), some (.int x1), none]) (fun z5 => z5) (ev_loop (embB := md_isSaid_11_X σ  a1 a2 a3 x1) (ex := fun b => md_isSaid_11_X σ  a1 a2 a3 x1 (.inr b)) 11 (fun z4 => [some (.ref 62), some (.int a1), some (.int a2), some (.int a3), some (.int x1), some (.int z4.1)]) (fun z4 => z4.2) (fun _ => rfl) (fun _ => rfl) (e_md_isSaid_11_L σ  a1 a2 a3 x1 ) 1000 (0, σ)) (fun _ => rfl) (fun e6 => ?_)
  refine ev_aload_n iX5_isSaid_37 rfl (by decide) rfl ?_
  refine ev_getR (k1 := 63) 5 0 iX5_isSaid_38 kF_X5_9 O_62 rfl (by decide) ?_
  refine ev_iload iX5_isSaid_41 rfl ?_
  refine ev_iconst iX5_isSaid_43 kI_0 ?_
  refine ev_SRI iX5_isSaid_44 kS_X5_88 (c_md_sayingAt e6 x1 0) rfl rfl (Nat.le_of_ble_eq_true rfl) (sg_fitL (by decide) (Nat.le_of_ble_eq_true rfl)) (fun r7 => ?_)
  refine ev_iload_n iX5_isSaid_47 rfl rfl ?_
  refine ev_iast iX5_isSaid_48 A_63 ?_
  refine ev_let (fun s8 => ?_)
  refine ev_aload_n iX5_isSaid_49 rfl (by decide) rfl ?_
  refine ev_getR (k1 := 63) 5 0 iX5_isSaid_50 kF_X5_9 O_62 rfl (by decide) ?_
  refine ev_iload iX5_isSaid_53 rfl ?_
  refine ev_iconst iX5_isSaid_55 kI_1 ?_
  refine ev_SRI iX5_isSaid_56 kS_X5_88 (c_md_sayingAt s8 x1 1) rfl rfl (Nat.le_of_ble_eq_true rfl) (sg_fitL (by decide) (Nat.le_of_ble_eq_true rfl)) (fun r9 => ?_)
  refine ev_iload_n iX5_isSaid_59 rfl rfl ?_
  refine ev_iast iX5_isSaid_60 A_63 ?_
  refine ev_let (fun s10 => ?_)
  refine ev_aload_n iX5_isSaid_61 rfl (by decide) rfl ?_
  refine ev_iload iX5_isSaid_62 rfl ?_
  refine ev_iload_n iX5_isSaid_64 rfl rfl ?_
  refine ev_VMV iX5_isSaid_65 kV_X5_101 (c_md_isBegun s10 x1 a1) rc_62 rfl rfl (Nat.le_of_ble_eq_true rfl) (sg_fitL (by decide) (Nat.le_of_ble_eq_true rfl)) (fun r11 => ?_)
  refine ev_aload_n iX5_isSaid_68 rfl (by decide) rfl ?_
  refine ev_getR (k1 := 63) 5 0 iX5_isSaid_69 kF_X5_9 O_62 rfl (by decide) ?_
  refine ev_iconst iX5_isSaid_72 kI_3 ?_
  refine ev_dup2 iX5_isSaid_73 (by decide) ?_
  refine ev_ialdK 3 iX5_isSaid_74 A_63 rfl rfl ?_
  refine ev_iconst iX5_isSaid_75 kI_1 ?_
  refine ev_iadd iX5_isSaid_76 ?_
  refine ev_iastK 3 iX5_isSaid_77 A_63 rfl rfl ?_
  refine ev_let (fun s12 => ?_)
  refine ev_iload iX5_isSaid_78 rfl ?_
  exact ev_iret iX5_isSaid_80 rfl (narI rfl _)
def md_hasHeard (σ : sg_S) (a1 : Int32) (a2 : Int32) : Option Int32 :=
  ((md_sayingIs σ a1 2).bind fun r1 => (if ((jshr r1 a2) &&& 1) = 1 then some 1 else some 0))
set_option maxRecDepth 20000 in
set_option maxHeartbeats 2000000 in
theorem c_md_hasHeard (σ : sg_S) (a1 : Int32) (a2 : Int32)  : sg_Call yX5_hasHeard mX5_hasHeard (rmL 2) [.ref 62, .int a1, .int a2] σ (eRI σ) (md_hasHeard σ a1 a2) := by
  refine sg_call_of (by decide +kernel) rfl (Nat.le_of_ble_eq_true rfl) rfl (fun _ => rfl) ?_
  refine ev_less (ls2 := [some (.ref 62), some (.int a1), some (.int a2)]) ?_ ⟨rfl, rfl, rfl, trivial⟩
  unfold md_hasHeard
  refine ev_aload_n iX5_hasHeard_0 rfl (by decide) rfl ?_
  refine ev_iload_n iX5_hasHeard_1 rfl rfl ?_
  refine ev_iconst iX5_hasHeard_2 kI_2 ?_
  refine ev_VRI iX5_hasHeard_3 kV_X5_112 (c_md_sayingIs σ a1 2) rc_62 rfl rfl (Nat.le_of_ble_eq_true rfl) (sg_fitL (by decide) (Nat.le_of_ble_eq_true rfl)) (fun r1 => ?_)
  refine ev_iload_n iX5_hasHeard_6 rfl rfl ?_
  refine ev_ishr iX5_hasHeard_7 ?_
  refine ev_iconst iX5_hasHeard_8 kI_1 ?_
  refine ev_iand iX5_hasHeard_9 ?_
  refine ev_iconst iX5_hasHeard_10 kI_1 ?_
  refine ev_icmp_ne iX5_hasHeard_11 ?_ ?_
  · refine ev_iconst iX5_hasHeard_14 kI_1 ?_
    refine ev_goto iX5_hasHeard_15 ?_
    exact ev_iret iX5_hasHeard_19 rfl (fun ty _ => nar1 ty)
  · refine ev_iconst iX5_hasHeard_18 kI_0 ?_
    exact ev_iret iX5_hasHeard_19 rfl (fun ty _ => nar0 ty)
def md_isField (σ : sg_S) (a0 : Int32) (a1 : Int32) : Option Int32 :=
  (sg_sw a0 [(0, ((md_isKind σ a1).bind fun r1 => (if vp_nar .boolean r1 = r1 then some r1 else none))), (1, ((md_isNine σ a1).bind fun r2 => (if vp_nar .boolean r2 = r2 then some r2 else none))), (2, ((md_within σ a1 0 1).bind fun r3 => (if vp_nar .boolean r3 = r3 then some r3 else none))), (3, ((md_within σ a1 0 9999).bind fun r4 => (if vp_nar .boolean r4 = r4 then some r4 else none)))] (some 0))
set_option maxRecDepth 20000 in
set_option maxHeartbeats 2000000 in
theorem c_md_isField (σ : sg_S) (a0 : Int32) (a1 : Int32)  : sg_Call yX5_isField mX5_isField (rmL 2) [.int a0, .int a1] σ (eRI σ) (md_isField σ a0 a1) := by
  refine sg_call_of (by decide +kernel) rfl (Nat.le_of_ble_eq_true rfl) rfl (fun _ => rfl) ?_
  refine ev_less (ls2 := [some (.int a0), some (.int a1)]) ?_ ⟨rfl, rfl, trivial⟩
  unfold md_isField
  refine ev_iload_n iX5_isField_0 rfl rfl ?_
  refine ev_table (dt := 58) [32, 37, 42, 49] iX5_isField_1 rfl rfl ⟨rfl, rfl, rfl, rfl, rfl, rfl, rfl, rfl, trivial⟩ ?_ ⟨?_, ?_, ?_, ?_, trivial⟩
  · refine ev_iconst iX5_isField_58 kI_0 ?_
    exact ev_iret iX5_isField_59 rfl (fun ty _ => nar0 ty)
  · refine ev_iload_n iX5_isField_32 rfl rfl ?_
    refine ev_SRI iX5_isField_33 kS_X5_91 (c_md_isKind σ a1) rfl rfl (Nat.le_of_ble_eq_true rfl) (sg_fitL (by decide) (Nat.le_of_ble_eq_true rfl)) (fun r1 => ?_)
    refine ev_nar (fun hn => ?_)
    exact ev_iret iX5_isField_36 rfl (narG rfl hn)
  · refine ev_iload_n iX5_isField_37 rfl rfl ?_
    refine ev_SRI iX5_isField_38 kS_X5_94 (c_md_isNine σ a1) rfl rfl (Nat.le_of_ble_eq_true rfl) (sg_fitL (by decide) (Nat.le_of_ble_eq_true rfl)) (fun r2 => ?_)
    refine ev_nar (fun hn => ?_)
    exact ev_iret iX5_isField_41 rfl (narG rfl hn)
  · refine ev_iload_n iX5_isField_42 rfl rfl ?_
    refine ev_iconst iX5_isField_43 kI_0 ?_
    refine ev_iconst iX5_isField_44 kI_1 ?_
    refine ev_SRI iX5_isField_45 kS_X5_70 (c_md_within σ a1 0 1) rfl rfl (Nat.le_of_ble_eq_true rfl) (sg_fitL (by decide) (Nat.le_of_ble_eq_true rfl)) (fun r3 => ?_)
    refine ev_nar (fun hn => ?_)
    exact ev_iret iX5_isField_48 rfl (narG rfl hn)
  · refine ev_iload_n iX5_isField_49 rfl rfl ?_
    refine ev_iconst iX5_isField_50 kI_0 ?_
    refine ev_sipush iX5_isField_51 kH_9999 ?_
    refine ev_SRI iX5_isField_54 kS_X5_70 (c_md_within σ a1 0 9999) rfl rfl (Nat.le_of_ble_eq_true rfl) (sg_fitL (by decide) (Nat.le_of_ble_eq_true rfl)) (fun r4 => ?_)
    refine ev_nar (fun hn => ?_)
    exact ev_iret iX5_isField_57 rfl (narG rfl hn)
def md_ofSaying (σ : sg_S) (a1 : Int32) (a2 : Int32) : Option (Int32 × sg_S) :=
  ((md_isSaying σ a1).bind fun r1 => (if r1 = 0 then ((md_finding σ (-1000001)).bind fun r2 => some (r2.1, r2.2)) else ((md_within σ a2 0 2).bind fun r3 => (if r3 = 0 then ((md_finding σ (-1000001)).bind fun r4 => some (r4.1, r4.2)) else ((md_sayingIs σ a1 a2).bind fun r5 => some (r5, σ))))))
set_option maxRecDepth 20000 in
set_option maxHeartbeats 2000000 in
theorem c_md_ofSaying (σ : sg_S) (a1 : Int32) (a2 : Int32)  : sg_Call yX5_ofSaying mX5_ofSaying (rmL 2) [.ref 62, .int a1, .int a2] σ eMI (md_ofSaying σ a1 a2) := by
  refine sg_call_of (by decide +kernel) rfl (Nat.le_of_ble_eq_true rfl) rfl (fun _ => rfl) ?_
  refine ev_less (ls2 := [some (.ref 62), some (.int a1), some (.int a2)]) ?_ ⟨rfl, rfl, rfl, trivial⟩
  unfold md_ofSaying
  refine ev_aload_n iX5_ofSaying_0 rfl (by decide) rfl ?_
  refine ev_iload_n iX5_ofSaying_1 rfl rfl ?_
  refine ev_VRI iX5_ofSaying_2 kV_X5_131 (c_md_isSaying σ a1) rc_62 rfl rfl (Nat.le_of_ble_eq_true rfl) (sg_fitL (by decide) (Nat.le_of_ble_eq_true rfl)) (fun r1 => ?_)
  refine ev_if_eq iX5_ofSaying_5 ?_ ?_
  · refine ev_aload_n iX5_ofSaying_26 rfl (by decide) rfl ?_
    refine ev_ldc iX5_ofSaying_27 kC_X5_60 ?_
    refine ev_VMI iX5_ofSaying_29 kV_X5_66 (c_md_finding σ (-1000001)) rc_62 rfl rfl (Nat.le_of_ble_eq_true rfl) (sg_fitL (by decide) (Nat.le_of_ble_eq_true rfl)) (fun r2 => ?_)
    exact ev_iret iX5_ofSaying_32 rfl (narI rfl _)
  · refine ev_iload_n iX5_ofSaying_8 rfl rfl ?_
    refine ev_iconst iX5_ofSaying_9 kI_0 ?_
    refine ev_iconst iX5_ofSaying_10 kI_2 ?_
    refine ev_SRI iX5_ofSaying_11 kS_X5_70 (c_md_within σ a2 0 2) rfl rfl (Nat.le_of_ble_eq_true rfl) (sg_fitL (by decide) (Nat.le_of_ble_eq_true rfl)) (fun r3 => ?_)
    refine ev_if_eq iX5_ofSaying_14 ?_ ?_
    · refine ev_aload_n iX5_ofSaying_26 rfl (by decide) rfl ?_
      refine ev_ldc iX5_ofSaying_27 kC_X5_60 ?_
      refine ev_VMI iX5_ofSaying_29 kV_X5_66 (c_md_finding σ (-1000001)) rc_62 rfl rfl (Nat.le_of_ble_eq_true rfl) (sg_fitL (by decide) (Nat.le_of_ble_eq_true rfl)) (fun r4 => ?_)
      exact ev_iret iX5_ofSaying_32 rfl (narI rfl _)
    · refine ev_aload_n iX5_ofSaying_17 rfl (by decide) rfl ?_
      refine ev_iload_n iX5_ofSaying_18 rfl rfl ?_
      refine ev_iload_n iX5_ofSaying_19 rfl rfl ?_
      refine ev_VRI iX5_ofSaying_20 kV_X5_112 (c_md_sayingIs σ a1 a2) rc_62 rfl rfl (Nat.le_of_ble_eq_true rfl) (sg_fitL (by decide) (Nat.le_of_ble_eq_true rfl)) (fun r5 => ?_)
      refine ev_goto iX5_ofSaying_23 ?_
      exact ev_iret iX5_ofSaying_32 rfl (narI rfl _)
def md_alter_J28 (σ : sg_S)   (v1 : Int32) (v2 : Int32) (v3 : Int32) (t0 : Int32) : Option (Int32 × sg_S) :=
  ((md_isSaying σ v1).bind fun r2 => (if r2 = 0 then ((md_finding σ (-1000001)).bind fun r3 => some (r3.1, r3.2)) else (if t0 = 0 then ((md_finding σ (-1000001)).bind fun r4 => some (r4.1, r4.2)) else ((md_sayingAt σ v1 v2).bind fun r5 => ((md_become σ r5 v3).bind fun r6 => some (r6.1, r6.2))))))
set_option maxRecDepth 20000 in
set_option maxHeartbeats 2000000 in
theorem e_md_alter_J28 (σ : sg_S)   (v1 : Int32) (v2 : Int32) (v3 : Int32) (t0 : Int32)  : Ev mX5_alter (rmL 2) 28 [some (.ref 62), some (.int v1), some (.int v2), some (.int v3), none] [.int t0] σ (fun b => Sum.inl (eMI b)) (md_alter_J28 σ   v1 v2 v3 t0) := by
  unfold md_alter_J28
  refine ev_istore (ls2 := [some (.ref 62), some (.int v1), some (.int v2), some (.int v3), some (.int t0)]) iX5_alter_28 (Nat.le_of_ble_eq_true rfl) (Nat.le_of_ble_eq_true rfl) rfl rfl ?_
  refine ev_aload_n iX5_alter_30 rfl (by decide) rfl ?_
  refine ev_iload_n iX5_alter_31 rfl rfl ?_
  refine ev_VRI iX5_alter_32 kV_X5_131 (c_md_isSaying σ v1) rc_62 rfl rfl (Nat.le_of_ble_eq_true rfl) (sg_fitL (by decide) (Nat.le_of_ble_eq_true rfl)) (fun r2 => ?_)
  refine ev_if_eq iX5_alter_35 ?_ ?_
  · refine ev_aload_n iX5_alter_56 rfl (by decide) rfl ?_
    refine ev_ldc iX5_alter_57 kC_X5_60 ?_
    refine ev_VMI iX5_alter_59 kV_X5_66 (c_md_finding σ (-1000001)) rc_62 rfl rfl (Nat.le_of_ble_eq_true rfl) (sg_fitL (by decide) (Nat.le_of_ble_eq_true rfl)) (fun r3 => ?_)
    exact ev_iret iX5_alter_62 rfl (narI rfl _)
  · refine ev_iload iX5_alter_38 rfl ?_
    refine ev_if_eq iX5_alter_40 ?_ ?_
    · refine ev_aload_n iX5_alter_56 rfl (by decide) rfl ?_
      refine ev_ldc iX5_alter_57 kC_X5_60 ?_
      refine ev_VMI iX5_alter_59 kV_X5_66 (c_md_finding σ (-1000001)) rc_62 rfl rfl (Nat.le_of_ble_eq_true rfl) (sg_fitL (by decide) (Nat.le_of_ble_eq_true rfl)) (fun r4 => ?_)
      exact ev_iret iX5_alter_62 rfl (narI rfl _)
    · refine ev_aload_n iX5_alter_43 rfl (by decide) rfl ?_
      refine ev_iload_n iX5_alter_44 rfl rfl ?_
      refine ev_iload_n iX5_alter_45 rfl rfl ?_
      refine ev_SRI iX5_alter_46 kS_X5_88 (c_md_sayingAt σ v1 v2) rfl rfl (Nat.le_of_ble_eq_true rfl) (sg_fitL (by decide) (Nat.le_of_ble_eq_true rfl)) (fun r5 => ?_)
      refine ev_iload_n iX5_alter_49 rfl rfl ?_
      refine ev_VMI iX5_alter_50 kV_X5_81 (c_md_become σ r5 v3) rc_62 rfl rfl (Nat.le_of_ble_eq_true rfl) (sg_fitL (by decide) (Nat.le_of_ble_eq_true rfl)) (fun r6 => ?_)
      refine ev_goto iX5_alter_53 ?_
      exact ev_iret iX5_alter_62 rfl (narI rfl _)
def md_alter_J27 (σ : sg_S)   (v1 : Int32) (v2 : Int32) (v3 : Int32) : Option (Int32 × sg_S) :=
  md_alter_J28 σ v1 v2 v3 0
set_option maxRecDepth 20000 in
set_option maxHeartbeats 2000000 in
theorem e_md_alter_J27 (σ : sg_S)   (v1 : Int32) (v2 : Int32) (v3 : Int32)  : Ev mX5_alter (rmL 2) 27 [some (.ref 62), some (.int v1), some (.int v2), some (.int v3), none] [] σ (fun b => Sum.inl (eMI b)) (md_alter_J27 σ   v1 v2 v3) := by
  unfold md_alter_J27
  refine ev_iconst iX5_alter_27 kI_0 ?_
  exact ev_less (e_md_alter_J28 σ   v1 v2 v3 0 ) ⟨rfl, rfl, rfl, rfl, trivial⟩
def md_alter (σ : sg_S) (a1 : Int32) (a2 : Int32) (a3 : Int32) : Option (Int32 × sg_S) :=
  (if a2 = 0 then ((md_isOne σ a3).bind fun r1 => md_alter_J28 σ a1 a2 a3 r1) else (if a2 = 1 then ((md_isNine σ a3).bind fun r7 => (if r7 = 0 then md_alter_J27 σ a1 a2 a3 else md_alter_J28 σ a1 a2 a3 1)) else md_alter_J27 σ a1 a2 a3))
set_option maxRecDepth 20000 in
set_option maxHeartbeats 2000000 in
theorem c_md_alter (σ : sg_S) (a1 : Int32) (a2 : Int32) (a3 : Int32)  : sg_Call yX5_alter mX5_alter (rmL 2) [.ref 62, .int a1, .int a2, .int a3] σ eMI (md_alter σ a1 a2 a3) := by
  refine sg_call_of (by decide +kernel) rfl (Nat.le_of_ble_eq_true rfl) rfl (fun _ => rfl) ?_
  refine ev_less (ls2 := [some (.ref 62), some (.int a1), some (.int a2), some (.int a3), none]) ?_ ⟨rfl, rfl, rfl, rfl, trivial⟩
  unfold md_alter
  refine ev_iload_n iX5_alter_0 rfl rfl ?_
  refine ev_if_ne iX5_alter_1 ?_ ?_
  · refine ev_iload_n iX5_alter_4 rfl rfl ?_
    refine ev_SRI iX5_alter_5 kS_X5_78 (c_md_isOne σ a3) rfl rfl (Nat.le_of_ble_eq_true rfl) (sg_fitL (by decide) (Nat.le_of_ble_eq_true rfl)) (fun r1 => ?_)
    refine ev_goto iX5_alter_8 ?_
    exact ev_less (e_md_alter_J28 σ   a1 a2 a3 r1 ) ⟨rfl, rfl, rfl, rfl, trivial⟩
  · refine ev_iload_n iX5_alter_11 rfl rfl ?_
    refine ev_iconst iX5_alter_12 kI_1 ?_
    refine ev_icmp_ne iX5_alter_13 ?_ ?_
    · refine ev_iload_n iX5_alter_16 rfl rfl ?_
      refine ev_SRI iX5_alter_17 kS_X5_94 (c_md_isNine σ a3) rfl rfl (Nat.le_of_ble_eq_true rfl) (sg_fitL (by decide) (Nat.le_of_ble_eq_true rfl)) (fun r7 => ?_)
      refine ev_if_eq iX5_alter_20 ?_ ?_
      · exact ev_less (e_md_alter_J27 σ   a1 a2 a3 ) ⟨rfl, rfl, rfl, rfl, trivial⟩
      · refine ev_iconst iX5_alter_23 kI_1 ?_
        refine ev_goto iX5_alter_24 ?_
        exact ev_less (e_md_alter_J28 σ   a1 a2 a3 1 ) ⟨rfl, rfl, rfl, rfl, trivial⟩
    · exact ev_less (e_md_alter_J27 σ   a1 a2 a3 ) ⟨rfl, rfl, rfl, rfl, trivial⟩
def md_tells_J23 (σ : sg_S)   (v1 : Int32) (v2 : Int32) (v4 : Int32) (t0 : Int32) : Option Int32 :=
  ((md_personIs σ v1 0).bind fun r3 => (sg_sw r3 [(1, some 1), (2, (if vp_nar .boolean t0 = t0 then some t0 else none)), (3, (if t0 = 0 then some 0 else (if v4 = v2 then some 0 else some 1))), (4, (if v4 = v1 then some 1 else some 0)), (5, some 0), (6, (if v4 = v2 then some 0 else some 1))] (if v4 = v1 then some 0 else some 1)))
set_option maxRecDepth 20000 in
set_option maxHeartbeats 2000000 in
theorem e_md_tells_J23 (σ : sg_S)   (v1 : Int32) (v2 : Int32) (v4 : Int32) (t0 : Int32)  : Ev mX5_tells (rmL 2) 23 [some (.ref 62), some (.int v1), some (.int v2), none, some (.int v4), none] [.int t0] σ (fun b => Sum.inl (eRI σ b)) (md_tells_J23 σ   v1 v2 v4 t0) := by
  unfold md_tells_J23
  refine ev_istore (ls2 := [some (.ref 62), some (.int v1), some (.int v2), none, some (.int v4), some (.int t0)]) iX5_tells_23 (Nat.le_of_ble_eq_true rfl) (Nat.le_of_ble_eq_true rfl) rfl rfl ?_
  refine ev_aload_n iX5_tells_25 rfl (by decide) rfl ?_
  refine ev_iload_n iX5_tells_26 rfl rfl ?_
  refine ev_iconst iX5_tells_27 kI_0 ?_
  refine ev_VRI iX5_tells_28 kV_X5_122 (c_md_personIs σ v1 0) rc_62 rfl rfl (Nat.le_of_ble_eq_true rfl) (sg_fitL (by decide) (Nat.le_of_ble_eq_true rfl)) (fun r3 => ?_)
  refine ev_table (dt := 116) [68, 82, 85, 102, 114, 70] iX5_tells_31 rfl rfl ⟨rfl, rfl, rfl, rfl, rfl, rfl, rfl, rfl, rfl, rfl, rfl, rfl, trivial⟩ ?_ ⟨?_, ?_, ?_, ?_, ?_, ?_, trivial⟩
  · refine ev_iload iX5_tells_116 rfl ?_
    refine ev_iload_n iX5_tells_118 rfl rfl ?_
    refine ev_icmp_eq iX5_tells_119 ?_ ?_
    · refine ev_iconst iX5_tells_126 kI_0 ?_
      exact ev_iret iX5_tells_127 rfl (fun ty _ => nar0 ty)
    · refine ev_iconst iX5_tells_122 kI_1 ?_
      refine ev_goto iX5_tells_123 ?_
      exact ev_iret iX5_tells_127 rfl (fun ty _ => nar1 ty)
  · refine ev_iconst iX5_tells_68 kI_1 ?_
    exact ev_iret iX5_tells_69 rfl (fun ty _ => nar1 ty)
  · refine ev_iload iX5_tells_82 rfl ?_
    refine ev_nar (fun hn => ?_)
    exact ev_iret iX5_tells_84 rfl (narG rfl hn)
  · refine ev_iload iX5_tells_85 rfl ?_
    refine ev_if_eq iX5_tells_87 ?_ ?_
    · refine ev_iconst iX5_tells_100 kI_0 ?_
      exact ev_iret iX5_tells_101 rfl (fun ty _ => nar0 ty)
    · refine ev_iload iX5_tells_90 rfl ?_
      refine ev_iload_n iX5_tells_92 rfl rfl ?_
      refine ev_icmp_eq iX5_tells_93 ?_ ?_
      · refine ev_iconst iX5_tells_100 kI_0 ?_
        exact ev_iret iX5_tells_101 rfl (fun ty _ => nar0 ty)
      · refine ev_iconst iX5_tells_96 kI_1 ?_
        refine ev_goto iX5_tells_97 ?_
        exact ev_iret iX5_tells_101 rfl (fun ty _ => nar1 ty)
  · refine ev_iload iX5_tells_102 rfl ?_
    refine ev_iload_n iX5_tells_104 rfl rfl ?_
    refine ev_icmp_ne iX5_tells_105 ?_ ?_
    · refine ev_iconst iX5_tells_108 kI_1 ?_
      refine ev_goto iX5_tells_109 ?_
      exact ev_iret iX5_tells_113 rfl (fun ty _ => nar1 ty)
    · refine ev_iconst iX5_tells_112 kI_0 ?_
      exact ev_iret iX5_tells_113 rfl (fun ty _ => nar0 ty)
  · refine ev_iconst iX5_tells_114 kI_0 ?_
    exact ev_iret iX5_tells_115 rfl (fun ty _ => nar0 ty)
  · refine ev_iload iX5_tells_70 rfl ?_
    refine ev_iload_n iX5_tells_72 rfl rfl ?_
    refine ev_icmp_eq iX5_tells_73 ?_ ?_
    · refine ev_iconst iX5_tells_80 kI_0 ?_
      exact ev_iret iX5_tells_81 rfl (fun ty _ => nar0 ty)
    · refine ev_iconst iX5_tells_76 kI_1 ?_
      refine ev_goto iX5_tells_77 ?_
      exact ev_iret iX5_tells_81 rfl (fun ty _ => nar1 ty)
def md_tells (σ : sg_S) (a1 : Int32) (a2 : Int32) (a3 : Int32) : Option Int32 :=
  ((md_sayingIs σ a3 0).bind fun r1 => ((md_sayingIs σ a3 1).bind fun r2 => (if r2 < 5 then md_tells_J23 σ a1 a2 r1 0 else md_tells_J23 σ a1 a2 r1 1)))
set_option maxRecDepth 20000 in
set_option maxHeartbeats 2000000 in
theorem c_md_tells (σ : sg_S) (a1 : Int32) (a2 : Int32) (a3 : Int32)  : sg_Call yX5_tells mX5_tells (rmL 2) [.ref 62, .int a1, .int a2, .int a3] σ (eRI σ) (md_tells σ a1 a2 a3) := by
  refine sg_call_of (by decide +kernel) rfl (Nat.le_of_ble_eq_true rfl) rfl (fun _ => rfl) ?_
  refine ev_less (ls2 := [some (.ref 62), some (.int a1), some (.int a2), some (.int a3), none, none]) ?_ ⟨rfl, rfl, rfl, rfl, trivial⟩
  unfold md_tells
  refine ev_aload_n iX5_tells_0 rfl (by decide) rfl ?_
  refine ev_iload_n iX5_tells_1 rfl rfl ?_
  refine ev_iconst iX5_tells_2 kI_0 ?_
  refine ev_VRI iX5_tells_3 kV_X5_112 (c_md_sayingIs σ a3 0) rc_62 rfl rfl (Nat.le_of_ble_eq_true rfl) (sg_fitL (by decide) (Nat.le_of_ble_eq_true rfl)) (fun r1 => ?_)
  refine ev_istore (ls2 := [some (.ref 62), some (.int a1), some (.int a2), some (.int a3), some (.int r1), none]) iX5_tells_6 (Nat.le_of_ble_eq_true rfl) (Nat.le_of_ble_eq_true rfl) rfl rfl ?_
  refine ev_aload_n iX5_tells_8 rfl (by decide) rfl ?_
  refine ev_iload_n iX5_tells_9 rfl rfl ?_
  refine ev_iconst iX5_tells_10 kI_1 ?_
  refine ev_VRI iX5_tells_11 kV_X5_112 (c_md_sayingIs σ a3 1) rc_62 rfl rfl (Nat.le_of_ble_eq_true rfl) (sg_fitL (by decide) (Nat.le_of_ble_eq_true rfl)) (fun r2 => ?_)
  refine ev_iconst iX5_tells_14 kI_5 ?_
  refine ev_icmp_lt iX5_tells_15 ?_ ?_
  · refine ev_iconst iX5_tells_22 kI_0 ?_
    exact ev_less (e_md_tells_J23 σ   a1 a2 r1 0 ) ⟨rfl, rfl, rfl, rfl, trivial⟩
  · refine ev_iconst iX5_tells_18 kI_1 ?_
    refine ev_goto iX5_tells_19 ?_
    exact ev_less (e_md_tells_J23 σ   a1 a2 r1 1 ) ⟨rfl, rfl, rfl, rfl, trivial⟩
def md_believes_J44 (σ : sg_S)   (v1 : Int32) (v3 : Int32) (v4 : Int32) (t0 : Int32) : Option Int32 :=
  ((md_personIs σ v1 0).bind fun r3 => (sg_sw r3 [(1, some 1), (2, (if vp_nar .boolean t0 = t0 then some t0 else none)), (3, (if t0 = 0 then some 0 else (if (jrem (σ 63 0) 2) = 0 then some 1 else some 0))), (4, some 1), (5, (if vp_nar .boolean v4 = v4 then some v4 else none)), (6, (if v4 = 0 then (if (jrem v3 2) = 1 then some 1 else some 0) else some 1))] (if vp_nar .boolean v4 = v4 then some v4 else none)))
set_option maxRecDepth 20000 in
set_option maxHeartbeats 2000000 in
theorem e_md_believes_J44 (σ : sg_S)   (v1 : Int32) (v3 : Int32) (v4 : Int32) (t0 : Int32)  : Ev mX5_believes (rmL 2) 44 [some (.ref 62), some (.int v1), none, some (.int v3), some (.int v4), none] [.int t0] σ (fun b => Sum.inl (eRI σ b)) (md_believes_J44 σ   v1 v3 v4 t0) := by
  unfold md_believes_J44
  refine ev_istore (ls2 := [some (.ref 62), some (.int v1), none, some (.int v3), some (.int v4), some (.int t0)]) iX5_believes_44 (Nat.le_of_ble_eq_true rfl) (Nat.le_of_ble_eq_true rfl) rfl rfl ?_
  refine ev_aload_n iX5_believes_46 rfl (by decide) rfl ?_
  refine ev_iload_n iX5_believes_47 rfl rfl ?_
  refine ev_iconst iX5_believes_48 kI_0 ?_
  refine ev_VRI iX5_believes_49 kV_X5_122 (c_md_personIs σ v1 0) rc_62 rfl rfl (Nat.le_of_ble_eq_true rfl) (sg_fitL (by decide) (Nat.le_of_ble_eq_true rfl)) (fun r3 => ?_)
  refine ev_table (dt := 137) [92, 112, 115, 92, 137, 94] iX5_believes_52 rfl rfl ⟨rfl, rfl, rfl, rfl, rfl, rfl, rfl, rfl, rfl, rfl, rfl, rfl, trivial⟩ ?_ ⟨?_, ?_, ?_, ?_, ?_, ?_, trivial⟩
  · refine ev_iload iX5_believes_137 rfl ?_
    refine ev_nar (fun hn => ?_)
    exact ev_iret iX5_believes_139 rfl (narG rfl hn)
  · refine ev_iconst iX5_believes_92 kI_1 ?_
    exact ev_iret iX5_believes_93 rfl (fun ty _ => nar1 ty)
  · refine ev_iload iX5_believes_112 rfl ?_
    refine ev_nar (fun hn => ?_)
    exact ev_iret iX5_believes_114 rfl (narG rfl hn)
  · refine ev_iload iX5_believes_115 rfl ?_
    refine ev_if_eq iX5_believes_117 ?_ ?_
    · refine ev_iconst iX5_believes_135 kI_0 ?_
      exact ev_iret iX5_believes_136 rfl (fun ty _ => nar0 ty)
    · refine ev_aload_n iX5_believes_120 rfl (by decide) rfl ?_
      refine ev_getR (k1 := 63) 5 0 iX5_believes_121 kF_X5_9 O_62 rfl (by decide) ?_
      refine ev_iconst iX5_believes_124 kI_0 ?_
      refine ev_ialdK 0 iX5_believes_125 A_63 rfl rfl ?_
      refine ev_iconst iX5_believes_126 kI_2 ?_
      refine ev_iremK iX5_believes_127 (by decide) ?_
      refine ev_if_ne iX5_believes_128 ?_ ?_
      · refine ev_iconst iX5_believes_131 kI_1 ?_
        refine ev_goto iX5_believes_132 ?_
        exact ev_iret iX5_believes_136 rfl (fun ty _ => nar1 ty)
      · refine ev_iconst iX5_believes_135 kI_0 ?_
        exact ev_iret iX5_believes_136 rfl (fun ty _ => nar0 ty)
  · refine ev_iconst iX5_believes_92 kI_1 ?_
    exact ev_iret iX5_believes_93 rfl (fun ty _ => nar1 ty)
  · refine ev_iload iX5_believes_137 rfl ?_
    refine ev_nar (fun hn => ?_)
    exact ev_iret iX5_believes_139 rfl (narG rfl hn)
  · refine ev_iload iX5_believes_94 rfl ?_
    refine ev_if_ne iX5_believes_96 ?_ ?_
    · refine ev_iload_n iX5_believes_99 rfl rfl ?_
      refine ev_iconst iX5_believes_100 kI_2 ?_
      refine ev_iremK iX5_believes_101 (by decide) ?_
      refine ev_iconst iX5_believes_102 kI_1 ?_
      refine ev_icmp_ne iX5_believes_103 ?_ ?_
      · refine ev_iconst iX5_believes_106 kI_1 ?_
        refine ev_goto iX5_believes_107 ?_
        exact ev_iret iX5_believes_111 rfl (fun ty _ => nar1 ty)
      · refine ev_iconst iX5_believes_110 kI_0 ?_
        exact ev_iret iX5_believes_111 rfl (fun ty _ => nar0 ty)
    · refine ev_iconst iX5_believes_106 kI_1 ?_
      refine ev_goto iX5_believes_107 ?_
      exact ev_iret iX5_believes_111 rfl (fun ty _ => nar1 ty)
def md_believes_J43 (σ : sg_S)   (v1 : Int32) (v3 : Int32) (v4 : Int32) : Option Int32 :=
  md_believes_J44 σ v1 v3 v4 0
set_option maxRecDepth 20000 in
set_option maxHeartbeats 2000000 in
theorem e_md_believes_J43 (σ : sg_S)   (v1 : Int32) (v3 : Int32) (v4 : Int32)  : Ev mX5_believes (rmL 2) 43 [some (.ref 62), some (.int v1), none, some (.int v3), some (.int v4), none] [] σ (fun b => Sum.inl (eRI σ b)) (md_believes_J43 σ   v1 v3 v4) := by
  unfold md_believes_J43
  refine ev_iconst iX5_believes_43 kI_0 ?_
  exact ev_less (e_md_believes_J44 σ   v1 v3 v4 0 ) ⟨rfl, rfl, rfl, rfl, trivial⟩
def md_believes_J22 (σ : sg_S)   (v1 : Int32) (v2 : Int32) (v3 : Int32) (t0 : Int32) : Option Int32 :=
  (if t0 = 0 then md_believes_J43 σ v1 v3 t0 else ((md_sayingIs σ v2 0).bind fun r4 => (if r4 = v1 then md_believes_J43 σ v1 v3 t0 else md_believes_J44 σ v1 v3 t0 1)))
set_option maxRecDepth 20000 in
set_option maxHeartbeats 2000000 in
theorem e_md_believes_J22 (σ : sg_S)   (v1 : Int32) (v2 : Int32) (v3 : Int32) (t0 : Int32)  : Ev mX5_believes (rmL 2) 22 [some (.ref 62), some (.int v1), some (.int v2), some (.int v3), none, none] [.int t0] σ (fun b => Sum.inl (eRI σ b)) (md_believes_J22 σ   v1 v2 v3 t0) := by
  unfold md_believes_J22
  refine ev_istore (ls2 := [some (.ref 62), some (.int v1), some (.int v2), some (.int v3), some (.int t0), none]) iX5_believes_22 (Nat.le_of_ble_eq_true rfl) (Nat.le_of_ble_eq_true rfl) rfl rfl ?_
  refine ev_iload iX5_believes_24 rfl ?_
  refine ev_if_eq iX5_believes_26 ?_ ?_
  · exact ev_less (e_md_believes_J43 σ   v1 v3 t0 ) ⟨rfl, rfl, rfl, rfl, trivial⟩
  · refine ev_aload_n iX5_believes_29 rfl (by decide) rfl ?_
    refine ev_iload_n iX5_believes_30 rfl rfl ?_
    refine ev_iconst iX5_believes_31 kI_0 ?_
    refine ev_VRI iX5_believes_32 kV_X5_112 (c_md_sayingIs σ v2 0) rc_62 rfl rfl (Nat.le_of_ble_eq_true rfl) (sg_fitL (by decide) (Nat.le_of_ble_eq_true rfl)) (fun r4 => ?_)
    refine ev_iload_n iX5_believes_35 rfl rfl ?_
    refine ev_icmp_eq iX5_believes_36 ?_ ?_
    · exact ev_less (e_md_believes_J43 σ   v1 v3 t0 ) ⟨rfl, rfl, rfl, rfl, trivial⟩
    · refine ev_iconst iX5_believes_39 kI_1 ?_
      refine ev_goto iX5_believes_40 ?_
      exact ev_less (e_md_believes_J44 σ   v1 v3 t0 1 ) ⟨rfl, rfl, rfl, rfl, trivial⟩
def md_believes (σ : sg_S) (a1 : Int32) (a2 : Int32) : Option Int32 :=
  ((md_sayingIs σ a2 1).bind fun r1 => ((md_personIs σ a1 1).bind fun r2 => (if r2 < r1 then md_believes_J22 σ a1 a2 r1 0 else md_believes_J22 σ a1 a2 r1 1)))
set_option maxRecDepth 20000 in
set_option maxHeartbeats 2000000 in
theorem c_md_believes (σ : sg_S) (a1 : Int32) (a2 : Int32)  : sg_Call yX5_believes mX5_believes (rmL 2) [.ref 62, .int a1, .int a2] σ (eRI σ) (md_believes σ a1 a2) := by
  refine sg_call_of (by decide +kernel) rfl (Nat.le_of_ble_eq_true rfl) rfl (fun _ => rfl) ?_
  refine ev_less (ls2 := [some (.ref 62), some (.int a1), some (.int a2), none, none, none]) ?_ ⟨rfl, rfl, rfl, trivial⟩
  unfold md_believes
  refine ev_aload_n iX5_believes_0 rfl (by decide) rfl ?_
  refine ev_iload_n iX5_believes_1 rfl rfl ?_
  refine ev_iconst iX5_believes_2 kI_1 ?_
  refine ev_VRI iX5_believes_3 kV_X5_112 (c_md_sayingIs σ a2 1) rc_62 rfl rfl (Nat.le_of_ble_eq_true rfl) (sg_fitL (by decide) (Nat.le_of_ble_eq_true rfl)) (fun r1 => ?_)
  refine ev_istore_n (ls2 := [some (.ref 62), some (.int a1), some (.int a2), some (.int r1), none, none]) iX5_believes_6 rfl (Nat.le_of_ble_eq_true rfl) (Nat.le_of_ble_eq_true rfl) rfl rfl ?_
  refine ev_iload_n iX5_believes_7 rfl rfl ?_
  refine ev_aload_n iX5_believes_8 rfl (by decide) rfl ?_
  refine ev_iload_n iX5_believes_9 rfl rfl ?_
  refine ev_iconst iX5_believes_10 kI_1 ?_
  refine ev_VRI iX5_believes_11 kV_X5_122 (c_md_personIs σ a1 1) rc_62 rfl rfl (Nat.le_of_ble_eq_true rfl) (sg_fitL (by decide) (Nat.le_of_ble_eq_true rfl)) (fun r2 => ?_)
  refine ev_icmp_gt iX5_believes_14 ?_ ?_
  · refine ev_iconst iX5_believes_21 kI_0 ?_
    exact ev_less (e_md_believes_J22 σ   a1 a2 r1 0 ) ⟨rfl, rfl, rfl, rfl, trivial⟩
  · refine ev_iconst iX5_believes_17 kI_1 ?_
    refine ev_goto iX5_believes_18 ?_
    exact ev_less (e_md_believes_J22 σ   a1 a2 r1 1 ) ⟨rfl, rfl, rfl, rfl, trivial⟩
def md_names (σ : sg_S) (a1 : Int32) (a2 : Int32) : Option Int32 :=
  ((md_personIs σ a1 0).bind fun r1 => (if r1 = 1 then some 8 else (if r1 = 4 then some 8 else (if r1 = 5 then some 8 else some a2))))
set_option maxRecDepth 20000 in
set_option maxHeartbeats 2000000 in
theorem c_md_names (σ : sg_S) (a1 : Int32) (a2 : Int32)  : sg_Call yX5_names mX5_names (rmL 2) [.ref 62, .int a1, .int a2] σ (eRI σ) (md_names σ a1 a2) := by
  refine sg_call_of (by decide +kernel) rfl (Nat.le_of_ble_eq_true rfl) rfl (fun _ => rfl) ?_
  refine ev_less (ls2 := [some (.ref 62), some (.int a1), some (.int a2), none]) ?_ ⟨rfl, rfl, rfl, trivial⟩
  unfold md_names
  refine ev_aload_n iX5_names_0 rfl (by decide) rfl ?_
  refine ev_iload_n iX5_names_1 rfl rfl ?_
  refine ev_iconst iX5_names_2 kI_0 ?_
  refine ev_VRI iX5_names_3 kV_X5_122 (c_md_personIs σ a1 0) rc_62 rfl rfl (Nat.le_of_ble_eq_true rfl) (sg_fitL (by decide) (Nat.le_of_ble_eq_true rfl)) (fun r1 => ?_)
  refine ev_istore_n (ls2 := [some (.ref 62), some (.int a1), some (.int a2), some (.int r1)]) iX5_names_6 rfl (Nat.le_of_ble_eq_true rfl) (Nat.le_of_ble_eq_true rfl) rfl rfl ?_
  refine ev_iload_n iX5_names_7 rfl rfl ?_
  refine ev_iconst iX5_names_8 kI_1 ?_
  refine ev_icmp_eq iX5_names_9 ?_ ?_
  · refine ev_bipush iX5_names_22 kB_8 ?_
    refine ev_goto iX5_names_24 ?_
    exact ev_iret iX5_names_28 rfl (narI rfl _)
  · refine ev_iload_n iX5_names_12 rfl rfl ?_
    refine ev_iconst iX5_names_13 kI_4 ?_
    refine ev_icmp_eq iX5_names_14 ?_ ?_
    · refine ev_bipush iX5_names_22 kB_8 ?_
      refine ev_goto iX5_names_24 ?_
      exact ev_iret iX5_names_28 rfl (narI rfl _)
    · refine ev_iload_n iX5_names_17 rfl rfl ?_
      refine ev_iconst iX5_names_18 kI_5 ?_
      refine ev_icmp_ne iX5_names_19 ?_ ?_
      · refine ev_bipush iX5_names_22 kB_8 ?_
        refine ev_goto iX5_names_24 ?_
        exact ev_iret iX5_names_28 rfl (narI rfl _)
      · refine ev_iload_n iX5_names_27 rfl rfl ?_
        exact ev_iret iX5_names_28 rfl (narI rfl _)
def md_pays (σ : sg_S) (a1 : Int32) (a2 : Int32) : Option Int32 :=
  ((md_personIs σ a1 0).bind fun r1 => (sg_sw r1 [(1, some (2 * a2)), (2, some (a2 + 2)), (3, some (a2 + 7)), (4, some 1), (5, some a2), (6, some 0)] (some a2)))
set_option maxRecDepth 20000 in
set_option maxHeartbeats 2000000 in
theorem c_md_pays (σ : sg_S) (a1 : Int32) (a2 : Int32)  : sg_Call yX5_pays mX5_pays (rmL 2) [.ref 62, .int a1, .int a2] σ (eRI σ) (md_pays σ a1 a2) := by
  refine sg_call_of (by decide +kernel) rfl (Nat.le_of_ble_eq_true rfl) rfl (fun _ => rfl) ?_
  refine ev_less (ls2 := [some (.ref 62), some (.int a1), some (.int a2)]) ?_ ⟨rfl, rfl, rfl, trivial⟩
  unfold md_pays
  refine ev_aload_n iX5_pays_0 rfl (by decide) rfl ?_
  refine ev_iload_n iX5_pays_1 rfl rfl ?_
  refine ev_iconst iX5_pays_2 kI_0 ?_
  refine ev_VRI iX5_pays_3 kV_X5_122 (c_md_personIs σ a1 0) rc_62 rfl rfl (Nat.le_of_ble_eq_true rfl) (sg_fitL (by decide) (Nat.le_of_ble_eq_true rfl)) (fun r1 => ?_)
  refine ev_table (dt := 61) [44, 50, 54, 59, 61, 48] iX5_pays_6 rfl rfl ⟨rfl, rfl, rfl, rfl, rfl, rfl, rfl, rfl, rfl, rfl, rfl, rfl, trivial⟩ ?_ ⟨?_, ?_, ?_, ?_, ?_, ?_, trivial⟩
  · refine ev_iload_n iX5_pays_61 rfl rfl ?_
    exact ev_iret iX5_pays_62 rfl (narI rfl _)
  · refine ev_iconst iX5_pays_44 kI_2 ?_
    refine ev_iload_n iX5_pays_45 rfl rfl ?_
    refine ev_imul iX5_pays_46 ?_
    exact ev_iret iX5_pays_47 rfl (narI rfl _)
  · refine ev_iload_n iX5_pays_50 rfl rfl ?_
    refine ev_iconst iX5_pays_51 kI_2 ?_
    refine ev_iadd iX5_pays_52 ?_
    exact ev_iret iX5_pays_53 rfl (narI rfl _)
  · refine ev_iload_n iX5_pays_54 rfl rfl ?_
    refine ev_bipush iX5_pays_55 kB_7 ?_
    refine ev_iadd iX5_pays_57 ?_
    exact ev_iret iX5_pays_58 rfl (narI rfl _)
  · refine ev_iconst iX5_pays_59 kI_1 ?_
    exact ev_iret iX5_pays_60 rfl (fun ty _ => nar1 ty)
  · refine ev_iload_n iX5_pays_61 rfl rfl ?_
    exact ev_iret iX5_pays_62 rfl (narI rfl _)
  · refine ev_iconst iX5_pays_48 kI_0 ?_
    exact ev_iret iX5_pays_49 rfl (fun ty _ => nar0 ty)
def md_mayTalk (σ : sg_S) (a1 : Int32) (a2 : Int32) : Option Int32 :=
  ((md_personIs σ a1 2).bind fun r1 => (if r1 = 0 then ((md_personIs σ a2 2).bind fun r2 => (if r2 = 0 then some 1 else some 0)) else some 0))
set_option maxRecDepth 20000 in
set_option maxHeartbeats 2000000 in
theorem c_md_mayTalk (σ : sg_S) (a1 : Int32) (a2 : Int32)  : sg_Call yX5_mayTalk mX5_mayTalk (rmL 2) [.ref 62, .int a1, .int a2] σ (eRI σ) (md_mayTalk σ a1 a2) := by
  refine sg_call_of (by decide +kernel) rfl (Nat.le_of_ble_eq_true rfl) rfl (fun _ => rfl) ?_
  refine ev_less (ls2 := [some (.ref 62), some (.int a1), some (.int a2)]) ?_ ⟨rfl, rfl, rfl, trivial⟩
  unfold md_mayTalk
  refine ev_aload_n iX5_mayTalk_0 rfl (by decide) rfl ?_
  refine ev_iload_n iX5_mayTalk_1 rfl rfl ?_
  refine ev_iconst iX5_mayTalk_2 kI_2 ?_
  refine ev_VRI iX5_mayTalk_3 kV_X5_122 (c_md_personIs σ a1 2) rc_62 rfl rfl (Nat.le_of_ble_eq_true rfl) (sg_fitL (by decide) (Nat.le_of_ble_eq_true rfl)) (fun r1 => ?_)
  refine ev_if_ne iX5_mayTalk_6 ?_ ?_
  · refine ev_aload_n iX5_mayTalk_9 rfl (by decide) rfl ?_
    refine ev_iload_n iX5_mayTalk_10 rfl rfl ?_
    refine ev_iconst iX5_mayTalk_11 kI_2 ?_
    refine ev_VRI iX5_mayTalk_12 kV_X5_122 (c_md_personIs σ a2 2) rc_62 rfl rfl (Nat.le_of_ble_eq_true rfl) (sg_fitL (by decide) (Nat.le_of_ble_eq_true rfl)) (fun r2 => ?_)
    refine ev_if_ne iX5_mayTalk_15 ?_ ?_
    · refine ev_iconst iX5_mayTalk_18 kI_1 ?_
      refine ev_goto iX5_mayTalk_19 ?_
      exact ev_iret iX5_mayTalk_23 rfl (fun ty _ => nar1 ty)
    · refine ev_iconst iX5_mayTalk_22 kI_0 ?_
      exact ev_iret iX5_mayTalk_23 rfl (fun ty _ => nar0 ty)
  · refine ev_iconst iX5_mayTalk_22 kI_0 ?_
    exact ev_iret iX5_mayTalk_23 rfl (fun ty _ => nar0 ty)
def md_theNobody_11_X (σ : sg_S)   : ((Int32 × Int32) ⊕ Int32) → sg_X
  | .inl a => .inr (11, [some (.ref 62), some (.int a.1), some (.int a.2)], σ)
  | .inr e => .inr (37, [none, some (.int e), none], σ)
def md_theNobody_11_L (σ : sg_S)   (a : (Int32 × Int32)) : Option ((Int32 × Int32) ⊕ Int32) :=
  (if a.2 < 0 then some (.inr a.1) else ((md_personIs σ a.2 0).bind fun r2 => (if r2 = 4 then (sg_leti (a.2 + (-1)) (fun x3 => some (.inl (a.2, x3)))) else (sg_leti (a.2 + (-1)) (fun x4 => some (.inl (a.1, x4)))))))
set_option maxRecDepth 20000 in
set_option maxHeartbeats 2000000 in
theorem e_md_theNobody_11_L (σ : sg_S)    : ∀ a : (Int32 × Int32), Ev mX5_theNobody (rmL 2) 11 [some (.ref 62), some (.int a.1), some (.int a.2)] [] σ (md_theNobody_11_X σ  ) (md_theNobody_11_L σ   a) := by
  intro a
  unfold md_theNobody_11_L
  refine ev_iload_n iX5_theNobody_11 rfl rfl ?_
  refine ev_if_lt iX5_theNobody_12 ?_ ?_
  · exact ev_exit rfl ⟨rfl, trivial⟩
  · refine ev_aload_n iX5_theNobody_15 rfl (by decide) rfl ?_
    refine ev_iload_n iX5_theNobody_16 rfl rfl ?_
    refine ev_iconst iX5_theNobody_17 kI_0 ?_
    refine ev_VRI iX5_theNobody_18 kV_X5_122 (c_md_personIs σ a.2 0) rc_62 rfl rfl (Nat.le_of_ble_eq_true rfl) (sg_fitL (by decide) (Nat.le_of_ble_eq_true rfl)) (fun r2 => ?_)
    refine ev_iconst iX5_theNobody_21 kI_4 ?_
    refine ev_icmp_ne iX5_theNobody_22 ?_ ?_
    · refine ev_iload_n iX5_theNobody_25 rfl rfl ?_
      refine ev_goto iX5_theNobody_26 ?_
      refine ev_istore_n (ls2 := [some (.ref 62), some (.int a.2), some (.int a.2)]) iX5_theNobody_30 rfl (Nat.le_of_ble_eq_true rfl) (Nat.le_of_ble_eq_true rfl) rfl rfl ?_
      refine ev_iincN (fun x3 => [some (.ref 62), some (.int a.2), some (.int x3)]) iX5_theNobody_31 rfl kI_m1 (Nat.le_of_ble_eq_true rfl) rfl (fun _ => rfl) (fun x3 => ?_)
      refine ev_goto iX5_theNobody_34 ?_
      exact ev_exit rfl ⟨rfl, rfl, rfl, trivial⟩
    · refine ev_iload_n iX5_theNobody_29 rfl rfl ?_
      refine ev_istore_n (ls2 := [some (.ref 62), some (.int a.1), some (.int a.2)]) iX5_theNobody_30 rfl (Nat.le_of_ble_eq_true rfl) (Nat.le_of_ble_eq_true rfl) rfl rfl ?_
      refine ev_iincN (fun x4 => [some (.ref 62), some (.int a.1), some (.int x4)]) iX5_theNobody_31 rfl kI_m1 (Nat.le_of_ble_eq_true rfl) rfl (fun _ => rfl) (fun x4 => ?_)
      refine ev_goto iX5_theNobody_34 ?_
      exact ev_exit rfl ⟨rfl, rfl, rfl, trivial⟩
def md_theNobody (σ : sg_S)  : Option Int32 :=
  sg_leti ((σ 63 1) - 1) (fun x1 => ((sg_lp (md_theNobody_11_L σ  ) 1000 ((-1), x1)).bind fun e7 => some e7))
set_option maxRecDepth 20000 in
set_option maxHeartbeats 2000000 in
theorem c_md_theNobody (σ : sg_S)   : sg_Call yX5_theNobody mX5_theNobody (rmL 2) [.ref 62] σ (eRI σ) (md_theNobody σ ) := by
  refine sg_call_of (by decide +kernel) rfl (Nat.le_of_ble_eq_true rfl) rfl (fun _ => rfl) ?_
  refine ev_less (ls2 := [some (.ref 62), none, none]) ?_ ⟨rfl, trivial⟩
  unfold md_theNobody
  refine ev_iconst iX5_theNobody_0 kI_m1 ?_
  refine ev_istore_n (ls2 := [some (.ref 62), some (.int (-1)), none]) iX5_theNobody_1 rfl (Nat.le_of_ble_eq_true rfl) (Nat.le_of_ble_eq_true rfl) rfl rfl ?_
  refine ev_aload_n iX5_theNobody_2 rfl (by decide) rfl ?_
  refine ev_getR (k1 := 63) 5 0 iX5_theNobody_3 kF_X5_9 O_62 rfl (by decide) ?_
  refine ev_iconst iX5_theNobody_6 kI_1 ?_
  refine ev_ialdK 1 iX5_theNobody_7 A_63 rfl rfl ?_
  refine ev_iconst iX5_theNobody_8 kI_1 ?_
  refine ev_isub iX5_theNobody_9 ?_
  refine ev_leti (fun x1 => ?_)
  refine ev_istore_n (ls2 := [some (.ref 62), some (.int (-1)), some (.int x1)]) iX5_theNobody_10 rfl (Nat.le_of_ble_eq_true rfl) (Nat.le_of_ble_eq_true rfl) rfl rfl ?_
  refine ev_less (ls2 := [some (.ref 62), some (.int (-1)), some (.int x1)]) ?_ ⟨rfl, rfl, rfl, trivial⟩
  refine ev_seq1 37 (fun z6 => [none, some (.int z6), none]) (fun _ => σ) (ev_loop (embB := md_theNobody_11_X σ  ) (ex := fun b => md_theNobody_11_X σ   (.inr b)) 11 (fun z5 => [some (.ref 62), some (.int z5.1), some (.int z5.2)]) (fun _ => σ) (fun _ => rfl) (fun _ => rfl) (e_md_theNobody_11_L σ   ) 1000 ((-1), x1)) (fun _ => rfl) (fun e7 => ?_)
  refine ev_iload_n iX5_theNobody_37 rfl rfl ?_
  exact ev_iret iX5_theNobody_38 rfl (narI rfl _)
def md_heardInAll_4_X (σ : sg_S)   : ((Int32 × Int32) ⊕ Int32) → sg_X
  | .inl a => .inr (4, [some (.ref 62), some (.int a.1), some (.int a.2)], σ)
  | .inr e => .inr (32, [none, some (.int e), none], σ)
def md_heardInAll_4_L (σ : sg_S)   (a : (Int32 × Int32)) : Option ((Int32 × Int32) ⊕ Int32) :=
  (if a.2 < (σ 63 3) then ((md_sayingIs σ a.2 2).bind fun r1 => ((md_bits σ r1).bind fun r2 => sg_leti (a.1 + r2) (fun x3 => some (.inl (x3, (a.2 + 1)))))) else some (.inr a.1))
set_option maxRecDepth 20000 in
set_option maxHeartbeats 2000000 in
theorem e_md_heardInAll_4_L (σ : sg_S)    : ∀ a : (Int32 × Int32), Ev mX5_heardInAll (rmL 2) 4 [some (.ref 62), some (.int a.1), some (.int a.2)] [] σ (md_heardInAll_4_X σ  ) (md_heardInAll_4_L σ   a) := by
  intro a
  unfold md_heardInAll_4_L
  refine ev_iload_n iX5_heardInAll_4 rfl rfl ?_
  refine ev_aload_n iX5_heardInAll_5 rfl (by decide) rfl ?_
  refine ev_getR (k1 := 63) 5 0 iX5_heardInAll_6 kF_X5_9 O_62 rfl (by decide) ?_
  refine ev_iconst iX5_heardInAll_9 kI_3 ?_
  refine ev_ialdK 3 iX5_heardInAll_10 A_63 rfl rfl ?_
  refine ev_icmp_ge iX5_heardInAll_11 ?_ ?_
  · refine ev_iload_n iX5_heardInAll_14 rfl rfl ?_
    refine ev_aload_n iX5_heardInAll_15 rfl (by decide) rfl ?_
    refine ev_iload_n iX5_heardInAll_16 rfl rfl ?_
    refine ev_iconst iX5_heardInAll_17 kI_2 ?_
    refine ev_VRI iX5_heardInAll_18 kV_X5_112 (c_md_sayingIs σ a.2 2) rc_62 rfl rfl (Nat.le_of_ble_eq_true rfl) (sg_fitL (by decide) (Nat.le_of_ble_eq_true rfl)) (fun r1 => ?_)
    refine ev_SRI iX5_heardInAll_21 kS_X5_186 (c_md_bits σ r1) rfl rfl (Nat.le_of_ble_eq_true rfl) (sg_fitL (by decide) (Nat.le_of_ble_eq_true rfl)) (fun r2 => ?_)
    refine ev_iadd iX5_heardInAll_24 ?_
    refine ev_leti (fun x3 => ?_)
    refine ev_istore_n (ls2 := [some (.ref 62), some (.int x3), some (.int a.2)]) iX5_heardInAll_25 rfl (Nat.le_of_ble_eq_true rfl) (Nat.le_of_ble_eq_true rfl) rfl rfl ?_
    refine ev_iinc (v := (a.2 + 1)) (ls2 := [some (.ref 62), some (.int x3), some (.int (a.2 + 1))]) iX5_heardInAll_26 rfl (by rw [kI_1]) (Nat.le_of_ble_eq_true rfl) rfl rfl ?_
    refine ev_goto iX5_heardInAll_29 ?_
    exact ev_exit rfl ⟨rfl, rfl, rfl, trivial⟩
  · exact ev_exit rfl ⟨rfl, trivial⟩
def md_heardInAll (σ : sg_S)  : Option Int32 :=
  ((sg_lp (md_heardInAll_4_L σ  ) 1000 (0, 0)).bind fun e6 => some e6)
set_option maxRecDepth 20000 in
set_option maxHeartbeats 2000000 in
theorem c_md_heardInAll (σ : sg_S)   : sg_Call yX5_heardInAll mX5_heardInAll (rmL 2) [.ref 62] σ (eRI σ) (md_heardInAll σ ) := by
  refine sg_call_of (by decide +kernel) rfl (Nat.le_of_ble_eq_true rfl) rfl (fun _ => rfl) ?_
  refine ev_less (ls2 := [some (.ref 62), none, none]) ?_ ⟨rfl, trivial⟩
  unfold md_heardInAll
  refine ev_iconst iX5_heardInAll_0 kI_0 ?_
  refine ev_istore_n (ls2 := [some (.ref 62), some (.int 0), none]) iX5_heardInAll_1 rfl (Nat.le_of_ble_eq_true rfl) (Nat.le_of_ble_eq_true rfl) rfl rfl ?_
  refine ev_iconst iX5_heardInAll_2 kI_0 ?_
  refine ev_istore_n (ls2 := [some (.ref 62), some (.int 0), some (.int 0)]) iX5_heardInAll_3 rfl (Nat.le_of_ble_eq_true rfl) (Nat.le_of_ble_eq_true rfl) rfl rfl ?_
  refine ev_less (ls2 := [some (.ref 62), some (.int 0), some (.int 0)]) ?_ ⟨rfl, rfl, rfl, trivial⟩
  refine ev_seq1 32 (fun z5 => [none, some (.int z5), none]) (fun _ => σ) (ev_loop (embB := md_heardInAll_4_X σ  ) (ex := fun b => md_heardInAll_4_X σ   (.inr b)) 4 (fun z4 => [some (.ref 62), some (.int z4.1), some (.int z4.2)]) (fun _ => σ) (fun _ => rfl) (fun _ => rfl) (e_md_heardInAll_4_L σ   ) 1000 (0, 0)) (fun _ => rfl) (fun e6 => ?_)
  refine ev_iload_n iX5_heardInAll_32 rfl rfl ?_
  exact ev_iret iX5_heardInAll_33 rfl (narI rfl _)
def md_allHeard (σ : sg_S) (a1 : Int32) : Option Int32 :=
  ((md_sayingIs σ a1 2).bind fun r1 => (if r1 = ((jshl 1 (σ 63 1)) - 1) then some 1 else some 0))
set_option maxRecDepth 20000 in
set_option maxHeartbeats 2000000 in
theorem c_md_allHeard (σ : sg_S) (a1 : Int32)  : sg_Call yX5_allHeard mX5_allHeard (rmL 2) [.ref 62, .int a1] σ (eRI σ) (md_allHeard σ a1) := by
  refine sg_call_of (by decide +kernel) rfl (Nat.le_of_ble_eq_true rfl) rfl (fun _ => rfl) ?_
  refine ev_less (ls2 := [some (.ref 62), some (.int a1)]) ?_ ⟨rfl, rfl, trivial⟩
  unfold md_allHeard
  refine ev_aload_n iX5_allHeard_0 rfl (by decide) rfl ?_
  refine ev_iload_n iX5_allHeard_1 rfl rfl ?_
  refine ev_iconst iX5_allHeard_2 kI_2 ?_
  refine ev_VRI iX5_allHeard_3 kV_X5_112 (c_md_sayingIs σ a1 2) rc_62 rfl rfl (Nat.le_of_ble_eq_true rfl) (sg_fitL (by decide) (Nat.le_of_ble_eq_true rfl)) (fun r1 => ?_)
  refine ev_iconst iX5_allHeard_6 kI_1 ?_
  refine ev_aload_n iX5_allHeard_7 rfl (by decide) rfl ?_
  refine ev_getR (k1 := 63) 5 0 iX5_allHeard_8 kF_X5_9 O_62 rfl (by decide) ?_
  refine ev_iconst iX5_allHeard_11 kI_1 ?_
  refine ev_ialdK 1 iX5_allHeard_12 A_63 rfl rfl ?_
  refine ev_ishl iX5_allHeard_13 ?_
  refine ev_iconst iX5_allHeard_14 kI_1 ?_
  refine ev_isub iX5_allHeard_15 ?_
  refine ev_icmp_ne iX5_allHeard_16 ?_ ?_
  · refine ev_iconst iX5_allHeard_19 kI_1 ?_
    refine ev_goto iX5_allHeard_20 ?_
    exact ev_iret iX5_allHeard_24 rfl (fun ty _ => nar1 ty)
  · refine ev_iconst iX5_allHeard_23 kI_0 ?_
    exact ev_iret iX5_allHeard_24 rfl (fun ty _ => nar0 ty)
def md_blamedInAll_4_X (σ : sg_S)   : ((Int32 × Int32) ⊕ Int32) → sg_X
  | .inl a => .inr (4, [some (.ref 62), some (.int a.1), some (.int a.2)], σ)
  | .inr e => .inr (29, [none, some (.int e), none], σ)
def md_blamedInAll_4_L (σ : sg_S)   (a : (Int32 × Int32)) : Option ((Int32 × Int32) ⊕ Int32) :=
  (if a.2 < (σ 63 1) then ((md_personIs σ a.2 3).bind fun r1 => sg_leti (a.1 + r1) (fun x2 => some (.inl (x2, (a.2 + 1))))) else some (.inr a.1))
set_option maxRecDepth 20000 in
set_option maxHeartbeats 2000000 in
theorem e_md_blamedInAll_4_L (σ : sg_S)    : ∀ a : (Int32 × Int32), Ev mX5_blamedInAll (rmL 2) 4 [some (.ref 62), some (.int a.1), some (.int a.2)] [] σ (md_blamedInAll_4_X σ  ) (md_blamedInAll_4_L σ   a) := by
  intro a
  unfold md_blamedInAll_4_L
  refine ev_iload_n iX5_blamedInAll_4 rfl rfl ?_
  refine ev_aload_n iX5_blamedInAll_5 rfl (by decide) rfl ?_
  refine ev_getR (k1 := 63) 5 0 iX5_blamedInAll_6 kF_X5_9 O_62 rfl (by decide) ?_
  refine ev_iconst iX5_blamedInAll_9 kI_1 ?_
  refine ev_ialdK 1 iX5_blamedInAll_10 A_63 rfl rfl ?_
  refine ev_icmp_ge iX5_blamedInAll_11 ?_ ?_
  · refine ev_iload_n iX5_blamedInAll_14 rfl rfl ?_
    refine ev_aload_n iX5_blamedInAll_15 rfl (by decide) rfl ?_
    refine ev_iload_n iX5_blamedInAll_16 rfl rfl ?_
    refine ev_iconst iX5_blamedInAll_17 kI_3 ?_
    refine ev_VRI iX5_blamedInAll_18 kV_X5_122 (c_md_personIs σ a.2 3) rc_62 rfl rfl (Nat.le_of_ble_eq_true rfl) (sg_fitL (by decide) (Nat.le_of_ble_eq_true rfl)) (fun r1 => ?_)
    refine ev_iadd iX5_blamedInAll_21 ?_
    refine ev_leti (fun x2 => ?_)
    refine ev_istore_n (ls2 := [some (.ref 62), some (.int x2), some (.int a.2)]) iX5_blamedInAll_22 rfl (Nat.le_of_ble_eq_true rfl) (Nat.le_of_ble_eq_true rfl) rfl rfl ?_
    refine ev_iinc (v := (a.2 + 1)) (ls2 := [some (.ref 62), some (.int x2), some (.int (a.2 + 1))]) iX5_blamedInAll_23 rfl (by rw [kI_1]) (Nat.le_of_ble_eq_true rfl) rfl rfl ?_
    refine ev_goto iX5_blamedInAll_26 ?_
    exact ev_exit rfl ⟨rfl, rfl, rfl, trivial⟩
  · exact ev_exit rfl ⟨rfl, trivial⟩
def md_blamedInAll (σ : sg_S)  : Option Int32 :=
  ((sg_lp (md_blamedInAll_4_L σ  ) 1000 (0, 0)).bind fun e5 => some e5)
set_option maxRecDepth 20000 in
set_option maxHeartbeats 2000000 in
theorem c_md_blamedInAll (σ : sg_S)   : sg_Call yX5_blamedInAll mX5_blamedInAll (rmL 2) [.ref 62] σ (eRI σ) (md_blamedInAll σ ) := by
  refine sg_call_of (by decide +kernel) rfl (Nat.le_of_ble_eq_true rfl) rfl (fun _ => rfl) ?_
  refine ev_less (ls2 := [some (.ref 62), none, none]) ?_ ⟨rfl, trivial⟩
  unfold md_blamedInAll
  refine ev_iconst iX5_blamedInAll_0 kI_0 ?_
  refine ev_istore_n (ls2 := [some (.ref 62), some (.int 0), none]) iX5_blamedInAll_1 rfl (Nat.le_of_ble_eq_true rfl) (Nat.le_of_ble_eq_true rfl) rfl rfl ?_
  refine ev_iconst iX5_blamedInAll_2 kI_0 ?_
  refine ev_istore_n (ls2 := [some (.ref 62), some (.int 0), some (.int 0)]) iX5_blamedInAll_3 rfl (Nat.le_of_ble_eq_true rfl) (Nat.le_of_ble_eq_true rfl) rfl rfl ?_
  refine ev_less (ls2 := [some (.ref 62), some (.int 0), some (.int 0)]) ?_ ⟨rfl, rfl, rfl, trivial⟩
  refine ev_seq1 29 (fun z4 => [none, some (.int z4), none]) (fun _ => σ) (ev_loop (embB := md_blamedInAll_4_X σ  ) (ex := fun b => md_blamedInAll_4_X σ   (.inr b)) 4 (fun z3 => [some (.ref 62), some (.int z3.1), some (.int z3.2)]) (fun _ => σ) (fun _ => rfl) (fun _ => rfl) (e_md_blamedInAll_4_L σ   ) 1000 (0, 0)) (fun _ => rfl) (fun e5 => ?_)
  refine ev_iload_n iX5_blamedInAll_29 rfl rfl ?_
  exact ev_iret iX5_blamedInAll_30 rfl (narI rfl _)
def md_blamedMost_4_X (σ : sg_S)   : ((Int32 × Int32) ⊕ Int32) → sg_X
  | .inl a => .inr (4, [some (.ref 62), some (.int a.1), some (.int a.2)], σ)
  | .inr e => .inr (45, [none, some (.int e), none], σ)
def md_blamedMost_4_L (σ : sg_S)   (a : (Int32 × Int32)) : Option ((Int32 × Int32) ⊕ Int32) :=
  (if a.2 < (σ 63 1) then (if a.1 < 0 then some (.inl (a.2, (a.2 + 1))) else ((md_personIs σ a.2 3).bind fun r1 => ((md_personIs σ a.1 3).bind fun r2 => (if r2 < r1 then some (.inl (a.2, (a.2 + 1))) else some (.inl (a.1, (a.2 + 1))))))) else some (.inr a.1))
set_option maxRecDepth 20000 in
set_option maxHeartbeats 2000000 in
theorem e_md_blamedMost_4_L (σ : sg_S)    : ∀ a : (Int32 × Int32), Ev mX5_blamedMost (rmL 2) 4 [some (.ref 62), some (.int a.1), some (.int a.2)] [] σ (md_blamedMost_4_X σ  ) (md_blamedMost_4_L σ   a) := by
  intro a
  unfold md_blamedMost_4_L
  refine ev_iload_n iX5_blamedMost_4 rfl rfl ?_
  refine ev_aload_n iX5_blamedMost_5 rfl (by decide) rfl ?_
  refine ev_getR (k1 := 63) 5 0 iX5_blamedMost_6 kF_X5_9 O_62 rfl (by decide) ?_
  refine ev_iconst iX5_blamedMost_9 kI_1 ?_
  refine ev_ialdK 1 iX5_blamedMost_10 A_63 rfl rfl ?_
  refine ev_icmp_ge iX5_blamedMost_11 ?_ ?_
  · refine ev_iload_n iX5_blamedMost_14 rfl rfl ?_
    refine ev_if_lt iX5_blamedMost_15 ?_ ?_
    · refine ev_iload_n iX5_blamedMost_33 rfl rfl ?_
      refine ev_goto iX5_blamedMost_34 ?_
      refine ev_istore_n (ls2 := [some (.ref 62), some (.int a.2), some (.int a.2)]) iX5_blamedMost_38 rfl (Nat.le_of_ble_eq_true rfl) (Nat.le_of_ble_eq_true rfl) rfl rfl ?_
      refine ev_iinc (v := (a.2 + 1)) (ls2 := [some (.ref 62), some (.int a.2), some (.int (a.2 + 1))]) iX5_blamedMost_39 rfl (by rw [kI_1]) (Nat.le_of_ble_eq_true rfl) rfl rfl ?_
      refine ev_goto iX5_blamedMost_42 ?_
      exact ev_exit rfl ⟨rfl, rfl, rfl, trivial⟩
    · refine ev_aload_n iX5_blamedMost_18 rfl (by decide) rfl ?_
      refine ev_iload_n iX5_blamedMost_19 rfl rfl ?_
      refine ev_iconst iX5_blamedMost_20 kI_3 ?_
      refine ev_VRI iX5_blamedMost_21 kV_X5_122 (c_md_personIs σ a.2 3) rc_62 rfl rfl (Nat.le_of_ble_eq_true rfl) (sg_fitL (by decide) (Nat.le_of_ble_eq_true rfl)) (fun r1 => ?_)
      refine ev_aload_n iX5_blamedMost_24 rfl (by decide) rfl ?_
      refine ev_iload_n iX5_blamedMost_25 rfl rfl ?_
      refine ev_iconst iX5_blamedMost_26 kI_3 ?_
      refine ev_VRI iX5_blamedMost_27 kV_X5_122 (c_md_personIs σ a.1 3) rc_62 rfl rfl (Nat.le_of_ble_eq_true rfl) (sg_fitL (by decide) (Nat.le_of_ble_eq_true rfl)) (fun r2 => ?_)
      refine ev_icmp_le iX5_blamedMost_30 ?_ ?_
      · refine ev_iload_n iX5_blamedMost_33 rfl rfl ?_
        refine ev_goto iX5_blamedMost_34 ?_
        refine ev_istore_n (ls2 := [some (.ref 62), some (.int a.2), some (.int a.2)]) iX5_blamedMost_38 rfl (Nat.le_of_ble_eq_true rfl) (Nat.le_of_ble_eq_true rfl) rfl rfl ?_
        refine ev_iinc (v := (a.2 + 1)) (ls2 := [some (.ref 62), some (.int a.2), some (.int (a.2 + 1))]) iX5_blamedMost_39 rfl (by rw [kI_1]) (Nat.le_of_ble_eq_true rfl) rfl rfl ?_
        refine ev_goto iX5_blamedMost_42 ?_
        exact ev_exit rfl ⟨rfl, rfl, rfl, trivial⟩
      · refine ev_iload_n iX5_blamedMost_37 rfl rfl ?_
        refine ev_istore_n (ls2 := [some (.ref 62), some (.int a.1), some (.int a.2)]) iX5_blamedMost_38 rfl (Nat.le_of_ble_eq_true rfl) (Nat.le_of_ble_eq_true rfl) rfl rfl ?_
        refine ev_iinc (v := (a.2 + 1)) (ls2 := [some (.ref 62), some (.int a.1), some (.int (a.2 + 1))]) iX5_blamedMost_39 rfl (by rw [kI_1]) (Nat.le_of_ble_eq_true rfl) rfl rfl ?_
        refine ev_goto iX5_blamedMost_42 ?_
        exact ev_exit rfl ⟨rfl, rfl, rfl, trivial⟩
  · exact ev_exit rfl ⟨rfl, trivial⟩
def md_blamedMost (σ : sg_S)  : Option Int32 :=
  ((sg_lp (md_blamedMost_4_L σ  ) 1000 ((-1), 0)).bind fun e5 => some e5)
set_option maxRecDepth 20000 in
set_option maxHeartbeats 2000000 in
theorem c_md_blamedMost (σ : sg_S)   : sg_Call yX5_blamedMost mX5_blamedMost (rmL 2) [.ref 62] σ (eRI σ) (md_blamedMost σ ) := by
  refine sg_call_of (by decide +kernel) rfl (Nat.le_of_ble_eq_true rfl) rfl (fun _ => rfl) ?_
  refine ev_less (ls2 := [some (.ref 62), none, none]) ?_ ⟨rfl, trivial⟩
  unfold md_blamedMost
  refine ev_iconst iX5_blamedMost_0 kI_m1 ?_
  refine ev_istore_n (ls2 := [some (.ref 62), some (.int (-1)), none]) iX5_blamedMost_1 rfl (Nat.le_of_ble_eq_true rfl) (Nat.le_of_ble_eq_true rfl) rfl rfl ?_
  refine ev_iconst iX5_blamedMost_2 kI_0 ?_
  refine ev_istore_n (ls2 := [some (.ref 62), some (.int (-1)), some (.int 0)]) iX5_blamedMost_3 rfl (Nat.le_of_ble_eq_true rfl) (Nat.le_of_ble_eq_true rfl) rfl rfl ?_
  refine ev_less (ls2 := [some (.ref 62), some (.int (-1)), some (.int 0)]) ?_ ⟨rfl, rfl, rfl, trivial⟩
  refine ev_seq1 45 (fun z4 => [none, some (.int z4), none]) (fun _ => σ) (ev_loop (embB := md_blamedMost_4_X σ  ) (ex := fun b => md_blamedMost_4_X σ   (.inr b)) 4 (fun z3 => [some (.ref 62), some (.int z3.1), some (.int z3.2)]) (fun _ => σ) (fun _ => rfl) (fun _ => rfl) (e_md_blamedMost_4_L σ   ) 1000 ((-1), 0)) (fun _ => rfl) (fun e5 => ?_)
  refine ev_iload_n iX5_blamedMost_45 rfl rfl ?_
  exact ev_iret iX5_blamedMost_46 rfl (narI rfl _)
def md_lacks (σ : sg_S) (a1 : Int32) (a2 : Int32) : Option Int32 :=
  ((md_isSheet σ a1).bind fun r1 => (if r1 = 0 then some (-1000001) else (if sg_in a1 4 = true then (if (σ 70 a1.toNatClampNeg) = 0 then some (-1000006) else (if a2 = 0 then some (-1000001) else some 0)) else none)))
set_option maxRecDepth 20000 in
set_option maxHeartbeats 2000000 in
theorem c_md_lacks (σ : sg_S) (a1 : Int32) (a2 : Int32)  : sg_Call yX5_lacks mX5_lacks (rmL 2) [.ref 62, .int a1, .int a2] σ (eRI σ) (md_lacks σ a1 a2) := by
  refine sg_call_of (by decide +kernel) rfl (Nat.le_of_ble_eq_true rfl) rfl (fun _ => rfl) ?_
  refine ev_less (ls2 := [some (.ref 62), some (.int a1), some (.int a2)]) ?_ ⟨rfl, rfl, rfl, trivial⟩
  unfold md_lacks
  refine ev_iload_n iX5_lacks_0 rfl rfl ?_
  refine ev_SRI iX5_lacks_1 kS_X5_232 (c_md_isSheet σ a1) rfl rfl (Nat.le_of_ble_eq_true rfl) (sg_fitL (by decide) (Nat.le_of_ble_eq_true rfl)) (fun r1 => ?_)
  refine ev_if_ne iX5_lacks_4 ?_ ?_
  · refine ev_ldc iX5_lacks_7 kC_X5_60 ?_
    refine ev_goto iX5_lacks_9 ?_
    exact ev_iret iX5_lacks_36 rfl (narI rfl _)
  · refine ev_aload_n iX5_lacks_12 rfl (by decide) rfl ?_
    refine ev_getR (k1 := 70) 5 17 iX5_lacks_13 kF_X5_48 O_62 rfl (by decide) ?_
    refine ev_iload_n iX5_lacks_16 rfl rfl ?_
    refine ev_iald iX5_lacks_17 A_70 ?_
    refine ev_if_ne iX5_lacks_18 ?_ ?_
    · refine ev_ldc iX5_lacks_21 kC_X5_235 ?_
      refine ev_goto iX5_lacks_23 ?_
      exact ev_iret iX5_lacks_36 rfl (narI rfl _)
    · refine ev_iload_n iX5_lacks_26 rfl rfl ?_
      refine ev_if_eq iX5_lacks_27 ?_ ?_
      · refine ev_ldc iX5_lacks_34 kC_X5_60 ?_
        exact ev_iret iX5_lacks_36 rfl (narI rfl _)
      · refine ev_iconst iX5_lacks_30 kI_0 ?_
        refine ev_goto iX5_lacks_31 ?_
        exact ev_iret iX5_lacks_36 rfl (fun ty _ => nar0 ty)
def md_must (σ : sg_S) (a1 : Int32) : Option sg_S :=
  (if (σ 62 11) = 0 then (if a1 = 0 then sg_let (sg_st σ 62 11 1) (fun s1 => (if (s1 62 11) = 0 then ((md_token s1).bind fun r2 => some r2) else some s1)) else sg_let (sg_st σ 62 11 0) (fun s3 => (if (s3 62 11) = 0 then ((md_token s3).bind fun r4 => some r4) else some s3))) else sg_let (sg_st σ 62 11 1) (fun s5 => (if (s5 62 11) = 0 then ((md_token s5).bind fun r6 => some r6) else some s5)))
set_option maxRecDepth 20000 in
set_option maxHeartbeats 2000000 in
theorem c_md_must (σ : sg_S) (a1 : Int32)  : sg_Call yX5_must mX5_must (rmL 2) [.ref 62, .int a1] σ eMV (md_must σ a1) := by
  refine sg_call_of (by decide +kernel) rfl (Nat.le_of_ble_eq_true rfl) rfl (fun _ => rfl) ?_
  refine ev_less (ls2 := [some (.ref 62), some (.int a1)]) ?_ ⟨rfl, rfl, trivial⟩
  unfold md_must
  refine ev_aload_n iX5_must_0 rfl (by decide) rfl ?_
  refine ev_aload_n iX5_must_1 rfl (by decide) rfl ?_
  refine ev_getI 5 11 iX5_must_2 kF_X5_273 O_62 rfl ?_
  refine ev_if_ne iX5_must_5 ?_ ?_
  · refine ev_iload_n iX5_must_8 rfl rfl ?_
    refine ev_if_ne iX5_must_9 ?_ ?_
    · refine ev_iconst iX5_must_12 kI_1 ?_
      refine ev_goto iX5_must_13 ?_
      refine ev_putI 5 11 iX5_must_17 kF_X5_273 fp_5_11 rfl rfl O_62 rfl ?_
      refine ev_let (fun s1 => ?_)
      refine ev_aload_n iX5_must_20 rfl (by decide) rfl ?_
      refine ev_getI 5 11 iX5_must_21 kF_X5_273 O_62 rfl ?_
      refine ev_if_ne iX5_must_24 ?_ ?_
      · refine ev_aload_n iX5_must_27 rfl (by decide) rfl ?_
        refine ev_VMV iX5_must_28 kV_X5_277 (c_md_token s1 ) rc_62 rfl rfl (Nat.le_of_ble_eq_true rfl) (sg_fitL (by decide) (Nat.le_of_ble_eq_true rfl)) (fun r2 => ?_)
        exact ev_vret iX5_must_31 rfl
      · exact ev_vret iX5_must_31 rfl
    · refine ev_iconst iX5_must_16 kI_0 ?_
      refine ev_putI 5 11 iX5_must_17 kF_X5_273 fp_5_11 rfl rfl O_62 rfl ?_
      refine ev_let (fun s3 => ?_)
      refine ev_aload_n iX5_must_20 rfl (by decide) rfl ?_
      refine ev_getI 5 11 iX5_must_21 kF_X5_273 O_62 rfl ?_
      refine ev_if_ne iX5_must_24 ?_ ?_
      · refine ev_aload_n iX5_must_27 rfl (by decide) rfl ?_
        refine ev_VMV iX5_must_28 kV_X5_277 (c_md_token s3 ) rc_62 rfl rfl (Nat.le_of_ble_eq_true rfl) (sg_fitL (by decide) (Nat.le_of_ble_eq_true rfl)) (fun r4 => ?_)
        exact ev_vret iX5_must_31 rfl
      · exact ev_vret iX5_must_31 rfl
  · refine ev_iconst iX5_must_12 kI_1 ?_
    refine ev_goto iX5_must_13 ?_
    refine ev_putI 5 11 iX5_must_17 kF_X5_273 fp_5_11 rfl rfl O_62 rfl ?_
    refine ev_let (fun s5 => ?_)
    refine ev_aload_n iX5_must_20 rfl (by decide) rfl ?_
    refine ev_getI 5 11 iX5_must_21 kF_X5_273 O_62 rfl ?_
    refine ev_if_ne iX5_must_24 ?_ ?_
    · refine ev_aload_n iX5_must_27 rfl (by decide) rfl ?_
      refine ev_VMV iX5_must_28 kV_X5_277 (c_md_token s5 ) rc_62 rfl rfl (Nat.le_of_ble_eq_true rfl) (sg_fitL (by decide) (Nat.le_of_ble_eq_true rfl)) (fun r6 => ?_)
      exact ev_vret iX5_must_31 rfl
    · exact ev_vret iX5_must_31 rfl
def md_hold (σ : sg_S) (a1 : Int32) (a2 : Int32) : Option (Int32 × sg_S) :=
  ((md_isSpot σ a1).bind fun r1 => (if r1 = 0 then ((md_finding σ (-1000001)).bind fun r2 => some (r2.1, r2.2)) else (if a2 = (-1) then (if sg_in (11 + a1) 119 = true then sg_let (sg_st σ 63 (11 + a1).toNatClampNeg a2) (fun s3 => some (1, s3)) else none) else ((md_isPerson σ a2).bind fun r4 => (if r4 = 0 then ((md_finding σ (-1000001)).bind fun r5 => some (r5.1, r5.2)) else (if sg_in (11 + a1) 119 = true then sg_let (sg_st σ 63 (11 + a1).toNatClampNeg a2) (fun s6 => some (1, s6)) else none))))))
set_option maxRecDepth 20000 in
set_option maxHeartbeats 2000000 in
theorem c_md_hold (σ : sg_S) (a1 : Int32) (a2 : Int32)  : sg_Call yX5_hold mX5_hold (rmL 2) [.ref 62, .int a1, .int a2] σ eMI (md_hold σ a1 a2) := by
  refine sg_call_of (by decide +kernel) rfl (Nat.le_of_ble_eq_true rfl) rfl (fun _ => rfl) ?_
  refine ev_less (ls2 := [some (.ref 62), some (.int a1), some (.int a2)]) ?_ ⟨rfl, rfl, rfl, trivial⟩
  unfold md_hold
  refine ev_iload_n iX5_hold_0 rfl rfl ?_
  refine ev_SRI iX5_hold_1 kS_X5_327 (c_md_isSpot σ a1) rfl rfl (Nat.le_of_ble_eq_true rfl) (sg_fitL (by decide) (Nat.le_of_ble_eq_true rfl)) (fun r1 => ?_)
  refine ev_if_eq iX5_hold_4 ?_ ?_
  · refine ev_aload_n iX5_hold_20 rfl (by decide) rfl ?_
    refine ev_ldc iX5_hold_21 kC_X5_60 ?_
    refine ev_VMI iX5_hold_23 kV_X5_66 (c_md_finding σ (-1000001)) rc_62 rfl rfl (Nat.le_of_ble_eq_true rfl) (sg_fitL (by decide) (Nat.le_of_ble_eq_true rfl)) (fun r2 => ?_)
    exact ev_iret iX5_hold_26 rfl (narI rfl _)
  · refine ev_iload_n iX5_hold_7 rfl rfl ?_
    refine ev_iconst iX5_hold_8 kI_m1 ?_
    refine ev_icmp_eq iX5_hold_9 ?_ ?_
    · refine ev_aload_n iX5_hold_27 rfl (by decide) rfl ?_
      refine ev_getR (k1 := 63) 5 0 iX5_hold_28 kF_X5_9 O_62 rfl (by decide) ?_
      refine ev_bipush iX5_hold_31 kB_11 ?_
      refine ev_iload_n iX5_hold_33 rfl rfl ?_
      refine ev_iadd iX5_hold_34 ?_
      refine ev_iload_n iX5_hold_35 rfl rfl ?_
      refine ev_iast iX5_hold_36 A_63 ?_
      refine ev_let (fun s3 => ?_)
      refine ev_iconst iX5_hold_37 kI_1 ?_
      exact ev_iret iX5_hold_38 rfl (fun ty _ => nar1 ty)
    · refine ev_aload_n iX5_hold_12 rfl (by decide) rfl ?_
      refine ev_iload_n iX5_hold_13 rfl rfl ?_
      refine ev_VRI iX5_hold_14 kV_X5_105 (c_md_isPerson σ a2) rc_62 rfl rfl (Nat.le_of_ble_eq_true rfl) (sg_fitL (by decide) (Nat.le_of_ble_eq_true rfl)) (fun r4 => ?_)
      refine ev_if_ne iX5_hold_17 ?_ ?_
      · refine ev_aload_n iX5_hold_20 rfl (by decide) rfl ?_
        refine ev_ldc iX5_hold_21 kC_X5_60 ?_
        refine ev_VMI iX5_hold_23 kV_X5_66 (c_md_finding σ (-1000001)) rc_62 rfl rfl (Nat.le_of_ble_eq_true rfl) (sg_fitL (by decide) (Nat.le_of_ble_eq_true rfl)) (fun r5 => ?_)
        exact ev_iret iX5_hold_26 rfl (narI rfl _)
      · refine ev_aload_n iX5_hold_27 rfl (by decide) rfl ?_
        refine ev_getR (k1 := 63) 5 0 iX5_hold_28 kF_X5_9 O_62 rfl (by decide) ?_
        refine ev_bipush iX5_hold_31 kB_11 ?_
        refine ev_iload_n iX5_hold_33 rfl rfl ?_
        refine ev_iadd iX5_hold_34 ?_
        refine ev_iload_n iX5_hold_35 rfl rfl ?_
        refine ev_iast iX5_hold_36 A_63 ?_
        refine ev_let (fun s6 => ?_)
        refine ev_iconst iX5_hold_37 kI_1 ?_
        exact ev_iret iX5_hold_38 rfl (fun ty _ => nar1 ty)
def md_as (σ : sg_S) (a1 : Int32) (a2 : Int32) : Option (Int32 × sg_S) :=
  ((md_isSpot σ a1).bind fun r1 => (if r1 = 0 then ((md_finding σ (-1000001)).bind fun r2 => some (r2.1, r2.2)) else ((md_isKind σ a2).bind fun r3 => (if r3 = 0 then ((md_finding σ (-1000001)).bind fun r4 => some (r4.1, r4.2)) else (if sg_in (11 + a1) 119 = true then sg_leti (σ 63 (11 + a1).toNatClampNeg) (fun x5 => (if x5 < 0 then ((md_finding σ (-1000006)).bind fun r6 => some (r6.1, r6.2)) else ((md_personIs σ x5 0).bind fun r7 => ((md_isUnder σ r7 a2).bind fun r8 => (if r8 = 0 then ((md_finding σ (-1000003)).bind fun r9 => some (r9.1, r9.2)) else some (x5, σ)))))) else none)))))
set_option maxRecDepth 20000 in
set_option maxHeartbeats 2000000 in
theorem c_md_as (σ : sg_S) (a1 : Int32) (a2 : Int32)  : sg_Call yX5_as mX5_as (rmL 2) [.ref 62, .int a1, .int a2] σ eMI (md_as σ a1 a2) := by
  refine sg_call_of (by decide +kernel) rfl (Nat.le_of_ble_eq_true rfl) rfl (fun _ => rfl) ?_
  refine ev_less (ls2 := [some (.ref 62), some (.int a1), some (.int a2), none]) ?_ ⟨rfl, rfl, rfl, trivial⟩
  unfold md_as
  refine ev_iload_n iX5_as_0 rfl rfl ?_
  refine ev_SRI iX5_as_1 kS_X5_327 (c_md_isSpot σ a1) rfl rfl (Nat.le_of_ble_eq_true rfl) (sg_fitL (by decide) (Nat.le_of_ble_eq_true rfl)) (fun r1 => ?_)
  refine ev_if_eq iX5_as_4 ?_ ?_
  · refine ev_aload_n iX5_as_14 rfl (by decide) rfl ?_
    refine ev_ldc iX5_as_15 kC_X5_60 ?_
    refine ev_VMI iX5_as_17 kV_X5_66 (c_md_finding σ (-1000001)) rc_62 rfl rfl (Nat.le_of_ble_eq_true rfl) (sg_fitL (by decide) (Nat.le_of_ble_eq_true rfl)) (fun r2 => ?_)
    exact ev_iret iX5_as_20 rfl (narI rfl _)
  · refine ev_iload_n iX5_as_7 rfl rfl ?_
    refine ev_SRI iX5_as_8 kS_X5_91 (c_md_isKind σ a2) rfl rfl (Nat.le_of_ble_eq_true rfl) (sg_fitL (by decide) (Nat.le_of_ble_eq_true rfl)) (fun r3 => ?_)
    refine ev_if_ne iX5_as_11 ?_ ?_
    · refine ev_aload_n iX5_as_14 rfl (by decide) rfl ?_
      refine ev_ldc iX5_as_15 kC_X5_60 ?_
      refine ev_VMI iX5_as_17 kV_X5_66 (c_md_finding σ (-1000001)) rc_62 rfl rfl (Nat.le_of_ble_eq_true rfl) (sg_fitL (by decide) (Nat.le_of_ble_eq_true rfl)) (fun r4 => ?_)
      exact ev_iret iX5_as_20 rfl (narI rfl _)
    · refine ev_aload_n iX5_as_21 rfl (by decide) rfl ?_
      refine ev_getR (k1 := 63) 5 0 iX5_as_22 kF_X5_9 O_62 rfl (by decide) ?_
      refine ev_bipush iX5_as_25 kB_11 ?_
      refine ev_iload_n iX5_as_27 rfl rfl ?_
      refine ev_iadd iX5_as_28 ?_
      refine ev_iald iX5_as_29 A_63 ?_
      refine ev_leti (fun x5 => ?_)
      refine ev_istore_n (ls2 := [some (.ref 62), some (.int a1), some (.int a2), some (.int x5)]) iX5_as_30 rfl (Nat.le_of_ble_eq_true rfl) (Nat.le_of_ble_eq_true rfl) rfl rfl ?_
      refine ev_iload_n iX5_as_31 rfl rfl ?_
      refine ev_if_ge iX5_as_32 ?_ ?_
      · refine ev_aload_n iX5_as_35 rfl (by decide) rfl ?_
        refine ev_ldc iX5_as_36 kC_X5_235 ?_
        refine ev_VMI iX5_as_38 kV_X5_66 (c_md_finding σ (-1000006)) rc_62 rfl rfl (Nat.le_of_ble_eq_true rfl) (sg_fitL (by decide) (Nat.le_of_ble_eq_true rfl)) (fun r6 => ?_)
        exact ev_iret iX5_as_41 rfl (narI rfl _)
      · refine ev_aload_n iX5_as_42 rfl (by decide) rfl ?_
        refine ev_iload_n iX5_as_43 rfl rfl ?_
        refine ev_iconst iX5_as_44 kI_0 ?_
        refine ev_VRI iX5_as_45 kV_X5_122 (c_md_personIs σ x5 0) rc_62 rfl rfl (Nat.le_of_ble_eq_true rfl) (sg_fitL (by decide) (Nat.le_of_ble_eq_true rfl)) (fun r7 => ?_)
        refine ev_iload_n iX5_as_48 rfl rfl ?_
        refine ev_SRI iX5_as_49 kS_X5_330 (c_md_isUnder σ r7 a2) rfl rfl (Nat.le_of_ble_eq_true rfl) (sg_fitL (by decide) (Nat.le_of_ble_eq_true rfl)) (fun r8 => ?_)
        refine ev_if_eq iX5_as_52 ?_ ?_
        · refine ev_aload_n iX5_as_59 rfl (by decide) rfl ?_
          refine ev_ldcw iX5_as_60 kC_X5_333 ?_
          refine ev_VMI iX5_as_63 kV_X5_66 (c_md_finding σ (-1000003)) rc_62 rfl rfl (Nat.le_of_ble_eq_true rfl) (sg_fitL (by decide) (Nat.le_of_ble_eq_true rfl)) (fun r9 => ?_)
          exact ev_iret iX5_as_66 rfl (narI rfl _)
        · refine ev_iload_n iX5_as_55 rfl rfl ?_
          refine ev_goto iX5_as_56 ?_
          exact ev_iret iX5_as_66 rfl (narI rfl _)
def md_sheet_86_X (σ : sg_S)  (f1 : Int32) : ((Int32 × sg_S) ⊕ sg_S) → sg_X
  | .inl a => .inr (86, [some (.ref 62), some (.int f1), none, none, some (.int a.1)], a.2)
  | .inr e => .inr (112, [some (.ref 62), some (.int f1), none, none, none], e)
def md_sheet_86_L (σ : sg_S)  (f1 : Int32) (a : (Int32 × sg_S)) : Option ((Int32 × sg_S) ⊕ sg_S) :=
  (if a.1 < 40 then (if sg_in ((40 * f1) + a.1) 160 = true then sg_let (sg_st a.2 72 ((40 * f1) + a.1).toNatClampNeg 0) (fun s7 => some (.inl ((a.1 + 1), s7))) else none) else some (.inr a.2))
set_option maxRecDepth 20000 in
set_option maxHeartbeats 2000000 in
theorem e_md_sheet_86_L (σ : sg_S)  (f1 : Int32)  : ∀ a : (Int32 × sg_S), Ev mX5_sheet (rmL 2) 86 [some (.ref 62), some (.int f1), none, none, some (.int a.1)] [] a.2 (md_sheet_86_X σ  f1) (md_sheet_86_L σ  f1 a) := by
  intro a
  unfold md_sheet_86_L
  refine ev_iload iX5_sheet_86 rfl ?_
  refine ev_bipush iX5_sheet_88 kB_40 ?_
  refine ev_icmp_ge iX5_sheet_90 ?_ ?_
  · refine ev_aload_n iX5_sheet_93 rfl (by decide) rfl ?_
    refine ev_getR (k1 := 72) 5 19 iX5_sheet_94 kF_X5_54 O_62 rfl (by decide) ?_
    refine ev_bipush iX5_sheet_97 kB_40 ?_
    refine ev_iload_n iX5_sheet_99 rfl rfl ?_
    refine ev_imul iX5_sheet_100 ?_
    refine ev_iload iX5_sheet_101 rfl ?_
    refine ev_iadd iX5_sheet_103 ?_
    refine ev_iconst iX5_sheet_104 kI_0 ?_
    refine ev_iast iX5_sheet_105 A_72 ?_
    refine ev_let (fun s7 => ?_)
    refine ev_iinc (v := (a.1 + 1)) (ls2 := [some (.ref 62), some (.int f1), none, none, some (.int (a.1 + 1))]) iX5_sheet_106 rfl (by rw [kI_1]) (Nat.le_of_ble_eq_true rfl) rfl rfl ?_
    refine ev_goto iX5_sheet_109 ?_
    exact ev_exit rfl ⟨rfl, rfl, rfl, trivial⟩
  · exact ev_exit rfl ⟨rfl, rfl, trivial⟩
def md_sheet_J82 (σ : sg_S)   (v1 : Int32) (t0 : Int32) (t1 : Int32) : Option (Int32 × sg_S) :=
  (if sg_in t1 4 = true then sg_let (sg_st σ 71 t1.toNatClampNeg t0) (fun s6 => ((sg_lp (md_sheet_86_L s6  v1) 1000 (0, s6)).bind fun e10 => (if sg_in v1 4 = true then some ((e10 71 v1.toNatClampNeg), e10) else none))) else none)
set_option maxRecDepth 20000 in
set_option maxHeartbeats 2000000 in
theorem e_md_sheet_J82 (σ : sg_S)   (v1 : Int32) (t0 : Int32) (t1 : Int32)  : Ev mX5_sheet (rmL 2) 82 [some (.ref 62), some (.int v1), none, none, none] [.int t0, .int t1, .ref 71] σ (fun b => Sum.inl (eMI b)) (md_sheet_J82 σ   v1 t0 t1) := by
  unfold md_sheet_J82
  refine ev_iast iX5_sheet_82 A_71 ?_
  refine ev_let (fun s6 => ?_)
  refine ev_iconst iX5_sheet_83 kI_0 ?_
  refine ev_istore (ls2 := [some (.ref 62), some (.int v1), none, none, some (.int 0)]) iX5_sheet_84 (Nat.le_of_ble_eq_true rfl) (Nat.le_of_ble_eq_true rfl) rfl rfl ?_
  refine ev_less (ls2 := [some (.ref 62), some (.int v1), none, none, some (.int 0)]) ?_ ⟨rfl, rfl, rfl, trivial⟩
  refine ev_seq1 112 (fun z9 => [some (.ref 62), some (.int v1), none, none, none]) (fun z9 => z9) (ev_loop (embB := md_sheet_86_X s6  v1) (ex := fun b => md_sheet_86_X s6  v1 (.inr b)) 86 (fun z8 => [some (.ref 62), some (.int v1), none, none, some (.int z8.1)]) (fun z8 => z8.2) (fun _ => rfl) (fun _ => rfl) (e_md_sheet_86_L s6  v1 ) 1000 (0, s6)) (fun _ => rfl) (fun e10 => ?_)
  refine ev_aload_n iX5_sheet_112 rfl (by decide) rfl ?_
  refine ev_getR (k1 := 71) 5 18 iX5_sheet_113 kF_X5_51 O_62 rfl (by decide) ?_
  refine ev_iload_n iX5_sheet_116 rfl rfl ?_
  refine ev_iald iX5_sheet_117 A_71 ?_
  exact ev_iret iX5_sheet_118 rfl (narI rfl _)
def md_sheet_J36 (σ : sg_S)   (v1 : Int32) (v2 : Int32) (v3 : Int32) : Option (Int32 × sg_S) :=
  (if v3 < 0 then ((md_finding σ (-1000007)).bind fun r3 => some (r3.1, r3.2)) else (if 40 < v3 then ((md_finding σ (-1000001)).bind fun r4 => some (r4.1, r4.2)) else (if sg_in v1 4 = true then sg_let (sg_st σ 70 v1.toNatClampNeg v2) (fun s5 => (if v2 = 0 then md_sheet_J82 s5 v1 0 v1 else md_sheet_J82 s5 v1 v3 v1)) else none)))
set_option maxRecDepth 20000 in
set_option maxHeartbeats 2000000 in
theorem e_md_sheet_J36 (σ : sg_S)   (v1 : Int32) (v2 : Int32) (v3 : Int32)  : Ev mX5_sheet (rmL 2) 36 [some (.ref 62), some (.int v1), some (.int v2), some (.int v3), none] [] σ (fun b => Sum.inl (eMI b)) (md_sheet_J36 σ   v1 v2 v3) := by
  unfold md_sheet_J36
  refine ev_iload_n iX5_sheet_36 rfl rfl ?_
  refine ev_if_ge iX5_sheet_37 ?_ ?_
  · refine ev_aload_n iX5_sheet_40 rfl (by decide) rfl ?_
    refine ev_ldcw iX5_sheet_41 kC_X5_334 ?_
    refine ev_VMI iX5_sheet_44 kV_X5_66 (c_md_finding σ (-1000007)) rc_62 rfl rfl (Nat.le_of_ble_eq_true rfl) (sg_fitL (by decide) (Nat.le_of_ble_eq_true rfl)) (fun r3 => ?_)
    exact ev_iret iX5_sheet_47 rfl (narI rfl _)
  · refine ev_iload_n iX5_sheet_48 rfl rfl ?_
    refine ev_bipush iX5_sheet_49 kB_40 ?_
    refine ev_icmp_le iX5_sheet_51 ?_ ?_
    · refine ev_aload_n iX5_sheet_54 rfl (by decide) rfl ?_
      refine ev_ldc iX5_sheet_55 kC_X5_60 ?_
      refine ev_VMI iX5_sheet_57 kV_X5_66 (c_md_finding σ (-1000001)) rc_62 rfl rfl (Nat.le_of_ble_eq_true rfl) (sg_fitL (by decide) (Nat.le_of_ble_eq_true rfl)) (fun r4 => ?_)
      exact ev_iret iX5_sheet_60 rfl (narI rfl _)
    · refine ev_aload_n iX5_sheet_61 rfl (by decide) rfl ?_
      refine ev_getR (k1 := 70) 5 17 iX5_sheet_62 kF_X5_48 O_62 rfl (by decide) ?_
      refine ev_iload_n iX5_sheet_65 rfl rfl ?_
      refine ev_iload_n iX5_sheet_66 rfl rfl ?_
      refine ev_iast iX5_sheet_67 A_70 ?_
      refine ev_let (fun s5 => ?_)
      refine ev_aload_n iX5_sheet_68 rfl (by decide) rfl ?_
      refine ev_getR (k1 := 71) 5 18 iX5_sheet_69 kF_X5_51 O_62 rfl (by decide) ?_
      refine ev_iload_n iX5_sheet_72 rfl rfl ?_
      refine ev_iload_n iX5_sheet_73 rfl rfl ?_
      refine ev_if_ne iX5_sheet_74 ?_ ?_
      · refine ev_iconst iX5_sheet_77 kI_0 ?_
        refine ev_goto iX5_sheet_78 ?_
        exact ev_less (e_md_sheet_J82 s5   v1 0 v1 ) ⟨rfl, rfl, trivial⟩
      · refine ev_iload_n iX5_sheet_81 rfl rfl ?_
        exact ev_less (e_md_sheet_J82 s5   v1 v3 v1 ) ⟨rfl, rfl, trivial⟩
def md_sheet (σ : sg_S) (a1 : Int32) (a2 : Int32) (a3 : Int32) : Option (Int32 × sg_S) :=
  ((md_isSheet σ a1).bind fun r1 => (if r1 = 0 then ((md_finding σ (-1000001)).bind fun r2 => some (r2.1, r2.2)) else (if a2 = 0 then md_sheet_J36 σ a1 a2 a3 else (if a2 = 8 then md_sheet_J36 σ a1 a2 a3 else (if a2 = 16 then md_sheet_J36 σ a1 a2 a3 else (if a2 = 32 then md_sheet_J36 σ a1 a2 a3 else ((md_finding σ (-1000001)).bind fun r11 => some (r11.1, r11.2))))))))
set_option maxRecDepth 20000 in
set_option maxHeartbeats 2000000 in
theorem c_md_sheet (σ : sg_S) (a1 : Int32) (a2 : Int32) (a3 : Int32)  : sg_Call yX5_sheet mX5_sheet (rmL 2) [.ref 62, .int a1, .int a2, .int a3] σ eMI (md_sheet σ a1 a2 a3) := by
  refine sg_call_of (by decide +kernel) rfl (Nat.le_of_ble_eq_true rfl) rfl (fun _ => rfl) ?_
  refine ev_less (ls2 := [some (.ref 62), some (.int a1), some (.int a2), some (.int a3), none]) ?_ ⟨rfl, rfl, rfl, rfl, trivial⟩
  unfold md_sheet
  refine ev_iload_n iX5_sheet_0 rfl rfl ?_
  refine ev_SRI iX5_sheet_1 kS_X5_232 (c_md_isSheet σ a1) rfl rfl (Nat.le_of_ble_eq_true rfl) (sg_fitL (by decide) (Nat.le_of_ble_eq_true rfl)) (fun r1 => ?_)
  refine ev_if_eq iX5_sheet_4 ?_ ?_
  · refine ev_aload_n iX5_sheet_29 rfl (by decide) rfl ?_
    refine ev_ldc iX5_sheet_30 kC_X5_60 ?_
    refine ev_VMI iX5_sheet_32 kV_X5_66 (c_md_finding σ (-1000001)) rc_62 rfl rfl (Nat.le_of_ble_eq_true rfl) (sg_fitL (by decide) (Nat.le_of_ble_eq_true rfl)) (fun r2 => ?_)
    exact ev_iret iX5_sheet_35 rfl (narI rfl _)
  · refine ev_iload_n iX5_sheet_7 rfl rfl ?_
    refine ev_if_eq iX5_sheet_8 ?_ ?_
    · exact ev_less (e_md_sheet_J36 σ   a1 a2 a3 ) ⟨rfl, rfl, rfl, rfl, trivial⟩
    · refine ev_iload_n iX5_sheet_11 rfl rfl ?_
      refine ev_bipush iX5_sheet_12 kB_8 ?_
      refine ev_icmp_eq iX5_sheet_14 ?_ ?_
      · exact ev_less (e_md_sheet_J36 σ   a1 a2 a3 ) ⟨rfl, rfl, rfl, rfl, trivial⟩
      · refine ev_iload_n iX5_sheet_17 rfl rfl ?_
        refine ev_bipush iX5_sheet_18 kB_16 ?_
        refine ev_icmp_eq iX5_sheet_20 ?_ ?_
        · exact ev_less (e_md_sheet_J36 σ   a1 a2 a3 ) ⟨rfl, rfl, rfl, rfl, trivial⟩
        · refine ev_iload_n iX5_sheet_23 rfl rfl ?_
          refine ev_bipush iX5_sheet_24 kB_32 ?_
          refine ev_icmp_eq iX5_sheet_26 ?_ ?_
          · exact ev_less (e_md_sheet_J36 σ   a1 a2 a3 ) ⟨rfl, rfl, rfl, rfl, trivial⟩
          · refine ev_aload_n iX5_sheet_29 rfl (by decide) rfl ?_
            refine ev_ldc iX5_sheet_30 kC_X5_60 ?_
            refine ev_VMI iX5_sheet_32 kV_X5_66 (c_md_finding σ (-1000001)) rc_62 rfl rfl (Nat.le_of_ble_eq_true rfl) (sg_fitL (by decide) (Nat.le_of_ble_eq_true rfl)) (fun r11 => ?_)
            exact ev_iret iX5_sheet_35 rfl (narI rfl _)
def md_write (σ : sg_S) (a1 : Int32) (a2 : Int32) (a3 : Int32) : Option (Int32 × sg_S) :=
  ((md_isSheet σ a1).bind fun r1 => (if r1 = 0 then ((md_finding σ (-1000001)).bind fun r2 => some (r2.1, r2.2)) else (if sg_in a1 4 = true then (if (σ 70 a1.toNatClampNeg) = 0 then ((md_finding σ (-1000006)).bind fun r3 => some (r3.1, r3.2)) else (if sg_in a1 4 = true then ((md_within σ a2 0 ((σ 71 a1.toNatClampNeg) - 1)).bind fun r4 => (if r4 = 0 then ((md_finding σ (-1000001)).bind fun r5 => some (r5.1, r5.2)) else (if sg_in a1 4 = true then ((md_cutTo σ a3 (σ 70 a1.toNatClampNeg)).bind fun r6 => (if sg_in ((40 * a1) + a2) 160 = true then sg_let (sg_st σ 72 ((40 * a1) + a2).toNatClampNeg r6) (fun s7 => some (1, s7)) else none)) else none))) else none)) else none)))
set_option maxRecDepth 20000 in
set_option maxHeartbeats 2000000 in
theorem c_md_write (σ : sg_S) (a1 : Int32) (a2 : Int32) (a3 : Int32)  : sg_Call yX5_write mX5_write (rmL 2) [.ref 62, .int a1, .int a2, .int a3] σ eMI (md_write σ a1 a2 a3) := by
  refine sg_call_of (by decide +kernel) rfl (Nat.le_of_ble_eq_true rfl) rfl (fun _ => rfl) ?_
  refine ev_less (ls2 := [some (.ref 62), some (.int a1), some (.int a2), some (.int a3)]) ?_ ⟨rfl, rfl, rfl, rfl, trivial⟩
  unfold md_write
  refine ev_iload_n iX5_write_0 rfl rfl ?_
  refine ev_SRI iX5_write_1 kS_X5_232 (c_md_isSheet σ a1) rfl rfl (Nat.le_of_ble_eq_true rfl) (sg_fitL (by decide) (Nat.le_of_ble_eq_true rfl)) (fun r1 => ?_)
  refine ev_if_ne iX5_write_4 ?_ ?_
  · refine ev_aload_n iX5_write_7 rfl (by decide) rfl ?_
    refine ev_ldc iX5_write_8 kC_X5_60 ?_
    refine ev_VMI iX5_write_10 kV_X5_66 (c_md_finding σ (-1000001)) rc_62 rfl rfl (Nat.le_of_ble_eq_true rfl) (sg_fitL (by decide) (Nat.le_of_ble_eq_true rfl)) (fun r2 => ?_)
    exact ev_iret iX5_write_13 rfl (narI rfl _)
  · refine ev_aload_n iX5_write_14 rfl (by decide) rfl ?_
    refine ev_getR (k1 := 70) 5 17 iX5_write_15 kF_X5_48 O_62 rfl (by decide) ?_
    refine ev_iload_n iX5_write_18 rfl rfl ?_
    refine ev_iald iX5_write_19 A_70 ?_
    refine ev_if_ne iX5_write_20 ?_ ?_
    · refine ev_aload_n iX5_write_23 rfl (by decide) rfl ?_
      refine ev_ldc iX5_write_24 kC_X5_235 ?_
      refine ev_VMI iX5_write_26 kV_X5_66 (c_md_finding σ (-1000006)) rc_62 rfl rfl (Nat.le_of_ble_eq_true rfl) (sg_fitL (by decide) (Nat.le_of_ble_eq_true rfl)) (fun r3 => ?_)
      exact ev_iret iX5_write_29 rfl (narI rfl _)
    · refine ev_iload_n iX5_write_30 rfl rfl ?_
      refine ev_iconst iX5_write_31 kI_0 ?_
      refine ev_aload_n iX5_write_32 rfl (by decide) rfl ?_
      refine ev_getR (k1 := 71) 5 18 iX5_write_33 kF_X5_51 O_62 rfl (by decide) ?_
      refine ev_iload_n iX5_write_36 rfl rfl ?_
      refine ev_iald iX5_write_37 A_71 ?_
      refine ev_iconst iX5_write_38 kI_1 ?_
      refine ev_isub iX5_write_39 ?_
      refine ev_SRI iX5_write_40 kS_X5_70 (c_md_within σ a2 0 ((σ 71 a1.toNatClampNeg) - 1)) rfl rfl (Nat.le_of_ble_eq_true rfl) (sg_fitL (by decide) (Nat.le_of_ble_eq_true rfl)) (fun r4 => ?_)
      refine ev_if_ne iX5_write_43 ?_ ?_
      · refine ev_aload_n iX5_write_46 rfl (by decide) rfl ?_
        refine ev_ldc iX5_write_47 kC_X5_60 ?_
        refine ev_VMI iX5_write_49 kV_X5_66 (c_md_finding σ (-1000001)) rc_62 rfl rfl (Nat.le_of_ble_eq_true rfl) (sg_fitL (by decide) (Nat.le_of_ble_eq_true rfl)) (fun r5 => ?_)
        exact ev_iret iX5_write_52 rfl (narI rfl _)
      · refine ev_aload_n iX5_write_53 rfl (by decide) rfl ?_
        refine ev_getR (k1 := 72) 5 19 iX5_write_54 kF_X5_54 O_62 rfl (by decide) ?_
        refine ev_bipush iX5_write_57 kB_40 ?_
        refine ev_iload_n iX5_write_59 rfl rfl ?_
        refine ev_imul iX5_write_60 ?_
        refine ev_iload_n iX5_write_61 rfl rfl ?_
        refine ev_iadd iX5_write_62 ?_
        refine ev_iload_n iX5_write_63 rfl rfl ?_
        refine ev_aload_n iX5_write_64 rfl (by decide) rfl ?_
        refine ev_getR (k1 := 70) 5 17 iX5_write_65 kF_X5_48 O_62 rfl (by decide) ?_
        refine ev_iload_n iX5_write_68 rfl rfl ?_
        refine ev_iald iX5_write_69 A_70 ?_
        refine ev_SRI iX5_write_70 kS_X5_335 (c_md_cutTo σ a3 (σ 70 a1.toNatClampNeg)) rfl rfl (Nat.le_of_ble_eq_true rfl) (sg_fitL (by decide) (Nat.le_of_ble_eq_true rfl)) (fun r6 => ?_)
        refine ev_iast iX5_write_73 A_72 ?_
        refine ev_let (fun s7 => ?_)
        refine ev_iconst iX5_write_74 kI_1 ?_
        exact ev_iret iX5_write_75 rfl (fun ty _ => nar1 ty)
def md_copy_128_X (σ : sg_S)  (f1 : Int32) (f2 : Int32) (f3 : Int32) (f4 : Int32) (f5 : Int32) : ((Int32 × sg_S) ⊕ sg_S) → sg_X
  | .inl a => .inr (128, [some (.ref 62), some (.int f1), some (.int f2), some (.int f3), some (.int f4), some (.int f5), some (.int a.1)], a.2)
  | .inr e => .inr (162, [some (.ref 62), none, none, some (.int f3), some (.int f4), some (.int f5), none], e)
def md_copy_128_L (σ : sg_S)  (f1 : Int32) (f2 : Int32) (f3 : Int32) (f4 : Int32) (f5 : Int32) (a : (Int32 × sg_S)) : Option ((Int32 × sg_S) ⊕ sg_S) :=
  (if a.1 < f5 then (if sg_in (((40 * f1) + f2) + a.1) 160 = true then (if sg_in a.1 40 = true then sg_let (sg_st a.2 73 a.1.toNatClampNeg (a.2 72 (((40 * f1) + f2) + a.1).toNatClampNeg)) (fun s12 => some (.inl ((a.1 + 1), s12))) else none) else none) else some (.inr a.2))
set_option maxRecDepth 20000 in
set_option maxHeartbeats 2000000 in
theorem e_md_copy_128_L (σ : sg_S)  (f1 : Int32) (f2 : Int32) (f3 : Int32) (f4 : Int32) (f5 : Int32)  : ∀ a : (Int32 × sg_S), Ev mX5_copy (rmL 2) 128 [some (.ref 62), some (.int f1), some (.int f2), some (.int f3), some (.int f4), some (.int f5), some (.int a.1)] [] a.2 (md_copy_128_X σ  f1 f2 f3 f4 f5) (md_copy_128_L σ  f1 f2 f3 f4 f5 a) := by
  intro a
  unfold md_copy_128_L
  refine ev_iload iX5_copy_128 rfl ?_
  refine ev_iload iX5_copy_130 rfl ?_
  refine ev_icmp_ge iX5_copy_132 ?_ ?_
  · refine ev_aload_n iX5_copy_135 rfl (by decide) rfl ?_
    refine ev_getR (k1 := 73) 5 20 iX5_copy_136 kF_X5_57 O_62 rfl (by decide) ?_
    refine ev_iload iX5_copy_139 rfl ?_
    refine ev_aload_n iX5_copy_141 rfl (by decide) rfl ?_
    refine ev_getR (k1 := 72) 5 19 iX5_copy_142 kF_X5_54 O_62 rfl (by decide) ?_
    refine ev_bipush iX5_copy_145 kB_40 ?_
    refine ev_iload_n iX5_copy_147 rfl rfl ?_
    refine ev_imul iX5_copy_148 ?_
    refine ev_iload_n iX5_copy_149 rfl rfl ?_
    refine ev_iadd iX5_copy_150 ?_
    refine ev_iload iX5_copy_151 rfl ?_
    refine ev_iadd iX5_copy_153 ?_
    refine ev_iald iX5_copy_154 A_72 ?_
    refine ev_iast iX5_copy_155 A_73 ?_
    refine ev_let (fun s12 => ?_)
    refine ev_iinc (v := (a.1 + 1)) (ls2 := [some (.ref 62), some (.int f1), some (.int f2), some (.int f3), some (.int f4), some (.int f5), some (.int (a.1 + 1))]) iX5_copy_156 rfl (by rw [kI_1]) (Nat.le_of_ble_eq_true rfl) rfl rfl ?_
    refine ev_goto iX5_copy_159 ?_
    exact ev_exit rfl ⟨rfl, rfl, rfl, rfl, rfl, rfl, rfl, trivial⟩
  · exact ev_exit rfl ⟨rfl, rfl, rfl, rfl, trivial⟩
def md_copy_165_X (σ : sg_S)  (f3 : Int32) (f4 : Int32) (f5 : Int32) : ((Int32 × sg_S) ⊕ sg_S) → sg_X
  | .inl a => .inr (165, [some (.ref 62), none, none, some (.int f3), some (.int f4), some (.int f5), some (.int a.1)], a.2)
  | .inr e => .inr (200, [none, none, none, none, none, some (.int f5), none], e)
def md_copy_165_L (σ : sg_S)  (f3 : Int32) (f4 : Int32) (f5 : Int32) (a : (Int32 × sg_S)) : Option ((Int32 × sg_S) ⊕ sg_S) :=
  (if a.1 < f5 then (if sg_in a.1 40 = true then (if sg_in (((40 * f3) + f4) + a.1) 160 = true then sg_let (sg_st a.2 72 (((40 * f3) + f4) + a.1).toNatClampNeg (a.2 73 a.1.toNatClampNeg)) (fun s16 => some (.inl ((a.1 + 1), s16))) else none) else none) else some (.inr a.2))
set_option maxRecDepth 20000 in
set_option maxHeartbeats 2000000 in
theorem e_md_copy_165_L (σ : sg_S)  (f3 : Int32) (f4 : Int32) (f5 : Int32)  : ∀ a : (Int32 × sg_S), Ev mX5_copy (rmL 2) 165 [some (.ref 62), none, none, some (.int f3), some (.int f4), some (.int f5), some (.int a.1)] [] a.2 (md_copy_165_X σ  f3 f4 f5) (md_copy_165_L σ  f3 f4 f5 a) := by
  intro a
  unfold md_copy_165_L
  refine ev_iload iX5_copy_165 rfl ?_
  refine ev_iload iX5_copy_167 rfl ?_
  refine ev_icmp_ge iX5_copy_169 ?_ ?_
  · refine ev_aload_n iX5_copy_172 rfl (by decide) rfl ?_
    refine ev_getR (k1 := 72) 5 19 iX5_copy_173 kF_X5_54 O_62 rfl (by decide) ?_
    refine ev_bipush iX5_copy_176 kB_40 ?_
    refine ev_iload_n iX5_copy_178 rfl rfl ?_
    refine ev_imul iX5_copy_179 ?_
    refine ev_iload iX5_copy_180 rfl ?_
    refine ev_iadd iX5_copy_182 ?_
    refine ev_iload iX5_copy_183 rfl ?_
    refine ev_iadd iX5_copy_185 ?_
    refine ev_aload_n iX5_copy_186 rfl (by decide) rfl ?_
    refine ev_getR (k1 := 73) 5 20 iX5_copy_187 kF_X5_57 O_62 rfl (by decide) ?_
    refine ev_iload iX5_copy_190 rfl ?_
    refine ev_iald iX5_copy_192 A_73 ?_
    refine ev_iast iX5_copy_193 A_72 ?_
    refine ev_let (fun s16 => ?_)
    refine ev_iinc (v := (a.1 + 1)) (ls2 := [some (.ref 62), none, none, some (.int f3), some (.int f4), some (.int f5), some (.int (a.1 + 1))]) iX5_copy_194 rfl (by rw [kI_1]) (Nat.le_of_ble_eq_true rfl) rfl rfl ?_
    refine ev_goto iX5_copy_197 ?_
    exact ev_exit rfl ⟨rfl, rfl, rfl, rfl, rfl, trivial⟩
  · exact ev_exit rfl ⟨rfl, trivial⟩
def md_copy (σ : sg_S) (a1 : Int32) (a2 : Int32) (a3 : Int32) (a4 : Int32) (a5 : Int32) : Option (Int32 × sg_S) :=
  ((md_isSheet σ a1).bind fun r1 => (if r1 = 0 then ((md_finding σ (-1000001)).bind fun r2 => some (r2.1, r2.2)) else ((md_isSheet σ a3).bind fun r3 => (if r3 = 0 then ((md_finding σ (-1000001)).bind fun r4 => some (r4.1, r4.2)) else (if sg_in a1 4 = true then (if (σ 70 a1.toNatClampNeg) = 0 then ((md_finding σ (-1000006)).bind fun r5 => some (r5.1, r5.2)) else (if sg_in a3 4 = true then (if (σ 70 a3.toNatClampNeg) = 0 then ((md_finding σ (-1000006)).bind fun r6 => some (r6.1, r6.2)) else (if sg_in a1 4 = true then (if sg_in a3 4 = true then (if (σ 70 a1.toNatClampNeg) = (σ 70 a3.toNatClampNeg) then (if a2 < 0 then ((md_finding σ (-1000001)).bind fun r7 => some (r7.1, r7.2)) else (if a4 < 0 then ((md_finding σ (-1000001)).bind fun r8 => some (r8.1, r8.2)) else (if a5 < 0 then ((md_finding σ (-1000001)).bind fun r9 => some (r9.1, r9.2)) else (if sg_in a1 4 = true then (if 0 < (lg_cmp (a2.toInt64 + a5.toInt64) ((σ 71 a1.toNatClampNeg).toInt64)) then ((md_finding σ (-1000001)).bind fun r10 => some (r10.1, r10.2)) else (if sg_in a3 4 = true then (if 0 < (lg_cmp (a4.toInt64 + a5.toInt64) ((σ 71 a3.toNatClampNeg).toInt64)) then ((md_finding σ (-1000001)).bind fun r11 => some (r11.1, r11.2)) else ((sg_lp (md_copy_128_L σ  a1 a2 a3 a4 a5) 1000 (0, σ)).bind fun e15 => ((sg_lp (md_copy_165_L e15  a3 a4 a5) 1000 (0, e15)).bind fun e19 => some (a5, e19)))) else none)) else none)))) else ((md_finding σ (-1000003)).bind fun r20 => some (r20.1, r20.2))) else none) else none)) else none)) else none)))))
set_option maxRecDepth 20000 in
set_option maxHeartbeats 2000000 in
theorem c_md_copy (σ : sg_S) (a1 : Int32) (a2 : Int32) (a3 : Int32) (a4 : Int32) (a5 : Int32)  : sg_Call yX5_copy mX5_copy (rmL 2) [.ref 62, .int a1, .int a2, .int a3, .int a4, .int a5] σ eMI (md_copy σ a1 a2 a3 a4 a5) := by
  refine sg_call_of (by decide +kernel) rfl (Nat.le_of_ble_eq_true rfl) rfl (fun _ => rfl) ?_
  refine ev_less (ls2 := [some (.ref 62), some (.int a1), some (.int a2), some (.int a3), some (.int a4), some (.int a5), none]) ?_ ⟨rfl, rfl, rfl, rfl, rfl, rfl, trivial⟩
  unfold md_copy
  refine ev_iload_n iX5_copy_0 rfl rfl ?_
  refine ev_SRI iX5_copy_1 kS_X5_232 (c_md_isSheet σ a1) rfl rfl (Nat.le_of_ble_eq_true rfl) (sg_fitL (by decide) (Nat.le_of_ble_eq_true rfl)) (fun r1 => ?_)
  refine ev_if_eq iX5_copy_4 ?_ ?_
  · refine ev_aload_n iX5_copy_14 rfl (by decide) rfl ?_
    refine ev_ldc iX5_copy_15 kC_X5_60 ?_
    refine ev_VMI iX5_copy_17 kV_X5_66 (c_md_finding σ (-1000001)) rc_62 rfl rfl (Nat.le_of_ble_eq_true rfl) (sg_fitL (by decide) (Nat.le_of_ble_eq_true rfl)) (fun r2 => ?_)
    exact ev_iret iX5_copy_20 rfl (narI rfl _)
  · refine ev_iload_n iX5_copy_7 rfl rfl ?_
    refine ev_SRI iX5_copy_8 kS_X5_232 (c_md_isSheet σ a3) rfl rfl (Nat.le_of_ble_eq_true rfl) (sg_fitL (by decide) (Nat.le_of_ble_eq_true rfl)) (fun r3 => ?_)
    refine ev_if_ne iX5_copy_11 ?_ ?_
    · refine ev_aload_n iX5_copy_14 rfl (by decide) rfl ?_
      refine ev_ldc iX5_copy_15 kC_X5_60 ?_
      refine ev_VMI iX5_copy_17 kV_X5_66 (c_md_finding σ (-1000001)) rc_62 rfl rfl (Nat.le_of_ble_eq_true rfl) (sg_fitL (by decide) (Nat.le_of_ble_eq_true rfl)) (fun r4 => ?_)
      exact ev_iret iX5_copy_20 rfl (narI rfl _)
    · refine ev_aload_n iX5_copy_21 rfl (by decide) rfl ?_
      refine ev_getR (k1 := 70) 5 17 iX5_copy_22 kF_X5_48 O_62 rfl (by decide) ?_
      refine ev_iload_n iX5_copy_25 rfl rfl ?_
      refine ev_iald iX5_copy_26 A_70 ?_
      refine ev_if_eq iX5_copy_27 ?_ ?_
      · refine ev_aload_n iX5_copy_39 rfl (by decide) rfl ?_
        refine ev_ldc iX5_copy_40 kC_X5_235 ?_
        refine ev_VMI iX5_copy_42 kV_X5_66 (c_md_finding σ (-1000006)) rc_62 rfl rfl (Nat.le_of_ble_eq_true rfl) (sg_fitL (by decide) (Nat.le_of_ble_eq_true rfl)) (fun r5 => ?_)
        exact ev_iret iX5_copy_45 rfl (narI rfl _)
      · refine ev_aload_n iX5_copy_30 rfl (by decide) rfl ?_
        refine ev_getR (k1 := 70) 5 17 iX5_copy_31 kF_X5_48 O_62 rfl (by decide) ?_
        refine ev_iload_n iX5_copy_34 rfl rfl ?_
        refine ev_iald iX5_copy_35 A_70 ?_
        refine ev_if_ne iX5_copy_36 ?_ ?_
        · refine ev_aload_n iX5_copy_39 rfl (by decide) rfl ?_
          refine ev_ldc iX5_copy_40 kC_X5_235 ?_
          refine ev_VMI iX5_copy_42 kV_X5_66 (c_md_finding σ (-1000006)) rc_62 rfl rfl (Nat.le_of_ble_eq_true rfl) (sg_fitL (by decide) (Nat.le_of_ble_eq_true rfl)) (fun r6 => ?_)
          exact ev_iret iX5_copy_45 rfl (narI rfl _)
        · refine ev_aload_n iX5_copy_46 rfl (by decide) rfl ?_
          refine ev_getR (k1 := 70) 5 17 iX5_copy_47 kF_X5_48 O_62 rfl (by decide) ?_
          refine ev_iload_n iX5_copy_50 rfl rfl ?_
          refine ev_iald iX5_copy_51 A_70 ?_
          refine ev_aload_n iX5_copy_52 rfl (by decide) rfl ?_
          refine ev_getR (k1 := 70) 5 17 iX5_copy_53 kF_X5_48 O_62 rfl (by decide) ?_
          refine ev_iload_n iX5_copy_56 rfl rfl ?_
          refine ev_iald iX5_copy_57 A_70 ?_
          refine ev_icmp_eq iX5_copy_58 ?_ ?_
          · refine ev_iload_n iX5_copy_69 rfl rfl ?_
            refine ev_if_lt iX5_copy_70 ?_ ?_
            · refine ev_aload_n iX5_copy_118 rfl (by decide) rfl ?_
              refine ev_ldc iX5_copy_119 kC_X5_60 ?_
              refine ev_VMI iX5_copy_121 kV_X5_66 (c_md_finding σ (-1000001)) rc_62 rfl rfl (Nat.le_of_ble_eq_true rfl) (sg_fitL (by decide) (Nat.le_of_ble_eq_true rfl)) (fun r7 => ?_)
              exact ev_iret iX5_copy_124 rfl (narI rfl _)
            · refine ev_iload iX5_copy_73 rfl ?_
              refine ev_if_lt iX5_copy_75 ?_ ?_
              · refine ev_aload_n iX5_copy_118 rfl (by decide) rfl ?_
                refine ev_ldc iX5_copy_119 kC_X5_60 ?_
                refine ev_VMI iX5_copy_121 kV_X5_66 (c_md_finding σ (-1000001)) rc_62 rfl rfl (Nat.le_of_ble_eq_true rfl) (sg_fitL (by decide) (Nat.le_of_ble_eq_true rfl)) (fun r8 => ?_)
                exact ev_iret iX5_copy_124 rfl (narI rfl _)
              · refine ev_iload iX5_copy_78 rfl ?_
                refine ev_if_lt iX5_copy_80 ?_ ?_
                · refine ev_aload_n iX5_copy_118 rfl (by decide) rfl ?_
                  refine ev_ldc iX5_copy_119 kC_X5_60 ?_
                  refine ev_VMI iX5_copy_121 kV_X5_66 (c_md_finding σ (-1000001)) rc_62 rfl rfl (Nat.le_of_ble_eq_true rfl) (sg_fitL (by decide) (Nat.le_of_ble_eq_true rfl)) (fun r9 => ?_)
                  exact ev_iret iX5_copy_124 rfl (narI rfl _)
                · refine ev_iload_n iX5_copy_83 rfl rfl ?_
                  refine ev_i2l iX5_copy_84 ?_
                  refine ev_iload iX5_copy_85 rfl ?_
                  refine ev_i2l iX5_copy_87 ?_
                  refine ev_ladd iX5_copy_88 ?_
                  refine ev_aload_n iX5_copy_89 rfl (by decide) rfl ?_
                  refine ev_getR (k1 := 71) 5 18 iX5_copy_90 kF_X5_51 O_62 rfl (by decide) ?_
                  refine ev_iload_n iX5_copy_93 rfl rfl ?_
                  refine ev_iald iX5_copy_94 A_71 ?_
                  refine ev_i2l iX5_copy_95 ?_
                  refine ev_lcmp iX5_copy_96 ?_
                  refine ev_if_gt iX5_copy_97 ?_ ?_
                  · refine ev_aload_n iX5_copy_118 rfl (by decide) rfl ?_
                    refine ev_ldc iX5_copy_119 kC_X5_60 ?_
                    refine ev_VMI iX5_copy_121 kV_X5_66 (c_md_finding σ (-1000001)) rc_62 rfl rfl (Nat.le_of_ble_eq_true rfl) (sg_fitL (by decide) (Nat.le_of_ble_eq_true rfl)) (fun r10 => ?_)
                    exact ev_iret iX5_copy_124 rfl (narI rfl _)
                  · refine ev_iload iX5_copy_100 rfl ?_
                    refine ev_i2l iX5_copy_102 ?_
                    refine ev_iload iX5_copy_103 rfl ?_
                    refine ev_i2l iX5_copy_105 ?_
                    refine ev_ladd iX5_copy_106 ?_
                    refine ev_aload_n iX5_copy_107 rfl (by decide) rfl ?_
                    refine ev_getR (k1 := 71) 5 18 iX5_copy_108 kF_X5_51 O_62 rfl (by decide) ?_
                    refine ev_iload_n iX5_copy_111 rfl rfl ?_
                    refine ev_iald iX5_copy_112 A_71 ?_
                    refine ev_i2l iX5_copy_113 ?_
                    refine ev_lcmp iX5_copy_114 ?_
                    refine ev_if_le iX5_copy_115 ?_ ?_
                    · refine ev_aload_n iX5_copy_118 rfl (by decide) rfl ?_
                      refine ev_ldc iX5_copy_119 kC_X5_60 ?_
                      refine ev_VMI iX5_copy_121 kV_X5_66 (c_md_finding σ (-1000001)) rc_62 rfl rfl (Nat.le_of_ble_eq_true rfl) (sg_fitL (by decide) (Nat.le_of_ble_eq_true rfl)) (fun r11 => ?_)
                      exact ev_iret iX5_copy_124 rfl (narI rfl _)
                    · refine ev_iconst iX5_copy_125 kI_0 ?_
                      refine ev_istore (ls2 := [some (.ref 62), some (.int a1), some (.int a2), some (.int a3), some (.int a4), some (.int a5), some (.int 0)]) iX5_copy_126 (Nat.le_of_ble_eq_true rfl) (Nat.le_of_ble_eq_true rfl) rfl rfl ?_
                      refine ev_less (ls2 := [some (.ref 62), some (.int a1), some (.int a2), some (.int a3), some (.int a4), some (.int a5), some (.int 0)]) ?_ ⟨rfl, rfl, rfl, rfl, rfl, rfl, rfl, trivial⟩
                      refine ev_seq1 162 (fun z14 => [some (.ref 62), none, none, some (.int a3), some (.int a4), some (.int a5), none]) (fun z14 => z14) (ev_loop (embB := md_copy_128_X σ  a1 a2 a3 a4 a5) (ex := fun b => md_copy_128_X σ  a1 a2 a3 a4 a5 (.inr b)) 128 (fun z13 => [some (.ref 62), some (.int a1), some (.int a2), some (.int a3), some (.int a4), some (.int a5), some (.int z13.1)]) (fun z13 => z13.2) (fun _ => rfl) (fun _ => rfl) (e_md_copy_128_L σ  a1 a2 a3 a4 a5 ) 1000 (0, σ)) (fun _ => rfl) (fun e15 => ?_)
                      refine ev_iconst iX5_copy_162 kI_0 ?_
                      refine ev_istore (ls2 := [some (.ref 62), none, none, some (.int a3), some (.int a4), some (.int a5), some (.int 0)]) iX5_copy_163 (Nat.le_of_ble_eq_true rfl) (Nat.le_of_ble_eq_true rfl) rfl rfl ?_
                      refine ev_less (ls2 := [some (.ref 62), none, none, some (.int a3), some (.int a4), some (.int a5), some (.int 0)]) ?_ ⟨rfl, rfl, rfl, rfl, rfl, trivial⟩
                      refine ev_seq1 200 (fun z18 => [none, none, none, none, none, some (.int a5), none]) (fun z18 => z18) (ev_loop (embB := md_copy_165_X e15  a3 a4 a5) (ex := fun b => md_copy_165_X e15  a3 a4 a5 (.inr b)) 165 (fun z17 => [some (.ref 62), none, none, some (.int a3), some (.int a4), some (.int a5), some (.int z17.1)]) (fun z17 => z17.2) (fun _ => rfl) (fun _ => rfl) (e_md_copy_165_L e15  a3 a4 a5 ) 1000 (0, e15)) (fun _ => rfl) (fun e19 => ?_)
                      refine ev_iload iX5_copy_200 rfl ?_
                      exact ev_iret iX5_copy_202 rfl (narI rfl _)
          · refine ev_aload_n iX5_copy_61 rfl (by decide) rfl ?_
            refine ev_ldcw iX5_copy_62 kC_X5_333 ?_
            refine ev_VMI iX5_copy_65 kV_X5_66 (c_md_finding σ (-1000003)) rc_62 rfl rfl (Nat.le_of_ble_eq_true rfl) (sg_fitL (by decide) (Nat.le_of_ble_eq_true rfl)) (fun r20 => ?_)
            exact ev_iret iX5_copy_68 rfl (narI rfl _)
def md_saying (σ : sg_S) (a1 : Int32) (a2 : Int32) (a3 : Int32) : Option (Int32 × sg_S) :=
  ((md_isPerson σ a1).bind fun r1 => (if r1 = 0 then ((md_finding σ (-1000001)).bind fun r2 => some (r2.1, r2.2)) else ((md_isOne σ a2).bind fun r3 => (if r3 = 0 then ((md_finding σ (-1000001)).bind fun r4 => some (r4.1, r4.2)) else ((md_isNine σ a3).bind fun r5 => (if r5 = 0 then ((md_finding σ (-1000001)).bind fun r6 => some (r6.1, r6.2)) else (if (σ 63 3) = 6 then ((md_finding σ (-1000002)).bind fun r7 => some (r7.1, r7.2)) else ((md_isSaid σ a1 a2 a3).bind fun r8 => some (r8.1, r8.2)))))))))
set_option maxRecDepth 20000 in
set_option maxHeartbeats 2000000 in
theorem c_md_saying (σ : sg_S) (a1 : Int32) (a2 : Int32) (a3 : Int32)  : sg_Call yX5_saying mX5_saying (rmL 3) [.ref 62, .int a1, .int a2, .int a3] σ eMI (md_saying σ a1 a2 a3) := by
  refine sg_call_of (by decide +kernel) rfl (Nat.le_of_ble_eq_true rfl) rfl (fun _ => rfl) ?_
  refine ev_less (ls2 := [some (.ref 62), some (.int a1), some (.int a2), some (.int a3)]) ?_ ⟨rfl, rfl, rfl, rfl, trivial⟩
  unfold md_saying
  refine ev_aload_n iX5_saying_0 rfl (by decide) rfl ?_
  refine ev_iload_n iX5_saying_1 rfl rfl ?_
  refine ev_VRI iX5_saying_2 kV_X5_105 (c_md_isPerson σ a1) rc_62 rfl rfl (Nat.le_of_ble_eq_true rfl) (sg_fitL (by decide) (Nat.le_of_ble_eq_true rfl)) (fun r1 => ?_)
  refine ev_if_eq iX5_saying_5 ?_ ?_
  · refine ev_aload_n iX5_saying_22 rfl (by decide) rfl ?_
    refine ev_ldc iX5_saying_23 kC_X5_60 ?_
    refine ev_VMI iX5_saying_25 kV_X5_66 (c_md_finding σ (-1000001)) rc_62 rfl rfl (Nat.le_of_ble_eq_true rfl) (sg_fitL (by decide) (Nat.le_of_ble_eq_true rfl)) (fun r2 => ?_)
    exact ev_iret iX5_saying_28 rfl (narI rfl _)
  · refine ev_iload_n iX5_saying_8 rfl rfl ?_
    refine ev_SRI iX5_saying_9 kS_X5_78 (c_md_isOne σ a2) rfl rfl (Nat.le_of_ble_eq_true rfl) (sg_fitL (by decide) (Nat.le_of_ble_eq_true rfl)) (fun r3 => ?_)
    refine ev_if_eq iX5_saying_12 ?_ ?_
    · refine ev_aload_n iX5_saying_22 rfl (by decide) rfl ?_
      refine ev_ldc iX5_saying_23 kC_X5_60 ?_
      refine ev_VMI iX5_saying_25 kV_X5_66 (c_md_finding σ (-1000001)) rc_62 rfl rfl (Nat.le_of_ble_eq_true rfl) (sg_fitL (by decide) (Nat.le_of_ble_eq_true rfl)) (fun r4 => ?_)
      exact ev_iret iX5_saying_28 rfl (narI rfl _)
    · refine ev_iload_n iX5_saying_15 rfl rfl ?_
      refine ev_SRI iX5_saying_16 kS_X5_94 (c_md_isNine σ a3) rfl rfl (Nat.le_of_ble_eq_true rfl) (sg_fitL (by decide) (Nat.le_of_ble_eq_true rfl)) (fun r5 => ?_)
      refine ev_if_ne iX5_saying_19 ?_ ?_
      · refine ev_aload_n iX5_saying_22 rfl (by decide) rfl ?_
        refine ev_ldc iX5_saying_23 kC_X5_60 ?_
        refine ev_VMI iX5_saying_25 kV_X5_66 (c_md_finding σ (-1000001)) rc_62 rfl rfl (Nat.le_of_ble_eq_true rfl) (sg_fitL (by decide) (Nat.le_of_ble_eq_true rfl)) (fun r6 => ?_)
        exact ev_iret iX5_saying_28 rfl (narI rfl _)
      · refine ev_aload_n iX5_saying_29 rfl (by decide) rfl ?_
        refine ev_getR (k1 := 63) 5 0 iX5_saying_30 kF_X5_9 O_62 rfl (by decide) ?_
        refine ev_iconst iX5_saying_33 kI_3 ?_
        refine ev_ialdK 3 iX5_saying_34 A_63 rfl rfl ?_
        refine ev_bipush iX5_saying_35 kB_6 ?_
        refine ev_icmp_ne iX5_saying_37 ?_ ?_
        · refine ev_aload_n iX5_saying_40 rfl (by decide) rfl ?_
          refine ev_ldc iX5_saying_41 kC_X5_97 ?_
          refine ev_VMI iX5_saying_43 kV_X5_66 (c_md_finding σ (-1000002)) rc_62 rfl rfl (Nat.le_of_ble_eq_true rfl) (sg_fitL (by decide) (Nat.le_of_ble_eq_true rfl)) (fun r7 => ?_)
          refine ev_goto iX5_saying_46 ?_
          exact ev_iret iX5_saying_56 rfl (narI rfl _)
        · refine ev_aload_n iX5_saying_49 rfl (by decide) rfl ?_
          refine ev_iload_n iX5_saying_50 rfl rfl ?_
          refine ev_iload_n iX5_saying_51 rfl rfl ?_
          refine ev_iload_n iX5_saying_52 rfl rfl ?_
          refine ev_VMI iX5_saying_53 kV_X5_108 (c_md_isSaid σ a1 a2 a3) rc_62 rfl rfl (Nat.le_of_ble_eq_true rfl) (sg_fitL (by decide) (Nat.le_of_ble_eq_true rfl)) (fun r8 => ?_)
          exact ev_iret iX5_saying_56 rfl (narI rfl _)
def md_heardBy_4_X (σ : sg_S)  (f1 : Int32) : ((Int32 × Int32) ⊕ Int32) → sg_X
  | .inl a => .inr (4, [some (.ref 62), some (.int f1), some (.int a.1), some (.int a.2)], σ)
  | .inr e => .inr (39, [none, none, some (.int e), none], σ)
def md_heardBy_4_L (σ : sg_S)  (f1 : Int32) (a : (Int32 × Int32)) : Option ((Int32 × Int32) ⊕ Int32) :=
  (if a.2 < (σ 63 3) then ((md_hasHeard σ a.2 f1).bind fun r1 => (if r1 = 0 then sg_leti (a.1 ||| 0) (fun x2 => some (.inl (x2, (a.2 + 1)))) else sg_leti (a.1 ||| (jshl 1 a.2)) (fun x3 => some (.inl (x3, (a.2 + 1)))))) else some (.inr a.1))
set_option maxRecDepth 20000 in
set_option maxHeartbeats 2000000 in
theorem e_md_heardBy_4_L (σ : sg_S)  (f1 : Int32)  : ∀ a : (Int32 × Int32), Ev mX5_heardBy (rmL 3) 4 [some (.ref 62), some (.int f1), some (.int a.1), some (.int a.2)] [] σ (md_heardBy_4_X σ  f1) (md_heardBy_4_L σ  f1 a) := by
  intro a
  unfold md_heardBy_4_L
  refine ev_iload_n iX5_heardBy_4 rfl rfl ?_
  refine ev_aload_n iX5_heardBy_5 rfl (by decide) rfl ?_
  refine ev_getR (k1 := 63) 5 0 iX5_heardBy_6 kF_X5_9 O_62 rfl (by decide) ?_
  refine ev_iconst iX5_heardBy_9 kI_3 ?_
  refine ev_ialdK 3 iX5_heardBy_10 A_63 rfl rfl ?_
  refine ev_icmp_ge iX5_heardBy_11 ?_ ?_
  · refine ev_iload_n iX5_heardBy_14 rfl rfl ?_
    refine ev_aload_n iX5_heardBy_15 rfl (by decide) rfl ?_
    refine ev_iload_n iX5_heardBy_16 rfl rfl ?_
    refine ev_iload_n iX5_heardBy_17 rfl rfl ?_
    refine ev_VRI iX5_heardBy_18 kV_X5_115 (c_md_hasHeard σ a.2 f1) rc_62 rfl rfl (Nat.le_of_ble_eq_true rfl) (sg_fitL (by decide) (Nat.le_of_ble_eq_true rfl)) (fun r1 => ?_)
    refine ev_if_eq iX5_heardBy_21 ?_ ?_
    · refine ev_iconst iX5_heardBy_30 kI_0 ?_
      refine ev_ior iX5_heardBy_31 ?_
      refine ev_leti (fun x2 => ?_)
      refine ev_istore_n (ls2 := [some (.ref 62), some (.int f1), some (.int x2), some (.int a.2)]) iX5_heardBy_32 rfl (Nat.le_of_ble_eq_true rfl) (Nat.le_of_ble_eq_true rfl) rfl rfl ?_
      refine ev_iinc (v := (a.2 + 1)) (ls2 := [some (.ref 62), some (.int f1), some (.int x2), some (.int (a.2 + 1))]) iX5_heardBy_33 rfl (by rw [kI_1]) (Nat.le_of_ble_eq_true rfl) rfl rfl ?_
      refine ev_goto iX5_heardBy_36 ?_
      exact ev_exit rfl ⟨rfl, rfl, rfl, rfl, trivial⟩
    · refine ev_iconst iX5_heardBy_24 kI_1 ?_
      refine ev_iload_n iX5_heardBy_25 rfl rfl ?_
      refine ev_ishl iX5_heardBy_26 ?_
      refine ev_goto iX5_heardBy_27 ?_
      refine ev_ior iX5_heardBy_31 ?_
      refine ev_leti (fun x3 => ?_)
      refine ev_istore_n (ls2 := [some (.ref 62), some (.int f1), some (.int x3), some (.int a.2)]) iX5_heardBy_32 rfl (Nat.le_of_ble_eq_true rfl) (Nat.le_of_ble_eq_true rfl) rfl rfl ?_
      refine ev_iinc (v := (a.2 + 1)) (ls2 := [some (.ref 62), some (.int f1), some (.int x3), some (.int (a.2 + 1))]) iX5_heardBy_33 rfl (by rw [kI_1]) (Nat.le_of_ble_eq_true rfl) rfl rfl ?_
      refine ev_goto iX5_heardBy_36 ?_
      exact ev_exit rfl ⟨rfl, rfl, rfl, rfl, trivial⟩
  · exact ev_exit rfl ⟨rfl, trivial⟩
def md_heardBy (σ : sg_S) (a1 : Int32) : Option Int32 :=
  ((sg_lp (md_heardBy_4_L σ  a1) 1000 (0, 0)).bind fun e6 => some e6)
set_option maxRecDepth 20000 in
set_option maxHeartbeats 2000000 in
theorem c_md_heardBy (σ : sg_S) (a1 : Int32)  : sg_Call yX5_heardBy mX5_heardBy (rmL 3) [.ref 62, .int a1] σ (eRI σ) (md_heardBy σ a1) := by
  refine sg_call_of (by decide +kernel) rfl (Nat.le_of_ble_eq_true rfl) rfl (fun _ => rfl) ?_
  refine ev_less (ls2 := [some (.ref 62), some (.int a1), none, none]) ?_ ⟨rfl, rfl, trivial⟩
  unfold md_heardBy
  refine ev_iconst iX5_heardBy_0 kI_0 ?_
  refine ev_istore_n (ls2 := [some (.ref 62), some (.int a1), some (.int 0), none]) iX5_heardBy_1 rfl (Nat.le_of_ble_eq_true rfl) (Nat.le_of_ble_eq_true rfl) rfl rfl ?_
  refine ev_iconst iX5_heardBy_2 kI_0 ?_
  refine ev_istore_n (ls2 := [some (.ref 62), some (.int a1), some (.int 0), some (.int 0)]) iX5_heardBy_3 rfl (Nat.le_of_ble_eq_true rfl) (Nat.le_of_ble_eq_true rfl) rfl rfl ?_
  refine ev_less (ls2 := [some (.ref 62), some (.int a1), some (.int 0), some (.int 0)]) ?_ ⟨rfl, rfl, rfl, rfl, trivial⟩
  refine ev_seq1 39 (fun z5 => [none, none, some (.int z5), none]) (fun _ => σ) (ev_loop (embB := md_heardBy_4_X σ  a1) (ex := fun b => md_heardBy_4_X σ  a1 (.inr b)) 4 (fun z4 => [some (.ref 62), some (.int a1), some (.int z4.1), some (.int z4.2)]) (fun _ => σ) (fun _ => rfl) (fun _ => rfl) (e_md_heardBy_4_L σ  a1 ) 1000 (0, 0)) (fun _ => rfl) (fun e6 => ?_)
  refine ev_iload_n iX5_heardBy_39 rfl rfl ?_
  exact ev_iret iX5_heardBy_40 rfl (narI rfl _)
def md_change (σ : sg_S) (a1 : Int32) (a2 : Int32) (a3 : Int32) : Option (Int32 × sg_S) :=
  ((md_isPerson σ a1).bind fun r1 => (if r1 = 0 then ((md_finding σ (-1000001)).bind fun r2 => some (r2.1, r2.2)) else ((md_isField σ a2 a3).bind fun r3 => (if r3 = 0 then ((md_finding σ (-1000001)).bind fun r4 => some (r4.1, r4.2)) else ((md_personAt σ a1 a2).bind fun r5 => ((md_become σ r5 a3).bind fun r6 => some (r6.1, r6.2)))))))
set_option maxRecDepth 20000 in
set_option maxHeartbeats 2000000 in
theorem c_md_change (σ : sg_S) (a1 : Int32) (a2 : Int32) (a3 : Int32)  : sg_Call yX5_change mX5_change (rmL 3) [.ref 62, .int a1, .int a2, .int a3] σ eMI (md_change σ a1 a2 a3) := by
  refine sg_call_of (by decide +kernel) rfl (Nat.le_of_ble_eq_true rfl) rfl (fun _ => rfl) ?_
  refine ev_less (ls2 := [some (.ref 62), some (.int a1), some (.int a2), some (.int a3)]) ?_ ⟨rfl, rfl, rfl, rfl, trivial⟩
  unfold md_change
  refine ev_aload_n iX5_change_0 rfl (by decide) rfl ?_
  refine ev_iload_n iX5_change_1 rfl rfl ?_
  refine ev_VRI iX5_change_2 kV_X5_105 (c_md_isPerson σ a1) rc_62 rfl rfl (Nat.le_of_ble_eq_true rfl) (sg_fitL (by decide) (Nat.le_of_ble_eq_true rfl)) (fun r1 => ?_)
  refine ev_if_eq iX5_change_5 ?_ ?_
  · refine ev_aload_n iX5_change_29 rfl (by decide) rfl ?_
    refine ev_ldc iX5_change_30 kC_X5_60 ?_
    refine ev_VMI iX5_change_32 kV_X5_66 (c_md_finding σ (-1000001)) rc_62 rfl rfl (Nat.le_of_ble_eq_true rfl) (sg_fitL (by decide) (Nat.le_of_ble_eq_true rfl)) (fun r2 => ?_)
    exact ev_iret iX5_change_35 rfl (narI rfl _)
  · refine ev_iload_n iX5_change_8 rfl rfl ?_
    refine ev_iload_n iX5_change_9 rfl rfl ?_
    refine ev_SRI iX5_change_10 kS_X5_128 (c_md_isField σ a2 a3) rfl rfl (Nat.le_of_ble_eq_true rfl) (sg_fitL (by decide) (Nat.le_of_ble_eq_true rfl)) (fun r3 => ?_)
    refine ev_if_eq iX5_change_13 ?_ ?_
    · refine ev_aload_n iX5_change_29 rfl (by decide) rfl ?_
      refine ev_ldc iX5_change_30 kC_X5_60 ?_
      refine ev_VMI iX5_change_32 kV_X5_66 (c_md_finding σ (-1000001)) rc_62 rfl rfl (Nat.le_of_ble_eq_true rfl) (sg_fitL (by decide) (Nat.le_of_ble_eq_true rfl)) (fun r4 => ?_)
      exact ev_iret iX5_change_35 rfl (narI rfl _)
    · refine ev_aload_n iX5_change_16 rfl (by decide) rfl ?_
      refine ev_iload_n iX5_change_17 rfl rfl ?_
      refine ev_iload_n iX5_change_18 rfl rfl ?_
      refine ev_SRI iX5_change_19 kS_X5_85 (c_md_personAt σ a1 a2) rfl rfl (Nat.le_of_ble_eq_true rfl) (sg_fitL (by decide) (Nat.le_of_ble_eq_true rfl)) (fun r5 => ?_)
      refine ev_iload_n iX5_change_22 rfl rfl ?_
      refine ev_VMI iX5_change_23 kV_X5_81 (c_md_become σ r5 a3) rc_62 rfl rfl (Nat.le_of_ble_eq_true rfl) (sg_fitL (by decide) (Nat.le_of_ble_eq_true rfl)) (fun r6 => ?_)
      refine ev_goto iX5_change_26 ?_
      exact ev_iret iX5_change_35 rfl (narI rfl _)
def md_from (σ : sg_S) (a1 : Int32) (a2 : Int32) : Option (Int32 × sg_S) :=
  ((md_isSaying σ a1).bind fun r1 => (if r1 = 0 then ((md_finding σ (-1000001)).bind fun r2 => some (r2.1, r2.2)) else ((md_isPerson σ a2).bind fun r3 => (if r3 = 0 then ((md_finding σ (-1000001)).bind fun r4 => some (r4.1, r4.2)) else ((md_hasHeard σ a1 a2).bind fun r5 => (if r5 = 0 then ((md_finding σ (-1000004)).bind fun r6 => some (r6.1, r6.2)) else ((md_sayingIs σ a1 (3 + a2)).bind fun r7 => some (r7, σ))))))))
set_option maxRecDepth 20000 in
set_option maxHeartbeats 2000000 in
theorem c_md_from (σ : sg_S) (a1 : Int32) (a2 : Int32)  : sg_Call yX5_from mX5_from (rmL 3) [.ref 62, .int a1, .int a2] σ eMI (md_from σ a1 a2) := by
  refine sg_call_of (by decide +kernel) rfl (Nat.le_of_ble_eq_true rfl) rfl (fun _ => rfl) ?_
  refine ev_less (ls2 := [some (.ref 62), some (.int a1), some (.int a2)]) ?_ ⟨rfl, rfl, rfl, trivial⟩
  unfold md_from
  refine ev_aload_n iX5_from_0 rfl (by decide) rfl ?_
  refine ev_iload_n iX5_from_1 rfl rfl ?_
  refine ev_VRI iX5_from_2 kV_X5_131 (c_md_isSaying σ a1) rc_62 rfl rfl (Nat.le_of_ble_eq_true rfl) (sg_fitL (by decide) (Nat.le_of_ble_eq_true rfl)) (fun r1 => ?_)
  refine ev_if_eq iX5_from_5 ?_ ?_
  · refine ev_aload_n iX5_from_16 rfl (by decide) rfl ?_
    refine ev_ldc iX5_from_17 kC_X5_60 ?_
    refine ev_VMI iX5_from_19 kV_X5_66 (c_md_finding σ (-1000001)) rc_62 rfl rfl (Nat.le_of_ble_eq_true rfl) (sg_fitL (by decide) (Nat.le_of_ble_eq_true rfl)) (fun r2 => ?_)
    exact ev_iret iX5_from_22 rfl (narI rfl _)
  · refine ev_aload_n iX5_from_8 rfl (by decide) rfl ?_
    refine ev_iload_n iX5_from_9 rfl rfl ?_
    refine ev_VRI iX5_from_10 kV_X5_105 (c_md_isPerson σ a2) rc_62 rfl rfl (Nat.le_of_ble_eq_true rfl) (sg_fitL (by decide) (Nat.le_of_ble_eq_true rfl)) (fun r3 => ?_)
    refine ev_if_ne iX5_from_13 ?_ ?_
    · refine ev_aload_n iX5_from_16 rfl (by decide) rfl ?_
      refine ev_ldc iX5_from_17 kC_X5_60 ?_
      refine ev_VMI iX5_from_19 kV_X5_66 (c_md_finding σ (-1000001)) rc_62 rfl rfl (Nat.le_of_ble_eq_true rfl) (sg_fitL (by decide) (Nat.le_of_ble_eq_true rfl)) (fun r4 => ?_)
      exact ev_iret iX5_from_22 rfl (narI rfl _)
    · refine ev_aload_n iX5_from_23 rfl (by decide) rfl ?_
      refine ev_iload_n iX5_from_24 rfl rfl ?_
      refine ev_iload_n iX5_from_25 rfl rfl ?_
      refine ev_VRI iX5_from_26 kV_X5_115 (c_md_hasHeard σ a1 a2) rc_62 rfl rfl (Nat.le_of_ble_eq_true rfl) (sg_fitL (by decide) (Nat.le_of_ble_eq_true rfl)) (fun r5 => ?_)
      refine ev_if_eq iX5_from_29 ?_ ?_
      · refine ev_aload_n iX5_from_43 rfl (by decide) rfl ?_
        refine ev_ldc iX5_from_44 kC_X5_65 ?_
        refine ev_VMI iX5_from_46 kV_X5_66 (c_md_finding σ (-1000004)) rc_62 rfl rfl (Nat.le_of_ble_eq_true rfl) (sg_fitL (by decide) (Nat.le_of_ble_eq_true rfl)) (fun r6 => ?_)
        exact ev_iret iX5_from_49 rfl (narI rfl _)
      · refine ev_aload_n iX5_from_32 rfl (by decide) rfl ?_
        refine ev_iload_n iX5_from_33 rfl rfl ?_
        refine ev_iconst iX5_from_34 kI_3 ?_
        refine ev_iload_n iX5_from_35 rfl rfl ?_
        refine ev_iadd iX5_from_36 ?_
        refine ev_VRI iX5_from_37 kV_X5_112 (c_md_sayingIs σ a1 (3 + a2)) rc_62 rfl rfl (Nat.le_of_ble_eq_true rfl) (sg_fitL (by decide) (Nat.le_of_ble_eq_true rfl)) (fun r7 => ?_)
        refine ev_goto iX5_from_40 ?_
        exact ev_iret iX5_from_49 rfl (narI rfl _)
def md_tracedFrom_5_X (σ : sg_S)  (f1 : Int32) : ((Int32 × Int32) ⊕ (Unit ⊕ Int32)) → sg_X
  | .inl a => .inr (5, [some (.ref 62), some (.int f1), none, some (.int a.1), some (.int a.2), none], σ)
  | .inr (.inl _) => .inr (66, [none, none, none, none, none, none], σ)
  | .inr (.inr r) => .inl (eRI σ r)
def md_tracedFrom_5_L (σ : sg_S)  (f1 : Int32) (a : (Int32 × Int32)) : Option ((Int32 × Int32) ⊕ (Unit ⊕ Int32)) :=
  ((md_isOne σ a.2).bind fun r1 => (if r1 = 0 then some (.inr (.inl ())) else ((md_hasHeard σ f1 a.2).bind fun r2 => (if r2 = 0 then some (.inr (.inl ())) else (if ((jshr a.1 a.2) &&& 1) = 0 then sg_leti (a.1 ||| (jshl 1 a.2)) (fun x3 => ((md_sayingIs σ f1 (3 + a.2)).bind fun r4 => (if r4 = (-1) then some (.inr (.inr a.2)) else some (.inl (x3, r4))))) else some (.inr (.inl ())))))))
set_option maxRecDepth 20000 in
set_option maxHeartbeats 2000000 in
theorem e_md_tracedFrom_5_L (σ : sg_S)  (f1 : Int32)  : ∀ a : (Int32 × Int32), Ev mX5_tracedFrom (rmL 3) 5 [some (.ref 62), some (.int f1), none, some (.int a.1), some (.int a.2), none] [] σ (md_tracedFrom_5_X σ  f1) (md_tracedFrom_5_L σ  f1 a) := by
  intro a
  unfold md_tracedFrom_5_L
  refine ev_iload iX5_tracedFrom_5 rfl ?_
  refine ev_SRI iX5_tracedFrom_7 kS_X5_78 (c_md_isOne σ a.2) rfl rfl (Nat.le_of_ble_eq_true rfl) (sg_fitL (by decide) (Nat.le_of_ble_eq_true rfl)) (fun r1 => ?_)
  refine ev_if_eq iX5_tracedFrom_10 ?_ ?_
  · exact ev_exit rfl trivial
  · refine ev_aload_n iX5_tracedFrom_13 rfl (by decide) rfl ?_
    refine ev_iload_n iX5_tracedFrom_14 rfl rfl ?_
    refine ev_iload iX5_tracedFrom_15 rfl ?_
    refine ev_VRI iX5_tracedFrom_17 kV_X5_115 (c_md_hasHeard σ f1 a.2) rc_62 rfl rfl (Nat.le_of_ble_eq_true rfl) (sg_fitL (by decide) (Nat.le_of_ble_eq_true rfl)) (fun r2 => ?_)
    refine ev_if_eq iX5_tracedFrom_20 ?_ ?_
    · exact ev_exit rfl trivial
    · refine ev_iload_n iX5_tracedFrom_23 rfl rfl ?_
      refine ev_iload iX5_tracedFrom_24 rfl ?_
      refine ev_ishr iX5_tracedFrom_26 ?_
      refine ev_iconst iX5_tracedFrom_27 kI_1 ?_
      refine ev_iand iX5_tracedFrom_28 ?_
      refine ev_if_ne iX5_tracedFrom_29 ?_ ?_
      · refine ev_iload_n iX5_tracedFrom_32 rfl rfl ?_
        refine ev_iconst iX5_tracedFrom_33 kI_1 ?_
        refine ev_iload iX5_tracedFrom_34 rfl ?_
        refine ev_ishl iX5_tracedFrom_36 ?_
        refine ev_ior iX5_tracedFrom_37 ?_
        refine ev_leti (fun x3 => ?_)
        refine ev_istore_n (ls2 := [some (.ref 62), some (.int f1), none, some (.int x3), some (.int a.2), none]) iX5_tracedFrom_38 rfl (Nat.le_of_ble_eq_true rfl) (Nat.le_of_ble_eq_true rfl) rfl rfl ?_
        refine ev_aload_n iX5_tracedFrom_39 rfl (by decide) rfl ?_
        refine ev_iload_n iX5_tracedFrom_40 rfl rfl ?_
        refine ev_iconst iX5_tracedFrom_41 kI_3 ?_
        refine ev_iload iX5_tracedFrom_42 rfl ?_
        refine ev_iadd iX5_tracedFrom_44 ?_
        refine ev_VRI iX5_tracedFrom_45 kV_X5_112 (c_md_sayingIs σ f1 (3 + a.2)) rc_62 rfl rfl (Nat.le_of_ble_eq_true rfl) (sg_fitL (by decide) (Nat.le_of_ble_eq_true rfl)) (fun r4 => ?_)
        refine ev_istore (ls2 := [some (.ref 62), some (.int f1), none, some (.int x3), some (.int a.2), some (.int r4)]) iX5_tracedFrom_48 (Nat.le_of_ble_eq_true rfl) (Nat.le_of_ble_eq_true rfl) rfl rfl ?_
        refine ev_iload iX5_tracedFrom_50 rfl ?_
        refine ev_iconst iX5_tracedFrom_52 kI_m1 ?_
        refine ev_icmp_ne iX5_tracedFrom_53 ?_ ?_
        · refine ev_iload iX5_tracedFrom_56 rfl ?_
          exact ev_iret iX5_tracedFrom_58 rfl (narI rfl _)
        · refine ev_iload iX5_tracedFrom_59 rfl ?_
          refine ev_istore (ls2 := [some (.ref 62), some (.int f1), none, some (.int x3), some (.int r4), some (.int r4)]) iX5_tracedFrom_61 (Nat.le_of_ble_eq_true rfl) (Nat.le_of_ble_eq_true rfl) rfl rfl ?_
          refine ev_goto iX5_tracedFrom_63 ?_
          exact ev_exit rfl ⟨rfl, rfl, rfl, rfl, trivial⟩
      · exact ev_exit rfl trivial
def md_tracedFrom (σ : sg_S) (a1 : Int32) (a2 : Int32) : Option Int32 :=
  ((sg_lp (md_tracedFrom_5_L σ  a1) 1000 (0, a2)).bind (Sum.elim (fun _ => some 8) (fun rr => some rr)))
set_option maxRecDepth 20000 in
set_option maxHeartbeats 2000000 in
theorem c_md_tracedFrom (σ : sg_S) (a1 : Int32) (a2 : Int32)  : sg_Call yX5_tracedFrom mX5_tracedFrom (rmL 3) [.ref 62, .int a1, .int a2] σ (eRI σ) (md_tracedFrom σ a1 a2) := by
  refine sg_call_of (by decide +kernel) rfl (Nat.le_of_ble_eq_true rfl) rfl (fun _ => rfl) ?_
  refine ev_less (ls2 := [some (.ref 62), some (.int a1), some (.int a2), none, none, none]) ?_ ⟨rfl, rfl, rfl, trivial⟩
  unfold md_tracedFrom
  refine ev_iconst iX5_tracedFrom_0 kI_0 ?_
  refine ev_istore_n (ls2 := [some (.ref 62), some (.int a1), some (.int a2), some (.int 0), none, none]) iX5_tracedFrom_1 rfl (Nat.le_of_ble_eq_true rfl) (Nat.le_of_ble_eq_true rfl) rfl rfl ?_
  refine ev_iload_n iX5_tracedFrom_2 rfl rfl ?_
  refine ev_istore (ls2 := [some (.ref 62), some (.int a1), some (.int a2), some (.int 0), some (.int a2), none]) iX5_tracedFrom_3 (Nat.le_of_ble_eq_true rfl) (Nat.le_of_ble_eq_true rfl) rfl rfl ?_
  refine ev_less (ls2 := [some (.ref 62), some (.int a1), none, some (.int 0), some (.int a2), none]) ?_ ⟨rfl, rfl, rfl, rfl, trivial⟩
  refine ev_seqS 66 (fun _ => [none, none, none, none, none, none]) (fun _ => σ) (ev_loop (embB := md_tracedFrom_5_X σ  a1) (ex := fun b => md_tracedFrom_5_X σ  a1 (.inr b)) 5 (fun z5 => [some (.ref 62), some (.int a1), none, some (.int z5.1), some (.int z5.2), none]) (fun _ => σ) (fun _ => rfl) (fun _ => rfl) (e_md_tracedFrom_5_L σ  a1 ) 1000 (0, a2)) (fun _ => rfl) (fun r => ⟨_, rfl, fun a h => by cases h; rfl⟩) (fun e7 => ?_)
  refine ev_bipush iX5_tracedFrom_66 kB_8 ?_
  exact ev_iret iX5_tracedFrom_68 rfl (narI rfl _)
def md_talks_5_X (σ : sg_S)  (f1 : Int32) (f2 : Int32) : ((Int32 × Int32 × sg_S) ⊕ (Int32 × sg_S)) → sg_X
  | .inl a => .inr (5, [some (.ref 62), some (.int f1), some (.int f2), some (.int a.1), some (.int a.2.1)], a.2.2)
  | .inr e => .inr (106, [none, none, none, some (.int e.1), none], e.2)
def md_talks_5_L (σ : sg_S)  (f1 : Int32) (f2 : Int32) (a : (Int32 × Int32 × sg_S)) : Option ((Int32 × Int32 × sg_S) ⊕ (Int32 × sg_S)) :=
  (if a.2.1 < (a.2.2 63 3) then ((md_hasHeard a.2.2 a.2.1 f1).bind fun r1 => (if r1 = 0 then some (.inl (a.1, (a.2.1 + 1), a.2.2)) else ((md_hasHeard a.2.2 a.2.1 f2).bind fun r2 => (if r2 = 0 then ((md_tells a.2.2 f1 f2 a.2.1).bind fun r3 => (if r3 = 0 then some (.inl (a.1, (a.2.1 + 1), a.2.2)) else ((md_believes a.2.2 f2 a.2.1).bind fun r4 => (if r4 = 0 then some (.inl (a.1, (a.2.1 + 1), a.2.2)) else ((md_sayingAt a.2.2 a.2.1 2).bind fun r5 => (if sg_in r5 119 = true then (if sg_in r5 119 = true then sg_let (sg_st a.2.2 63 r5.toNatClampNeg ((a.2.2 63 r5.toNatClampNeg) ||| (jshl 1 f2))) (fun s6 => ((md_sayingAt s6 a.2.1 (3 + f2)).bind fun r7 => ((md_names s6 f2 f1).bind fun r8 => (if sg_in r7 119 = true then sg_let (sg_st s6 63 r7.toNatClampNeg r8) (fun s9 => sg_leti (a.1 ||| (jshl 1 a.2.1)) (fun x10 => some (.inl (x10, (a.2.1 + 1), s9)))) else none)))) else none) else none)))))) else some (.inl (a.1, (a.2.1 + 1), a.2.2)))))) else some (.inr (a.1, a.2.2)))
set_option maxRecDepth 20000 in
set_option maxHeartbeats 2000000 in
theorem e_md_talks_5_L (σ : sg_S)  (f1 : Int32) (f2 : Int32)  : ∀ a : (Int32 × Int32 × sg_S), Ev mX5_talks (rmL 3) 5 [some (.ref 62), some (.int f1), some (.int f2), some (.int a.1), some (.int a.2.1)] [] a.2.2 (md_talks_5_X σ  f1 f2) (md_talks_5_L σ  f1 f2 a) := by
  intro a
  unfold md_talks_5_L
  refine ev_iload iX5_talks_5 rfl ?_
  refine ev_aload_n iX5_talks_7 rfl (by decide) rfl ?_
  refine ev_getR (k1 := 63) 5 0 iX5_talks_8 kF_X5_9 O_62 rfl (by decide) ?_
  refine ev_iconst iX5_talks_11 kI_3 ?_
  refine ev_ialdK 3 iX5_talks_12 A_63 rfl rfl ?_
  refine ev_icmp_ge iX5_talks_13 ?_ ?_
  · refine ev_aload_n iX5_talks_16 rfl (by decide) rfl ?_
    refine ev_iload iX5_talks_17 rfl ?_
    refine ev_iload_n iX5_talks_19 rfl rfl ?_
    refine ev_VRI iX5_talks_20 kV_X5_115 (c_md_hasHeard a.2.2 a.2.1 f1) rc_62 rfl rfl (Nat.le_of_ble_eq_true rfl) (sg_fitL (by decide) (Nat.le_of_ble_eq_true rfl)) (fun r1 => ?_)
    refine ev_if_eq iX5_talks_23 ?_ ?_
    · refine ev_iinc (v := (a.2.1 + 1)) (ls2 := [some (.ref 62), some (.int f1), some (.int f2), some (.int a.1), some (.int (a.2.1 + 1))]) iX5_talks_100 rfl (by rw [kI_1]) (Nat.le_of_ble_eq_true rfl) rfl rfl ?_
      refine ev_goto iX5_talks_103 ?_
      exact ev_exit rfl ⟨rfl, rfl, rfl, rfl, rfl, trivial⟩
    · refine ev_aload_n iX5_talks_26 rfl (by decide) rfl ?_
      refine ev_iload iX5_talks_27 rfl ?_
      refine ev_iload_n iX5_talks_29 rfl rfl ?_
      refine ev_VRI iX5_talks_30 kV_X5_115 (c_md_hasHeard a.2.2 a.2.1 f2) rc_62 rfl rfl (Nat.le_of_ble_eq_true rfl) (sg_fitL (by decide) (Nat.le_of_ble_eq_true rfl)) (fun r2 => ?_)
      refine ev_if_ne iX5_talks_33 ?_ ?_
      · refine ev_aload_n iX5_talks_36 rfl (by decide) rfl ?_
        refine ev_iload_n iX5_talks_37 rfl rfl ?_
        refine ev_iload_n iX5_talks_38 rfl rfl ?_
        refine ev_iload iX5_talks_39 rfl ?_
        refine ev_VRI iX5_talks_41 kV_X5_137 (c_md_tells a.2.2 f1 f2 a.2.1) rc_62 rfl rfl (Nat.le_of_ble_eq_true rfl) (sg_fitL (by decide) (Nat.le_of_ble_eq_true rfl)) (fun r3 => ?_)
        refine ev_if_eq iX5_talks_44 ?_ ?_
        · refine ev_iinc (v := (a.2.1 + 1)) (ls2 := [some (.ref 62), some (.int f1), some (.int f2), some (.int a.1), some (.int (a.2.1 + 1))]) iX5_talks_100 rfl (by rw [kI_1]) (Nat.le_of_ble_eq_true rfl) rfl rfl ?_
          refine ev_goto iX5_talks_103 ?_
          exact ev_exit rfl ⟨rfl, rfl, rfl, rfl, rfl, trivial⟩
        · refine ev_aload_n iX5_talks_47 rfl (by decide) rfl ?_
          refine ev_iload_n iX5_talks_48 rfl rfl ?_
          refine ev_iload iX5_talks_49 rfl ?_
          refine ev_VRI iX5_talks_51 kV_X5_140 (c_md_believes a.2.2 f2 a.2.1) rc_62 rfl rfl (Nat.le_of_ble_eq_true rfl) (sg_fitL (by decide) (Nat.le_of_ble_eq_true rfl)) (fun r4 => ?_)
          refine ev_if_eq iX5_talks_54 ?_ ?_
          · refine ev_iinc (v := (a.2.1 + 1)) (ls2 := [some (.ref 62), some (.int f1), some (.int f2), some (.int a.1), some (.int (a.2.1 + 1))]) iX5_talks_100 rfl (by rw [kI_1]) (Nat.le_of_ble_eq_true rfl) rfl rfl ?_
            refine ev_goto iX5_talks_103 ?_
            exact ev_exit rfl ⟨rfl, rfl, rfl, rfl, rfl, trivial⟩
          · refine ev_aload_n iX5_talks_57 rfl (by decide) rfl ?_
            refine ev_getR (k1 := 63) 5 0 iX5_talks_58 kF_X5_9 O_62 rfl (by decide) ?_
            refine ev_iload iX5_talks_61 rfl ?_
            refine ev_iconst iX5_talks_63 kI_2 ?_
            refine ev_SRI iX5_talks_64 kS_X5_88 (c_md_sayingAt a.2.2 a.2.1 2) rfl rfl (Nat.le_of_ble_eq_true rfl) (sg_fitL (by decide) (Nat.le_of_ble_eq_true rfl)) (fun r5 => ?_)
            refine ev_dup2 iX5_talks_67 (by decide) ?_
            refine ev_iald iX5_talks_68 A_63 ?_
            refine ev_iconst iX5_talks_69 kI_1 ?_
            refine ev_iload_n iX5_talks_70 rfl rfl ?_
            refine ev_ishl iX5_talks_71 ?_
            refine ev_ior iX5_talks_72 ?_
            refine ev_iast iX5_talks_73 A_63 ?_
            refine ev_let (fun s6 => ?_)
            refine ev_aload_n iX5_talks_74 rfl (by decide) rfl ?_
            refine ev_getR (k1 := 63) 5 0 iX5_talks_75 kF_X5_9 O_62 rfl (by decide) ?_
            refine ev_iload iX5_talks_78 rfl ?_
            refine ev_iconst iX5_talks_80 kI_3 ?_
            refine ev_iload_n iX5_talks_81 rfl rfl ?_
            refine ev_iadd iX5_talks_82 ?_
            refine ev_SRI iX5_talks_83 kS_X5_88 (c_md_sayingAt s6 a.2.1 (3 + f2)) rfl rfl (Nat.le_of_ble_eq_true rfl) (sg_fitL (by decide) (Nat.le_of_ble_eq_true rfl)) (fun r7 => ?_)
            refine ev_aload_n iX5_talks_86 rfl (by decide) rfl ?_
            refine ev_iload_n iX5_talks_87 rfl rfl ?_
            refine ev_iload_n iX5_talks_88 rfl rfl ?_
            refine ev_VRI iX5_talks_89 kV_X5_143 (c_md_names s6 f2 f1) rc_62 rfl rfl (Nat.le_of_ble_eq_true rfl) (sg_fitL (by decide) (Nat.le_of_ble_eq_true rfl)) (fun r8 => ?_)
            refine ev_iast iX5_talks_92 A_63 ?_
            refine ev_let (fun s9 => ?_)
            refine ev_iload_n iX5_talks_93 rfl rfl ?_
            refine ev_iconst iX5_talks_94 kI_1 ?_
            refine ev_iload iX5_talks_95 rfl ?_
            refine ev_ishl iX5_talks_97 ?_
            refine ev_ior iX5_talks_98 ?_
            refine ev_leti (fun x10 => ?_)
            refine ev_istore_n (ls2 := [some (.ref 62), some (.int f1), some (.int f2), some (.int x10), some (.int a.2.1)]) iX5_talks_99 rfl (Nat.le_of_ble_eq_true rfl) (Nat.le_of_ble_eq_true rfl) rfl rfl ?_
            refine ev_iinc (v := (a.2.1 + 1)) (ls2 := [some (.ref 62), some (.int f1), some (.int f2), some (.int x10), some (.int (a.2.1 + 1))]) iX5_talks_100 rfl (by rw [kI_1]) (Nat.le_of_ble_eq_true rfl) rfl rfl ?_
            refine ev_goto iX5_talks_103 ?_
            exact ev_exit rfl ⟨rfl, rfl, rfl, rfl, rfl, trivial⟩
      · refine ev_iinc (v := (a.2.1 + 1)) (ls2 := [some (.ref 62), some (.int f1), some (.int f2), some (.int a.1), some (.int (a.2.1 + 1))]) iX5_talks_100 rfl (by rw [kI_1]) (Nat.le_of_ble_eq_true rfl) rfl rfl ?_
        refine ev_goto iX5_talks_103 ?_
        exact ev_exit rfl ⟨rfl, rfl, rfl, rfl, rfl, trivial⟩
  · exact ev_exit rfl ⟨rfl, trivial⟩
def md_talks (σ : sg_S) (a1 : Int32) (a2 : Int32) : Option (Int32 × sg_S) :=
  ((sg_lp (md_talks_5_L σ  a1 a2) 1000 (0, 0, σ)).bind fun e13 => some (e13.1, e13.2))
set_option maxRecDepth 20000 in
set_option maxHeartbeats 2000000 in
theorem c_md_talks (σ : sg_S) (a1 : Int32) (a2 : Int32)  : sg_Call yX5_talks mX5_talks (rmL 3) [.ref 62, .int a1, .int a2] σ eMI (md_talks σ a1 a2) := by
  refine sg_call_of (by decide +kernel) rfl (Nat.le_of_ble_eq_true rfl) rfl (fun _ => rfl) ?_
  refine ev_less (ls2 := [some (.ref 62), some (.int a1), some (.int a2), none, none]) ?_ ⟨rfl, rfl, rfl, trivial⟩
  unfold md_talks
  refine ev_iconst iX5_talks_0 kI_0 ?_
  refine ev_istore_n (ls2 := [some (.ref 62), some (.int a1), some (.int a2), some (.int 0), none]) iX5_talks_1 rfl (Nat.le_of_ble_eq_true rfl) (Nat.le_of_ble_eq_true rfl) rfl rfl ?_
  refine ev_iconst iX5_talks_2 kI_0 ?_
  refine ev_istore (ls2 := [some (.ref 62), some (.int a1), some (.int a2), some (.int 0), some (.int 0)]) iX5_talks_3 (Nat.le_of_ble_eq_true rfl) (Nat.le_of_ble_eq_true rfl) rfl rfl ?_
  refine ev_less (ls2 := [some (.ref 62), some (.int a1), some (.int a2), some (.int 0), some (.int 0)]) ?_ ⟨rfl, rfl, rfl, rfl, rfl, trivial⟩
  refine ev_seq1 106 (fun z12 => [none, none, none, some (.int z12.1), none]) (fun z12 => z12.2) (ev_loop (embB := md_talks_5_X σ  a1 a2) (ex := fun b => md_talks_5_X σ  a1 a2 (.inr b)) 5 (fun z11 => [some (.ref 62), some (.int a1), some (.int a2), some (.int z11.1), some (.int z11.2.1)]) (fun z11 => z11.2.2) (fun _ => rfl) (fun _ => rfl) (e_md_talks_5_L σ  a1 a2 ) 1000 (0, 0, σ)) (fun _ => rfl) (fun e13 => ?_)
  refine ev_iload_n iX5_talks_106 rfl rfl ?_
  exact ev_iret iX5_talks_107 rfl (narI rfl _)
def md_commonOnes_4_X (σ : sg_S)   : ((Int32 × Int32) ⊕ Int32) → sg_X
  | .inl a => .inr (4, [some (.ref 62), some (.int a.1), some (.int a.2)], σ)
  | .inr e => .inr (38, [none, some (.int e), none], σ)
def md_commonOnes_4_L (σ : sg_S)   (a : (Int32 × Int32)) : Option ((Int32 × Int32) ⊕ Int32) :=
  (if a.2 < (σ 63 3) then ((md_allHeard σ a.2).bind fun r1 => (if r1 = 0 then sg_leti (a.1 ||| 0) (fun x2 => some (.inl (x2, (a.2 + 1)))) else sg_leti (a.1 ||| (jshl 1 a.2)) (fun x3 => some (.inl (x3, (a.2 + 1)))))) else some (.inr a.1))
set_option maxRecDepth 20000 in
set_option maxHeartbeats 2000000 in
theorem e_md_commonOnes_4_L (σ : sg_S)    : ∀ a : (Int32 × Int32), Ev mX5_commonOnes (rmL 3) 4 [some (.ref 62), some (.int a.1), some (.int a.2)] [] σ (md_commonOnes_4_X σ  ) (md_commonOnes_4_L σ   a) := by
  intro a
  unfold md_commonOnes_4_L
  refine ev_iload_n iX5_commonOnes_4 rfl rfl ?_
  refine ev_aload_n iX5_commonOnes_5 rfl (by decide) rfl ?_
  refine ev_getR (k1 := 63) 5 0 iX5_commonOnes_6 kF_X5_9 O_62 rfl (by decide) ?_
  refine ev_iconst iX5_commonOnes_9 kI_3 ?_
  refine ev_ialdK 3 iX5_commonOnes_10 A_63 rfl rfl ?_
  refine ev_icmp_ge iX5_commonOnes_11 ?_ ?_
  · refine ev_iload_n iX5_commonOnes_14 rfl rfl ?_
    refine ev_aload_n iX5_commonOnes_15 rfl (by decide) rfl ?_
    refine ev_iload_n iX5_commonOnes_16 rfl rfl ?_
    refine ev_VRI iX5_commonOnes_17 kV_X5_189 (c_md_allHeard σ a.2) rc_62 rfl rfl (Nat.le_of_ble_eq_true rfl) (sg_fitL (by decide) (Nat.le_of_ble_eq_true rfl)) (fun r1 => ?_)
    refine ev_if_eq iX5_commonOnes_20 ?_ ?_
    · refine ev_iconst iX5_commonOnes_29 kI_0 ?_
      refine ev_ior iX5_commonOnes_30 ?_
      refine ev_leti (fun x2 => ?_)
      refine ev_istore_n (ls2 := [some (.ref 62), some (.int x2), some (.int a.2)]) iX5_commonOnes_31 rfl (Nat.le_of_ble_eq_true rfl) (Nat.le_of_ble_eq_true rfl) rfl rfl ?_
      refine ev_iinc (v := (a.2 + 1)) (ls2 := [some (.ref 62), some (.int x2), some (.int (a.2 + 1))]) iX5_commonOnes_32 rfl (by rw [kI_1]) (Nat.le_of_ble_eq_true rfl) rfl rfl ?_
      refine ev_goto iX5_commonOnes_35 ?_
      exact ev_exit rfl ⟨rfl, rfl, rfl, trivial⟩
    · refine ev_iconst iX5_commonOnes_23 kI_1 ?_
      refine ev_iload_n iX5_commonOnes_24 rfl rfl ?_
      refine ev_ishl iX5_commonOnes_25 ?_
      refine ev_goto iX5_commonOnes_26 ?_
      refine ev_ior iX5_commonOnes_30 ?_
      refine ev_leti (fun x3 => ?_)
      refine ev_istore_n (ls2 := [some (.ref 62), some (.int x3), some (.int a.2)]) iX5_commonOnes_31 rfl (Nat.le_of_ble_eq_true rfl) (Nat.le_of_ble_eq_true rfl) rfl rfl ?_
      refine ev_iinc (v := (a.2 + 1)) (ls2 := [some (.ref 62), some (.int x3), some (.int (a.2 + 1))]) iX5_commonOnes_32 rfl (by rw [kI_1]) (Nat.le_of_ble_eq_true rfl) rfl rfl ?_
      refine ev_goto iX5_commonOnes_35 ?_
      exact ev_exit rfl ⟨rfl, rfl, rfl, trivial⟩
  · exact ev_exit rfl ⟨rfl, trivial⟩
def md_commonOnes (σ : sg_S)  : Option Int32 :=
  ((sg_lp (md_commonOnes_4_L σ  ) 1000 (0, 0)).bind fun e6 => some e6)
set_option maxRecDepth 20000 in
set_option maxHeartbeats 2000000 in
theorem c_md_commonOnes (σ : sg_S)   : sg_Call yX5_commonOnes mX5_commonOnes (rmL 3) [.ref 62] σ (eRI σ) (md_commonOnes σ ) := by
  refine sg_call_of (by decide +kernel) rfl (Nat.le_of_ble_eq_true rfl) rfl (fun _ => rfl) ?_
  refine ev_less (ls2 := [some (.ref 62), none, none]) ?_ ⟨rfl, trivial⟩
  unfold md_commonOnes
  refine ev_iconst iX5_commonOnes_0 kI_0 ?_
  refine ev_istore_n (ls2 := [some (.ref 62), some (.int 0), none]) iX5_commonOnes_1 rfl (Nat.le_of_ble_eq_true rfl) (Nat.le_of_ble_eq_true rfl) rfl rfl ?_
  refine ev_iconst iX5_commonOnes_2 kI_0 ?_
  refine ev_istore_n (ls2 := [some (.ref 62), some (.int 0), some (.int 0)]) iX5_commonOnes_3 rfl (Nat.le_of_ble_eq_true rfl) (Nat.le_of_ble_eq_true rfl) rfl rfl ?_
  refine ev_less (ls2 := [some (.ref 62), some (.int 0), some (.int 0)]) ?_ ⟨rfl, rfl, rfl, trivial⟩
  refine ev_seq1 38 (fun z5 => [none, some (.int z5), none]) (fun _ => σ) (ev_loop (embB := md_commonOnes_4_X σ  ) (ex := fun b => md_commonOnes_4_X σ   (.inr b)) 4 (fun z4 => [some (.ref 62), some (.int z4.1), some (.int z4.2)]) (fun _ => σ) (fun _ => rfl) (fun _ => rfl) (e_md_commonOnes_4_L σ   ) 1000 (0, 0)) (fun _ => rfl) (fun e6 => ?_)
  refine ev_iload_n iX5_commonOnes_38 rfl rfl ?_
  exact ev_iret iX5_commonOnes_39 rfl (narI rfl _)
def md_odds_66_X (σ : sg_S)  (f1 : Int32) (f2 : Int32) (f3 : Int32) (f4 : Int32) (f5 : Int32) (f6 : Int32) : ((Int32 × Int32 × sg_S) ⊕ (Int32 × sg_S)) → sg_X
  | .inl a => .inr (66, [some (.ref 62), some (.int f1), some (.int f2), some (.int f3), some (.int f4), some (.int f5), some (.int f6), some (.int a.1), some (.int a.2.1), none, none, none, none], a.2.2)
  | .inr e => .inr (107, [some (.ref 62), none, none, some (.int f3), some (.int f4), some (.int f5), some (.int f6), some (.int e.1), none, none, none, none, none], e.2)
def md_odds_66_L (σ : sg_S)  (f1 : Int32) (f2 : Int32) (f3 : Int32) (f4 : Int32) (f5 : Int32) (f6 : Int32) (a : (Int32 × Int32 × sg_S)) : Option ((Int32 × Int32 × sg_S) ⊕ (Int32 × sg_S)) :=
  (if a.2.1 < 10 then (if sg_in f5 119 = true then sg_let (sg_st a.2.2 63 f5.toNatClampNeg a.2.1) (fun s11 => ((md_believes s11 f2 f1).bind fun r12 => (if r12 = 0 then sg_leti (a.1 + 0) (fun x13 => some (.inl (x13, (a.2.1 + 1), s11))) else sg_leti (a.1 + 1) (fun x14 => some (.inl (x14, (a.2.1 + 1), s11)))))) else none) else some (.inr (a.1, a.2.2)))
set_option maxRecDepth 20000 in
set_option maxHeartbeats 2000000 in
theorem e_md_odds_66_L (σ : sg_S)  (f1 : Int32) (f2 : Int32) (f3 : Int32) (f4 : Int32) (f5 : Int32) (f6 : Int32)  : ∀ a : (Int32 × Int32 × sg_S), Ev mX5_odds (rmL 3) 66 [some (.ref 62), some (.int f1), some (.int f2), some (.int f3), some (.int f4), some (.int f5), some (.int f6), some (.int a.1), some (.int a.2.1), none, none, none, none] [] a.2.2 (md_odds_66_X σ  f1 f2 f3 f4 f5 f6) (md_odds_66_L σ  f1 f2 f3 f4 f5 f6 a) := by
  intro a
  unfold md_odds_66_L
  refine ev_iload iX5_odds_66 rfl ?_
  refine ev_bipush iX5_odds_68 kB_10 ?_
  refine ev_icmp_ge iX5_odds_70 ?_ ?_
  · refine ev_aload_n iX5_odds_73 rfl (by decide) rfl ?_
    refine ev_getR (k1 := 63) 5 0 iX5_odds_74 kF_X5_9 O_62 rfl (by decide) ?_
    refine ev_iload iX5_odds_77 rfl ?_
    refine ev_iload iX5_odds_79 rfl ?_
    refine ev_iast iX5_odds_81 A_63 ?_
    refine ev_let (fun s11 => ?_)
    refine ev_iload iX5_odds_82 rfl ?_
    refine ev_aload_n iX5_odds_84 rfl (by decide) rfl ?_
    refine ev_iload_n iX5_odds_85 rfl rfl ?_
    refine ev_iload_n iX5_odds_86 rfl rfl ?_
    refine ev_VRI iX5_odds_87 kV_X5_140 (c_md_believes s11 f2 f1) rc_62 rfl rfl (Nat.le_of_ble_eq_true rfl) (sg_fitL (by decide) (Nat.le_of_ble_eq_true rfl)) (fun r12 => ?_)
    refine ev_if_eq iX5_odds_90 ?_ ?_
    · refine ev_iconst iX5_odds_97 kI_0 ?_
      refine ev_iadd iX5_odds_98 ?_
      refine ev_leti (fun x13 => ?_)
      refine ev_istore (ls2 := [some (.ref 62), some (.int f1), some (.int f2), some (.int f3), some (.int f4), some (.int f5), some (.int f6), some (.int x13), some (.int a.2.1), none, none, none, none]) iX5_odds_99 (Nat.le_of_ble_eq_true rfl) (Nat.le_of_ble_eq_true rfl) rfl rfl ?_
      refine ev_iinc (v := (a.2.1 + 1)) (ls2 := [some (.ref 62), some (.int f1), some (.int f2), some (.int f3), some (.int f4), some (.int f5), some (.int f6), some (.int x13), some (.int (a.2.1 + 1)), none, none, none, none]) iX5_odds_101 rfl (by rw [kI_1]) (Nat.le_of_ble_eq_true rfl) rfl rfl ?_
      refine ev_goto iX5_odds_104 ?_
      exact ev_exit rfl ⟨rfl, rfl, rfl, rfl, rfl, rfl, rfl, rfl, rfl, trivial⟩
    · refine ev_iconst iX5_odds_93 kI_1 ?_
      refine ev_goto iX5_odds_94 ?_
      refine ev_iadd iX5_odds_98 ?_
      refine ev_leti (fun x14 => ?_)
      refine ev_istore (ls2 := [some (.ref 62), some (.int f1), some (.int f2), some (.int f3), some (.int f4), some (.int f5), some (.int f6), some (.int x14), some (.int a.2.1), none, none, none, none]) iX5_odds_99 (Nat.le_of_ble_eq_true rfl) (Nat.le_of_ble_eq_true rfl) rfl rfl ?_
      refine ev_iinc (v := (a.2.1 + 1)) (ls2 := [some (.ref 62), some (.int f1), some (.int f2), some (.int f3), some (.int f4), some (.int f5), some (.int f6), some (.int x14), some (.int (a.2.1 + 1)), none, none, none, none]) iX5_odds_101 rfl (by rw [kI_1]) (Nat.le_of_ble_eq_true rfl) rfl rfl ?_
      refine ev_goto iX5_odds_104 ?_
      exact ev_exit rfl ⟨rfl, rfl, rfl, rfl, rfl, rfl, rfl, rfl, rfl, trivial⟩
  · exact ev_exit rfl ⟨rfl, rfl, rfl, rfl, rfl, rfl, trivial⟩
def md_odds_124_X (σ : sg_S)  (f3 : Int32) (f4 : Int32) (f7 : Int32) : ((Int32 × Int32) ⊕ Int32) → sg_X
  | .inl a => .inr (124, [none, none, none, some (.int f3), some (.int f4), none, none, some (.int f7), some (.int a.1), some (.int a.2), none, none, none], σ)
  | .inr e => .inr (147, [none, none, none, some (.int f3), some (.int f4), none, none, some (.int f7), some (.int e), none, none, none, none], σ)
def md_odds_124_L (σ : sg_S)  (f3 : Int32) (f4 : Int32) (f7 : Int32) (a : (Int32 × Int32)) : Option ((Int32 × Int32) ⊕ Int32) :=
  (if a.2 = 0 then some (.inr a.1) else (if a.2 = 0 then none else sg_leti (jrem a.1 a.2) (fun x19 => some (.inl (a.2, x19)))))
set_option maxRecDepth 20000 in
set_option maxHeartbeats 2000000 in
theorem e_md_odds_124_L (σ : sg_S)  (f3 : Int32) (f4 : Int32) (f7 : Int32)  : ∀ a : (Int32 × Int32), Ev mX5_odds (rmL 3) 124 [none, none, none, some (.int f3), some (.int f4), none, none, some (.int f7), some (.int a.1), some (.int a.2), none, none, none] [] σ (md_odds_124_X σ  f3 f4 f7) (md_odds_124_L σ  f3 f4 f7 a) := by
  intro a
  unfold md_odds_124_L
  refine ev_iload iX5_odds_124 rfl ?_
  refine ev_if_eq iX5_odds_126 ?_ ?_
  · exact ev_exit rfl ⟨rfl, rfl, rfl, rfl, trivial⟩
  · refine ev_iload iX5_odds_129 rfl ?_
    refine ev_iload iX5_odds_131 rfl ?_
    refine ev_irem iX5_odds_133 ?_
    refine ev_leti (fun x19 => ?_)
    refine ev_istore (ls2 := [none, none, none, some (.int f3), some (.int f4), none, none, some (.int f7), some (.int a.1), some (.int a.2), some (.int x19), none, none]) iX5_odds_134 (Nat.le_of_ble_eq_true rfl) (Nat.le_of_ble_eq_true rfl) rfl rfl ?_
    refine ev_iload iX5_odds_136 rfl ?_
    refine ev_istore (ls2 := [none, none, none, some (.int f3), some (.int f4), none, none, some (.int f7), some (.int a.2), some (.int a.2), some (.int x19), none, none]) iX5_odds_138 (Nat.le_of_ble_eq_true rfl) (Nat.le_of_ble_eq_true rfl) rfl rfl ?_
    refine ev_iload iX5_odds_140 rfl ?_
    refine ev_istore (ls2 := [none, none, none, some (.int f3), some (.int f4), none, none, some (.int f7), some (.int a.2), some (.int x19), some (.int x19), none, none]) iX5_odds_142 (Nat.le_of_ble_eq_true rfl) (Nat.le_of_ble_eq_true rfl) rfl rfl ?_
    refine ev_goto iX5_odds_144 ?_
    exact ev_exit rfl ⟨rfl, rfl, rfl, rfl, rfl, trivial⟩
def md_odds_153_X (σ : sg_S)  (f3 : Int32) (f4 : Int32) (f7 : Int32) (f8 : Int32) : ((Int64 × Int32) ⊕ Int64) → sg_X
  | .inl a => .inr (153, [none, none, none, some (.int f3), some (.int f4), none, none, some (.int f7), some (.int f8), none, some (.long a.1), none, some (.int a.2)], σ)
  | .inr e => .inr (186, [none, none, none, none, none, none, none, none, none, none, some (.long e), none, none], σ)
def md_odds_153_L (σ : sg_S)  (f3 : Int32) (f4 : Int32) (f7 : Int32) (f8 : Int32) (a : (Int64 × Int32)) : Option ((Int64 × Int32) ⊕ Int64) :=
  (if a.2 < f3 then (if f4 = 0 then (if f8 = 0 then none else sg_letl (a.1 * (f7 / f8).toInt64) (fun x23 => some (.inl (x23, (a.2 + 1))))) else (if f8 = 0 then none else sg_letl (a.1 * (10 / f8).toInt64) (fun x24 => some (.inl (x24, (a.2 + 1)))))) else some (.inr a.1))
set_option maxRecDepth 20000 in
set_option maxHeartbeats 2000000 in
theorem e_md_odds_153_L (σ : sg_S)  (f3 : Int32) (f4 : Int32) (f7 : Int32) (f8 : Int32)  : ∀ a : (Int64 × Int32), Ev mX5_odds (rmL 3) 153 [none, none, none, some (.int f3), some (.int f4), none, none, some (.int f7), some (.int f8), none, some (.long a.1), none, some (.int a.2)] [] σ (md_odds_153_X σ  f3 f4 f7 f8) (md_odds_153_L σ  f3 f4 f7 f8 a) := by
  intro a
  unfold md_odds_153_L
  refine ev_iload iX5_odds_153 rfl ?_
  refine ev_iload_n iX5_odds_155 rfl rfl ?_
  refine ev_icmp_ge iX5_odds_156 ?_ ?_
  · refine ev_lload iX5_odds_159 rfl ?_
    refine ev_iload iX5_odds_161 rfl ?_
    refine ev_if_ne iX5_odds_163 ?_ ?_
    · refine ev_iload iX5_odds_166 rfl ?_
      refine ev_goto iX5_odds_168 ?_
      refine ev_iload iX5_odds_173 rfl ?_
      refine ev_idiv iX5_odds_175 ?_
      refine ev_i2l iX5_odds_176 ?_
      refine ev_lmul iX5_odds_177 ?_
      refine ev_letl (fun x23 => ?_)
      refine ev_lstore (ls2 := [none, none, none, some (.int f3), some (.int f4), none, none, some (.int f7), some (.int f8), none, some (.long x23), none, some (.int a.2)]) iX5_odds_178 (Nat.le_of_ble_eq_true rfl) (Nat.le_of_ble_eq_true rfl) rfl rfl ?_
      refine ev_iinc (v := (a.2 + 1)) (ls2 := [none, none, none, some (.int f3), some (.int f4), none, none, some (.int f7), some (.int f8), none, some (.long x23), none, some (.int (a.2 + 1))]) iX5_odds_180 rfl (by rw [kI_1]) (Nat.le_of_ble_eq_true rfl) rfl rfl ?_
      refine ev_goto iX5_odds_183 ?_
      exact ev_exit rfl ⟨rfl, rfl, rfl, rfl, rfl, rfl, trivial⟩
    · refine ev_bipush iX5_odds_171 kB_10 ?_
      refine ev_iload iX5_odds_173 rfl ?_
      refine ev_idiv iX5_odds_175 ?_
      refine ev_i2l iX5_odds_176 ?_
      refine ev_lmul iX5_odds_177 ?_
      refine ev_letl (fun x24 => ?_)
      refine ev_lstore (ls2 := [none, none, none, some (.int f3), some (.int f4), none, none, some (.int f7), some (.int f8), none, some (.long x24), none, some (.int a.2)]) iX5_odds_178 (Nat.le_of_ble_eq_true rfl) (Nat.le_of_ble_eq_true rfl) rfl rfl ?_
      refine ev_iinc (v := (a.2 + 1)) (ls2 := [none, none, none, some (.int f3), some (.int f4), none, none, some (.int f7), some (.int f8), none, some (.long x24), none, some (.int (a.2 + 1))]) iX5_odds_180 rfl (by rw [kI_1]) (Nat.le_of_ble_eq_true rfl) rfl rfl ?_
      refine ev_goto iX5_odds_183 ?_
      exact ev_exit rfl ⟨rfl, rfl, rfl, rfl, rfl, rfl, trivial⟩
  · exact ev_exit rfl ⟨rfl, trivial⟩
def md_odds (σ : sg_S) (a1 : Int32) (a2 : Int32) (a3 : Int32) (a4 : Int32) : Option (Int64 × sg_S) :=
  ((md_isSaying σ a1).bind fun r1 => (if r1 = 0 then ((md_finding σ (-1000001)).bind fun r2 => some (r2.1.toInt64, r2.2)) else ((md_isPerson σ a2).bind fun r3 => (if r3 = 0 then ((md_finding σ (-1000001)).bind fun r4 => some (r4.1.toInt64, r4.2)) else ((md_within σ a3 0 18).bind fun r5 => (if r5 = 0 then ((md_finding σ (-1000001)).bind fun r6 => some (r6.1.toInt64, r6.2)) else ((md_within σ a4 0 1).bind fun r7 => (if r7 = 0 then ((md_finding σ (-1000001)).bind fun r8 => some (r8.1.toInt64, r8.2)) else ((md_sayingAt σ a1 1).bind fun r9 => (if sg_in r9 119 = true then sg_leti (σ 63 r9.toNatClampNeg) (fun x10 => ((sg_lp (md_odds_66_L σ  a1 a2 a3 a4 r9 x10) 1000 (0, 0, σ)).bind fun e17 => (if sg_in r9 119 = true then sg_let (sg_st e17.2 63 r9.toNatClampNeg x10) (fun s18 => ((sg_lp (md_odds_124_L s18  a3 a4 e17.1) 1000 (10, e17.1)).bind fun e22 => ((sg_lp (md_odds_153_L s18  a3 a4 e17.1 e22) 1000 (1, 0)).bind fun e27 => some (e27, s18)))) else none))) else none))))))))))
set_option maxRecDepth 20000 in
set_option maxHeartbeats 2000000 in
theorem c_md_odds (σ : sg_S) (a1 : Int32) (a2 : Int32) (a3 : Int32) (a4 : Int32)  : sg_Call yX5_odds mX5_odds (rmL 3) [.ref 62, .int a1, .int a2, .int a3, .int a4] σ eML (md_odds σ a1 a2 a3 a4) := by
  refine sg_call_of (by decide +kernel) rfl (Nat.le_of_ble_eq_true rfl) rfl (fun _ => rfl) ?_
  refine ev_less (ls2 := [some (.ref 62), some (.int a1), some (.int a2), some (.int a3), some (.int a4), none, none, none, none, none, none, none, none]) ?_ ⟨rfl, rfl, rfl, rfl, rfl, trivial⟩
  unfold md_odds
  refine ev_aload_n iX5_odds_0 rfl (by decide) rfl ?_
  refine ev_iload_n iX5_odds_1 rfl rfl ?_
  refine ev_VRI iX5_odds_2 kV_X5_131 (c_md_isSaying σ a1) rc_62 rfl rfl (Nat.le_of_ble_eq_true rfl) (sg_fitL (by decide) (Nat.le_of_ble_eq_true rfl)) (fun r1 => ?_)
  refine ev_if_eq iX5_odds_5 ?_ ?_
  · refine ev_aload_n iX5_odds_36 rfl (by decide) rfl ?_
    refine ev_ldc iX5_odds_37 kC_X5_60 ?_
    refine ev_VMI iX5_odds_39 kV_X5_66 (c_md_finding σ (-1000001)) rc_62 rfl rfl (Nat.le_of_ble_eq_true rfl) (sg_fitL (by decide) (Nat.le_of_ble_eq_true rfl)) (fun r2 => ?_)
    refine ev_i2l iX5_odds_42 ?_
    exact ev_lret iX5_odds_43 rfl
  · refine ev_aload_n iX5_odds_8 rfl (by decide) rfl ?_
    refine ev_iload_n iX5_odds_9 rfl rfl ?_
    refine ev_VRI iX5_odds_10 kV_X5_105 (c_md_isPerson σ a2) rc_62 rfl rfl (Nat.le_of_ble_eq_true rfl) (sg_fitL (by decide) (Nat.le_of_ble_eq_true rfl)) (fun r3 => ?_)
    refine ev_if_eq iX5_odds_13 ?_ ?_
    · refine ev_aload_n iX5_odds_36 rfl (by decide) rfl ?_
      refine ev_ldc iX5_odds_37 kC_X5_60 ?_
      refine ev_VMI iX5_odds_39 kV_X5_66 (c_md_finding σ (-1000001)) rc_62 rfl rfl (Nat.le_of_ble_eq_true rfl) (sg_fitL (by decide) (Nat.le_of_ble_eq_true rfl)) (fun r4 => ?_)
      refine ev_i2l iX5_odds_42 ?_
      exact ev_lret iX5_odds_43 rfl
    · refine ev_iload_n iX5_odds_16 rfl rfl ?_
      refine ev_iconst iX5_odds_17 kI_0 ?_
      refine ev_bipush iX5_odds_18 kB_18 ?_
      refine ev_SRI iX5_odds_20 kS_X5_70 (c_md_within σ a3 0 18) rfl rfl (Nat.le_of_ble_eq_true rfl) (sg_fitL (by decide) (Nat.le_of_ble_eq_true rfl)) (fun r5 => ?_)
      refine ev_if_eq iX5_odds_23 ?_ ?_
      · refine ev_aload_n iX5_odds_36 rfl (by decide) rfl ?_
        refine ev_ldc iX5_odds_37 kC_X5_60 ?_
        refine ev_VMI iX5_odds_39 kV_X5_66 (c_md_finding σ (-1000001)) rc_62 rfl rfl (Nat.le_of_ble_eq_true rfl) (sg_fitL (by decide) (Nat.le_of_ble_eq_true rfl)) (fun r6 => ?_)
        refine ev_i2l iX5_odds_42 ?_
        exact ev_lret iX5_odds_43 rfl
      · refine ev_iload iX5_odds_26 rfl ?_
        refine ev_iconst iX5_odds_28 kI_0 ?_
        refine ev_iconst iX5_odds_29 kI_1 ?_
        refine ev_SRI iX5_odds_30 kS_X5_70 (c_md_within σ a4 0 1) rfl rfl (Nat.le_of_ble_eq_true rfl) (sg_fitL (by decide) (Nat.le_of_ble_eq_true rfl)) (fun r7 => ?_)
        refine ev_if_ne iX5_odds_33 ?_ ?_
        · refine ev_aload_n iX5_odds_36 rfl (by decide) rfl ?_
          refine ev_ldc iX5_odds_37 kC_X5_60 ?_
          refine ev_VMI iX5_odds_39 kV_X5_66 (c_md_finding σ (-1000001)) rc_62 rfl rfl (Nat.le_of_ble_eq_true rfl) (sg_fitL (by decide) (Nat.le_of_ble_eq_true rfl)) (fun r8 => ?_)
          refine ev_i2l iX5_odds_42 ?_
          exact ev_lret iX5_odds_43 rfl
        · refine ev_iload_n iX5_odds_44 rfl rfl ?_
          refine ev_iconst iX5_odds_45 kI_1 ?_
          refine ev_SRI iX5_odds_46 kS_X5_88 (c_md_sayingAt σ a1 1) rfl rfl (Nat.le_of_ble_eq_true rfl) (sg_fitL (by decide) (Nat.le_of_ble_eq_true rfl)) (fun r9 => ?_)
          refine ev_istore (ls2 := [some (.ref 62), some (.int a1), some (.int a2), some (.int a3), some (.int a4), some (.int r9), none, none, none, none, none, none, none]) iX5_odds_49 (Nat.le_of_ble_eq_true rfl) (Nat.le_of_ble_eq_true rfl) rfl rfl ?_
          refine ev_aload_n iX5_odds_51 rfl (by decide) rfl ?_
          refine ev_getR (k1 := 63) 5 0 iX5_odds_52 kF_X5_9 O_62 rfl (by decide) ?_
          refine ev_iload iX5_odds_55 rfl ?_
          refine ev_iald iX5_odds_57 A_63 ?_
          refine ev_leti (fun x10 => ?_)
          refine ev_istore (ls2 := [some (.ref 62), some (.int a1), some (.int a2), some (.int a3), some (.int a4), some (.int r9), some (.int x10), none, none, none, none, none, none]) iX5_odds_58 (Nat.le_of_ble_eq_true rfl) (Nat.le_of_ble_eq_true rfl) rfl rfl ?_
          refine ev_iconst iX5_odds_60 kI_0 ?_
          refine ev_istore (ls2 := [some (.ref 62), some (.int a1), some (.int a2), some (.int a3), some (.int a4), some (.int r9), some (.int x10), some (.int 0), none, none, none, none, none]) iX5_odds_61 (Nat.le_of_ble_eq_true rfl) (Nat.le_of_ble_eq_true rfl) rfl rfl ?_
          refine ev_iconst iX5_odds_63 kI_0 ?_
          refine ev_istore (ls2 := [some (.ref 62), some (.int a1), some (.int a2), some (.int a3), some (.int a4), some (.int r9), some (.int x10), some (.int 0), some (.int 0), none, none, none, none]) iX5_odds_64 (Nat.le_of_ble_eq_true rfl) (Nat.le_of_ble_eq_true rfl) rfl rfl ?_
          refine ev_less (ls2 := [some (.ref 62), some (.int a1), some (.int a2), some (.int a3), some (.int a4), some (.int r9), some (.int x10), some (.int 0), some (.int 0), none, none, none, none]) ?_ ⟨rfl, rfl, rfl, rfl, rfl, rfl, rfl, rfl, rfl, trivial⟩
          refine ev_seq1 107 (fun z16 => [some (.ref 62), none, none, some (.int a3), some (.int a4), some (.int r9), some (.int x10), some (.int z16.1), none, none, none, none, none]) (fun z16 => z16.2) (ev_loop (embB := md_odds_66_X σ  a1 a2 a3 a4 r9 x10) (ex := fun b => md_odds_66_X σ  a1 a2 a3 a4 r9 x10 (.inr b)) 66 (fun z15 => [some (.ref 62), some (.int a1), some (.int a2), some (.int a3), some (.int a4), some (.int r9), some (.int x10), some (.int z15.1), some (.int z15.2.1), none, none, none, none]) (fun z15 => z15.2.2) (fun _ => rfl) (fun _ => rfl) (e_md_odds_66_L σ  a1 a2 a3 a4 r9 x10 ) 1000 (0, 0, σ)) (fun _ => rfl) (fun e17 => ?_)
          refine ev_aload_n iX5_odds_107 rfl (by decide) rfl ?_
          refine ev_getR (k1 := 63) 5 0 iX5_odds_108 kF_X5_9 O_62 rfl (by decide) ?_
          refine ev_iload iX5_odds_111 rfl ?_
          refine ev_iload iX5_odds_113 rfl ?_
          refine ev_iast iX5_odds_115 A_63 ?_
          refine ev_let (fun s18 => ?_)
          refine ev_bipush iX5_odds_116 kB_10 ?_
          refine ev_istore (ls2 := [some (.ref 62), none, none, some (.int a3), some (.int a4), some (.int r9), some (.int x10), some (.int e17.1), some (.int 10), none, none, none, none]) iX5_odds_118 (Nat.le_of_ble_eq_true rfl) (Nat.le_of_ble_eq_true rfl) rfl rfl ?_
          refine ev_iload iX5_odds_120 rfl ?_
          refine ev_istore (ls2 := [some (.ref 62), none, none, some (.int a3), some (.int a4), some (.int r9), some (.int x10), some (.int e17.1), some (.int 10), some (.int e17.1), none, none, none]) iX5_odds_122 (Nat.le_of_ble_eq_true rfl) (Nat.le_of_ble_eq_true rfl) rfl rfl ?_
          refine ev_less (ls2 := [none, none, none, some (.int a3), some (.int a4), none, none, some (.int e17.1), some (.int 10), some (.int e17.1), none, none, none]) ?_ ⟨rfl, rfl, rfl, rfl, rfl, trivial⟩
          refine ev_seq1 147 (fun z21 => [none, none, none, some (.int a3), some (.int a4), none, none, some (.int e17.1), some (.int z21), none, none, none, none]) (fun _ => s18) (ev_loop (embB := md_odds_124_X s18  a3 a4 e17.1) (ex := fun b => md_odds_124_X s18  a3 a4 e17.1 (.inr b)) 124 (fun z20 => [none, none, none, some (.int a3), some (.int a4), none, none, some (.int e17.1), some (.int z20.1), some (.int z20.2), none, none, none]) (fun _ => s18) (fun _ => rfl) (fun _ => rfl) (e_md_odds_124_L s18  a3 a4 e17.1 ) 1000 (10, e17.1)) (fun _ => rfl) (fun e22 => ?_)
          refine ev_lconst (v := 1) iX5_odds_147 rfl ?_
          refine ev_lstore (ls2 := [none, none, none, some (.int a3), some (.int a4), none, none, some (.int e17.1), some (.int e22), none, some (.long 1), none, none]) iX5_odds_148 (Nat.le_of_ble_eq_true rfl) (Nat.le_of_ble_eq_true rfl) rfl rfl ?_
          refine ev_iconst iX5_odds_150 kI_0 ?_
          refine ev_istore (ls2 := [none, none, none, some (.int a3), some (.int a4), none, none, some (.int e17.1), some (.int e22), none, some (.long 1), none, some (.int 0)]) iX5_odds_151 (Nat.le_of_ble_eq_true rfl) (Nat.le_of_ble_eq_true rfl) rfl rfl ?_
          refine ev_less (ls2 := [none, none, none, some (.int a3), some (.int a4), none, none, some (.int e17.1), some (.int e22), none, some (.long 1), none, some (.int 0)]) ?_ ⟨rfl, rfl, rfl, rfl, rfl, rfl, trivial⟩
          refine ev_seq1 186 (fun z26 => [none, none, none, none, none, none, none, none, none, none, some (.long z26), none, none]) (fun _ => s18) (ev_loop (embB := md_odds_153_X s18  a3 a4 e17.1 e22) (ex := fun b => md_odds_153_X s18  a3 a4 e17.1 e22 (.inr b)) 153 (fun z25 => [none, none, none, some (.int a3), some (.int a4), none, none, some (.int e17.1), some (.int e22), none, some (.long z25.1), none, some (.int z25.2)]) (fun _ => s18) (fun _ => rfl) (fun _ => rfl) (e_md_odds_153_L s18  a3 a4 e17.1 e22 ) 1000 (1, 0)) (fun _ => rfl) (fun e27 => ?_)
          refine ev_lload iX5_odds_186 rfl ?_
          exact ev_lret iX5_odds_188 rfl
def md_number (σ : sg_S) (a1 : Int32) (a2 : Int32) : Option (Int32 × sg_S) :=
  sg_leti (σ 62 10) (fun x1 => (if (σ 62 9) = 2 then ((md_within σ x1 a1 a2).bind fun r2 => (if r2 = 0 then ((md_must σ 0).bind fun r3 => some (x1, r3)) else ((md_must σ 1).bind fun r4 => some (x1, r4)))) else ((md_must σ 0).bind fun r5 => some (x1, r5))))
set_option maxRecDepth 20000 in
set_option maxHeartbeats 2000000 in
theorem c_md_number (σ : sg_S) (a1 : Int32) (a2 : Int32)  : sg_Call yX5_number mX5_number (rmL 3) [.ref 62, .int a1, .int a2] σ eMI (md_number σ a1 a2) := by
  refine sg_call_of (by decide +kernel) rfl (Nat.le_of_ble_eq_true rfl) rfl (fun _ => rfl) ?_
  refine ev_less (ls2 := [some (.ref 62), some (.int a1), some (.int a2), none]) ?_ ⟨rfl, rfl, rfl, trivial⟩
  unfold md_number
  refine ev_aload_n iX5_number_0 rfl (by decide) rfl ?_
  refine ev_getI 5 10 iX5_number_1 kF_X5_260 O_62 rfl ?_
  refine ev_leti (fun x1 => ?_)
  refine ev_istore_n (ls2 := [some (.ref 62), some (.int a1), some (.int a2), some (.int x1)]) iX5_number_4 rfl (Nat.le_of_ble_eq_true rfl) (Nat.le_of_ble_eq_true rfl) rfl rfl ?_
  refine ev_aload_n iX5_number_5 rfl (by decide) rfl ?_
  refine ev_aload_n iX5_number_6 rfl (by decide) rfl ?_
  refine ev_getI 5 9 iX5_number_7 kF_X5_263 O_62 rfl ?_
  refine ev_iconst iX5_number_10 kI_2 ?_
  refine ev_icmp_ne iX5_number_11 ?_ ?_
  · refine ev_iload_n iX5_number_14 rfl rfl ?_
    refine ev_iload_n iX5_number_15 rfl rfl ?_
    refine ev_iload_n iX5_number_16 rfl rfl ?_
    refine ev_SRI iX5_number_17 kS_X5_70 (c_md_within σ x1 a1 a2) rfl rfl (Nat.le_of_ble_eq_true rfl) (sg_fitL (by decide) (Nat.le_of_ble_eq_true rfl)) (fun r2 => ?_)
    refine ev_if_eq iX5_number_20 ?_ ?_
    · refine ev_iconst iX5_number_27 kI_0 ?_
      refine ev_VMV iX5_number_28 kV_X5_280 (c_md_must σ 0) rc_62 rfl rfl (Nat.le_of_ble_eq_true rfl) (sg_fitL (by decide) (Nat.le_of_ble_eq_true rfl)) (fun r3 => ?_)
      refine ev_iload_n iX5_number_31 rfl rfl ?_
      exact ev_iret iX5_number_32 rfl (narI rfl _)
    · refine ev_iconst iX5_number_23 kI_1 ?_
      refine ev_goto iX5_number_24 ?_
      refine ev_VMV iX5_number_28 kV_X5_280 (c_md_must σ 1) rc_62 rfl rfl (Nat.le_of_ble_eq_true rfl) (sg_fitL (by decide) (Nat.le_of_ble_eq_true rfl)) (fun r4 => ?_)
      refine ev_iload_n iX5_number_31 rfl rfl ?_
      exact ev_iret iX5_number_32 rfl (narI rfl _)
  · refine ev_iconst iX5_number_27 kI_0 ?_
    refine ev_VMV iX5_number_28 kV_X5_280 (c_md_must σ 0) rc_62 rfl rfl (Nat.le_of_ble_eq_true rfl) (sg_fitL (by decide) (Nat.le_of_ble_eq_true rfl)) (fun r5 => ?_)
    refine ev_iload_n iX5_number_31 rfl rfl ?_
    exact ev_iret iX5_number_32 rfl (narI rfl _)
def md_isToldSo (σ : sg_S) (a1 : Int32) : Option sg_S :=
  (if sg_in (a1 + 1) 480 = true then sg_leti (σ 69 (a1 + 1).toNatClampNeg) (fun x1 => (if sg_in (a1 + 2) 480 = true then sg_leti (σ 69 (a1 + 2).toNatClampNeg) (fun x2 => (if sg_in (a1 + 3) 480 = true then sg_leti (σ 69 (a1 + 3).toNatClampNeg) (fun x3 => (if sg_in a1 480 = true then (sg_sw (σ 69 a1.toNatClampNeg) [(10, ((md_isSaid σ x1 x2 x3).bind fun r7 => some r7.2)), (11, (if sg_in (5 + x1) 119 = true then sg_let (sg_st σ 63 (5 + x1).toNatClampNeg ((10 * x2) + x3)) (fun s8 => some s8) else none))] (if sg_in a1 480 = true then ((md_comes σ (σ 69 a1.toNatClampNeg) x1).bind fun r4 => ((md_personAt r4.2 r4.1 2).bind fun r5 => (if sg_in r5 119 = true then sg_let (sg_st r4.2 63 r5.toNatClampNeg x2) (fun s6 => some s6) else none))) else none)) else none)) else none)) else none)) else none)
set_option maxRecDepth 20000 in
set_option maxHeartbeats 2000000 in
theorem c_md_isToldSo (σ : sg_S) (a1 : Int32)  : sg_Call yX5_isToldSo mX5_isToldSo (rmL 3) [.ref 62, .int a1] σ eMV (md_isToldSo σ a1) := by
  refine sg_call_of (by decide +kernel) rfl (Nat.le_of_ble_eq_true rfl) rfl (fun _ => rfl) ?_
  refine ev_less (ls2 := [some (.ref 62), some (.int a1), none, none, none, none]) ?_ ⟨rfl, rfl, trivial⟩
  unfold md_isToldSo
  refine ev_aload_n iX5_isToldSo_0 rfl (by decide) rfl ?_
  refine ev_getR (k1 := 69) 5 13 iX5_isToldSo_1 kF_X5_45 O_62 rfl (by decide) ?_
  refine ev_iload_n iX5_isToldSo_4 rfl rfl ?_
  refine ev_iconst iX5_isToldSo_5 kI_1 ?_
  refine ev_iadd iX5_isToldSo_6 ?_
  refine ev_iald iX5_isToldSo_7 A_69 ?_
  refine ev_leti (fun x1 => ?_)
  refine ev_istore_n (ls2 := [some (.ref 62), some (.int a1), some (.int x1), none, none, none]) iX5_isToldSo_8 rfl (Nat.le_of_ble_eq_true rfl) (Nat.le_of_ble_eq_true rfl) rfl rfl ?_
  refine ev_aload_n iX5_isToldSo_9 rfl (by decide) rfl ?_
  refine ev_getR (k1 := 69) 5 13 iX5_isToldSo_10 kF_X5_45 O_62 rfl (by decide) ?_
  refine ev_iload_n iX5_isToldSo_13 rfl rfl ?_
  refine ev_iconst iX5_isToldSo_14 kI_2 ?_
  refine ev_iadd iX5_isToldSo_15 ?_
  refine ev_iald iX5_isToldSo_16 A_69 ?_
  refine ev_leti (fun x2 => ?_)
  refine ev_istore_n (ls2 := [some (.ref 62), some (.int a1), some (.int x1), some (.int x2), none, none]) iX5_isToldSo_17 rfl (Nat.le_of_ble_eq_true rfl) (Nat.le_of_ble_eq_true rfl) rfl rfl ?_
  refine ev_aload_n iX5_isToldSo_18 rfl (by decide) rfl ?_
  refine ev_getR (k1 := 69) 5 13 iX5_isToldSo_19 kF_X5_45 O_62 rfl (by decide) ?_
  refine ev_iload_n iX5_isToldSo_22 rfl rfl ?_
  refine ev_iconst iX5_isToldSo_23 kI_3 ?_
  refine ev_iadd iX5_isToldSo_24 ?_
  refine ev_iald iX5_isToldSo_25 A_69 ?_
  refine ev_leti (fun x3 => ?_)
  refine ev_istore (ls2 := [some (.ref 62), some (.int a1), some (.int x1), some (.int x2), some (.int x3), none]) iX5_isToldSo_26 (Nat.le_of_ble_eq_true rfl) (Nat.le_of_ble_eq_true rfl) rfl rfl ?_
  refine ev_aload_n iX5_isToldSo_28 rfl (by decide) rfl ?_
  refine ev_getR (k1 := 69) 5 13 iX5_isToldSo_29 kF_X5_45 O_62 rfl (by decide) ?_
  refine ev_iload_n iX5_isToldSo_32 rfl rfl ?_
  refine ev_iald iX5_isToldSo_33 A_69 ?_
  refine ev_lookup2 (dt := 90) (t1 := 60) (t2 := 72) iX5_isToldSo_34 (by decide) rfl rfl rfl rfl rfl ?_ ?_ ?_
  · refine ev_aload_n iX5_isToldSo_90 rfl (by decide) rfl ?_
    refine ev_aload_n iX5_isToldSo_91 rfl (by decide) rfl ?_
    refine ev_getR (k1 := 69) 5 13 iX5_isToldSo_92 kF_X5_45 O_62 rfl (by decide) ?_
    refine ev_iload_n iX5_isToldSo_95 rfl rfl ?_
    refine ev_iald iX5_isToldSo_96 A_69 ?_
    refine ev_iload_n iX5_isToldSo_97 rfl rfl ?_
    refine ev_VMI iX5_isToldSo_98 kV_X5_98 (c_md_comes σ (σ 69 a1.toNatClampNeg) x1) rc_62 rfl rfl (Nat.le_of_ble_eq_true rfl) (sg_fitL (by decide) (Nat.le_of_ble_eq_true rfl)) (fun r4 => ?_)
    refine ev_istore (ls2 := [some (.ref 62), some (.int a1), some (.int x1), some (.int x2), some (.int x3), some (.int r4.1)]) iX5_isToldSo_101 (Nat.le_of_ble_eq_true rfl) (Nat.le_of_ble_eq_true rfl) rfl rfl ?_
    refine ev_aload_n iX5_isToldSo_103 rfl (by decide) rfl ?_
    refine ev_getR (k1 := 63) 5 0 iX5_isToldSo_104 kF_X5_9 O_62 rfl (by decide) ?_
    refine ev_iload iX5_isToldSo_107 rfl ?_
    refine ev_iconst iX5_isToldSo_109 kI_2 ?_
    refine ev_SRI iX5_isToldSo_110 kS_X5_85 (c_md_personAt r4.2 r4.1 2) rfl rfl (Nat.le_of_ble_eq_true rfl) (sg_fitL (by decide) (Nat.le_of_ble_eq_true rfl)) (fun r5 => ?_)
    refine ev_iload_n iX5_isToldSo_113 rfl rfl ?_
    refine ev_iast iX5_isToldSo_114 A_63 ?_
    refine ev_let (fun s6 => ?_)
    exact ev_vret iX5_isToldSo_115 rfl
  · refine ev_aload_n iX5_isToldSo_60 rfl (by decide) rfl ?_
    refine ev_iload_n iX5_isToldSo_61 rfl rfl ?_
    refine ev_iload_n iX5_isToldSo_62 rfl rfl ?_
    refine ev_iload iX5_isToldSo_63 rfl ?_
    refine ev_VMI iX5_isToldSo_65 kV_X5_108 (c_md_isSaid σ x1 x2 x3) rc_62 rfl rfl (Nat.le_of_ble_eq_true rfl) (sg_fitL (by decide) (Nat.le_of_ble_eq_true rfl)) (fun r7 => ?_)
    refine ev_popI iX5_isToldSo_68 ?_
    refine ev_goto iX5_isToldSo_69 ?_
    exact ev_vret iX5_isToldSo_115 rfl
  · refine ev_aload_n iX5_isToldSo_72 rfl (by decide) rfl ?_
    refine ev_getR (k1 := 63) 5 0 iX5_isToldSo_73 kF_X5_9 O_62 rfl (by decide) ?_
    refine ev_iconst iX5_isToldSo_76 kI_5 ?_
    refine ev_iload_n iX5_isToldSo_77 rfl rfl ?_
    refine ev_iadd iX5_isToldSo_78 ?_
    refine ev_bipush iX5_isToldSo_79 kB_10 ?_
    refine ev_iload_n iX5_isToldSo_81 rfl rfl ?_
    refine ev_imul iX5_isToldSo_82 ?_
    refine ev_iload iX5_isToldSo_83 rfl ?_
    refine ev_iadd iX5_isToldSo_85 ?_
    refine ev_iast iX5_isToldSo_86 A_63 ?_
    refine ev_let (fun s8 => ?_)
    refine ev_goto iX5_isToldSo_87 ?_
    exact ev_vret iX5_isToldSo_115 rfl
def md_load_22_X (σ : sg_S)  (f1 : Int32) : ((Int32 × sg_S) ⊕ (Int32 × sg_S)) → sg_X
  | .inl a => .inr (22, [some (.ref 62), some (.int f1), some (.int a.1)], a.2)
  | .inr e => .inr (84, [none, none, some (.int e.1)], e.2)
def md_load_22_L (σ : sg_S)  (f1 : Int32) (a : (Int32 × sg_S)) : Option ((Int32 × sg_S) ⊕ (Int32 × sg_S)) :=
  (if sg_in f1 4 = true then (if a.1 < (a.2 71 f1.toNatClampNeg) then ((md_isPerson a.2 a.1).bind fun r2 => (if r2 = 0 then some (.inr (a.1, a.2)) else (if sg_in ((40 * f1) + a.1) 160 = true then ((md_isNine a.2 (a.2 72 ((40 * f1) + a.1).toNatClampNeg)).bind fun r3 => (if r3 = 0 then some (.inr (a.1, a.2)) else ((md_personAt a.2 a.1 1).bind fun r4 => (if sg_in ((40 * f1) + a.1) 160 = true then (if sg_in r4 119 = true then sg_let (sg_st a.2 63 r4.toNatClampNeg (a.2 72 ((40 * f1) + a.1).toNatClampNeg)) (fun s5 => some (.inl ((a.1 + 1), s5))) else none) else none)))) else none))) else some (.inr (a.1, a.2))) else none)
set_option maxRecDepth 20000 in
set_option maxHeartbeats 2000000 in
theorem e_md_load_22_L (σ : sg_S)  (f1 : Int32)  : ∀ a : (Int32 × sg_S), Ev mX5_load (rmL 3) 22 [some (.ref 62), some (.int f1), some (.int a.1)] [] a.2 (md_load_22_X σ  f1) (md_load_22_L σ  f1 a) := by
  intro a
  unfold md_load_22_L
  refine ev_iload_n iX5_load_22 rfl rfl ?_
  refine ev_aload_n iX5_load_23 rfl (by decide) rfl ?_
  refine ev_getR (k1 := 71) 5 18 iX5_load_24 kF_X5_51 O_62 rfl (by decide) ?_
  refine ev_iload_n iX5_load_27 rfl rfl ?_
  refine ev_iald iX5_load_28 A_71 ?_
  refine ev_icmp_ge iX5_load_29 ?_ ?_
  · refine ev_aload_n iX5_load_32 rfl (by decide) rfl ?_
    refine ev_iload_n iX5_load_33 rfl rfl ?_
    refine ev_VRI iX5_load_34 kV_X5_105 (c_md_isPerson a.2 a.1) rc_62 rfl rfl (Nat.le_of_ble_eq_true rfl) (sg_fitL (by decide) (Nat.le_of_ble_eq_true rfl)) (fun r2 => ?_)
    refine ev_if_eq iX5_load_37 ?_ ?_
    · exact ev_exit rfl ⟨rfl, trivial⟩
    · refine ev_aload_n iX5_load_40 rfl (by decide) rfl ?_
      refine ev_getR (k1 := 72) 5 19 iX5_load_41 kF_X5_54 O_62 rfl (by decide) ?_
      refine ev_bipush iX5_load_44 kB_40 ?_
      refine ev_iload_n iX5_load_46 rfl rfl ?_
      refine ev_imul iX5_load_47 ?_
      refine ev_iload_n iX5_load_48 rfl rfl ?_
      refine ev_iadd iX5_load_49 ?_
      refine ev_iald iX5_load_50 A_72 ?_
      refine ev_SRI iX5_load_51 kS_X5_94 (c_md_isNine a.2 (a.2 72 ((40 * f1) + a.1).toNatClampNeg)) rfl rfl (Nat.le_of_ble_eq_true rfl) (sg_fitL (by decide) (Nat.le_of_ble_eq_true rfl)) (fun r3 => ?_)
      refine ev_if_eq iX5_load_54 ?_ ?_
      · exact ev_exit rfl ⟨rfl, trivial⟩
      · refine ev_aload_n iX5_load_57 rfl (by decide) rfl ?_
        refine ev_getR (k1 := 63) 5 0 iX5_load_58 kF_X5_9 O_62 rfl (by decide) ?_
        refine ev_iload_n iX5_load_61 rfl rfl ?_
        refine ev_iconst iX5_load_62 kI_1 ?_
        refine ev_SRI iX5_load_63 kS_X5_85 (c_md_personAt a.2 a.1 1) rfl rfl (Nat.le_of_ble_eq_true rfl) (sg_fitL (by decide) (Nat.le_of_ble_eq_true rfl)) (fun r4 => ?_)
        refine ev_aload_n iX5_load_66 rfl (by decide) rfl ?_
        refine ev_getR (k1 := 72) 5 19 iX5_load_67 kF_X5_54 O_62 rfl (by decide) ?_
        refine ev_bipush iX5_load_70 kB_40 ?_
        refine ev_iload_n iX5_load_72 rfl rfl ?_
        refine ev_imul iX5_load_73 ?_
        refine ev_iload_n iX5_load_74 rfl rfl ?_
        refine ev_iadd iX5_load_75 ?_
        refine ev_iald iX5_load_76 A_72 ?_
        refine ev_iast iX5_load_77 A_63 ?_
        refine ev_let (fun s5 => ?_)
        refine ev_iinc (v := (a.1 + 1)) (ls2 := [some (.ref 62), some (.int f1), some (.int (a.1 + 1))]) iX5_load_78 rfl (by rw [kI_1]) (Nat.le_of_ble_eq_true rfl) rfl rfl ?_
        refine ev_goto iX5_load_81 ?_
        exact ev_exit rfl ⟨rfl, rfl, rfl, trivial⟩
  · exact ev_exit rfl ⟨rfl, trivial⟩
def md_load (σ : sg_S) (a1 : Int32) : Option (Int32 × sg_S) :=
  ((md_lacks σ a1 1).bind fun r1 => (if r1 = 0 then ((sg_lp (md_load_22_L σ  a1) 1000 (0, σ)).bind fun e8 => some (e8.1, e8.2)) else ((md_lacks σ a1 1).bind fun r9 => ((md_finding σ r9).bind fun r10 => some (r10.1, r10.2)))))
set_option maxRecDepth 20000 in
set_option maxHeartbeats 2000000 in
theorem c_md_load (σ : sg_S) (a1 : Int32)  : sg_Call yX5_load mX5_load (rmL 3) [.ref 62, .int a1] σ eMI (md_load σ a1) := by
  refine sg_call_of (by decide +kernel) rfl (Nat.le_of_ble_eq_true rfl) rfl (fun _ => rfl) ?_
  refine ev_less (ls2 := [some (.ref 62), some (.int a1), none]) ?_ ⟨rfl, rfl, trivial⟩
  unfold md_load
  refine ev_aload_n iX5_load_0 rfl (by decide) rfl ?_
  refine ev_iload_n iX5_load_1 rfl rfl ?_
  refine ev_iconst iX5_load_2 kI_1 ?_
  refine ev_VRI iX5_load_3 kV_X5_236 (c_md_lacks σ a1 1) rc_62 rfl rfl (Nat.le_of_ble_eq_true rfl) (sg_fitL (by decide) (Nat.le_of_ble_eq_true rfl)) (fun r1 => ?_)
  refine ev_if_eq iX5_load_6 ?_ ?_
  · refine ev_iconst iX5_load_20 kI_0 ?_
    refine ev_istore_n (ls2 := [some (.ref 62), some (.int a1), some (.int 0)]) iX5_load_21 rfl (Nat.le_of_ble_eq_true rfl) (Nat.le_of_ble_eq_true rfl) rfl rfl ?_
    refine ev_less (ls2 := [some (.ref 62), some (.int a1), some (.int 0)]) ?_ ⟨rfl, rfl, rfl, trivial⟩
    refine ev_seq1 84 (fun z7 => [none, none, some (.int z7.1)]) (fun z7 => z7.2) (ev_loop (embB := md_load_22_X σ  a1) (ex := fun b => md_load_22_X σ  a1 (.inr b)) 22 (fun z6 => [some (.ref 62), some (.int a1), some (.int z6.1)]) (fun z6 => z6.2) (fun _ => rfl) (fun _ => rfl) (e_md_load_22_L σ  a1 ) 1000 (0, σ)) (fun _ => rfl) (fun e8 => ?_)
    refine ev_iload_n iX5_load_84 rfl rfl ?_
    exact ev_iret iX5_load_85 rfl (narI rfl _)
  · refine ev_aload_n iX5_load_9 rfl (by decide) rfl ?_
    refine ev_aload_n iX5_load_10 rfl (by decide) rfl ?_
    refine ev_iload_n iX5_load_11 rfl rfl ?_
    refine ev_iconst iX5_load_12 kI_1 ?_
    refine ev_VRI iX5_load_13 kV_X5_236 (c_md_lacks σ a1 1) rc_62 rfl rfl (Nat.le_of_ble_eq_true rfl) (sg_fitL (by decide) (Nat.le_of_ble_eq_true rfl)) (fun r9 => ?_)
    refine ev_VMI iX5_load_16 kV_X5_66 (c_md_finding σ r9) rc_62 rfl rfl (Nat.le_of_ble_eq_true rfl) (sg_fitL (by decide) (Nat.le_of_ble_eq_true rfl)) (fun r10 => ?_)
    exact ev_iret iX5_load_19 rfl (narI rfl _)
def md_judge_22_X (σ : sg_S)  (f1 : Int32) : (Int32 ⊕ Int32) → sg_X
  | .inl a => .inr (22, [some (.ref 62), some (.int f1), some (.int a)], σ)
  | .inr e => .inr (66, [some (.ref 62), some (.int f1), some (.int e)], σ)
def md_judge_22_L (σ : sg_S)  (f1 : Int32) (a : Int32) : Option (Int32 ⊕ Int32) :=
  (if sg_in f1 4 = true then (if a < (σ 71 f1.toNatClampNeg) then ((md_isSaying σ a).bind fun r2 => (if r2 = 0 then some (.inr a) else (if sg_in ((40 * f1) + a) 160 = true then ((md_sayingIs σ a 2).bind fun r3 => (if (σ 72 ((40 * f1) + a).toNatClampNeg) = r3 then some (.inl (a + 1)) else some (.inr a))) else none))) else some (.inr a)) else none)
set_option maxRecDepth 20000 in
set_option maxHeartbeats 2000000 in
theorem e_md_judge_22_L (σ : sg_S)  (f1 : Int32)  : ∀ a : Int32, Ev mX5_judge (rmL 3) 22 [some (.ref 62), some (.int f1), some (.int a)] [] σ (md_judge_22_X σ  f1) (md_judge_22_L σ  f1 a) := by
  intro a
  unfold md_judge_22_L
  refine ev_iload_n iX5_judge_22 rfl rfl ?_
  refine ev_aload_n iX5_judge_23 rfl (by decide) rfl ?_
  refine ev_getR (k1 := 71) 5 18 iX5_judge_24 kF_X5_51 O_62 rfl (by decide) ?_
  refine ev_iload_n iX5_judge_27 rfl rfl ?_
  refine ev_iald iX5_judge_28 A_71 ?_
  refine ev_icmp_ge iX5_judge_29 ?_ ?_
  · refine ev_aload_n iX5_judge_32 rfl (by decide) rfl ?_
    refine ev_iload_n iX5_judge_33 rfl rfl ?_
    refine ev_VRI iX5_judge_34 kV_X5_131 (c_md_isSaying σ a) rc_62 rfl rfl (Nat.le_of_ble_eq_true rfl) (sg_fitL (by decide) (Nat.le_of_ble_eq_true rfl)) (fun r2 => ?_)
    refine ev_if_eq iX5_judge_37 ?_ ?_
    · exact ev_exit rfl ⟨rfl, rfl, rfl, trivial⟩
    · refine ev_aload_n iX5_judge_40 rfl (by decide) rfl ?_
      refine ev_getR (k1 := 72) 5 19 iX5_judge_41 kF_X5_54 O_62 rfl (by decide) ?_
      refine ev_bipush iX5_judge_44 kB_40 ?_
      refine ev_iload_n iX5_judge_46 rfl rfl ?_
      refine ev_imul iX5_judge_47 ?_
      refine ev_iload_n iX5_judge_48 rfl rfl ?_
      refine ev_iadd iX5_judge_49 ?_
      refine ev_iald iX5_judge_50 A_72 ?_
      refine ev_aload_n iX5_judge_51 rfl (by decide) rfl ?_
      refine ev_iload_n iX5_judge_52 rfl rfl ?_
      refine ev_iconst iX5_judge_53 kI_2 ?_
      refine ev_VRI iX5_judge_54 kV_X5_112 (c_md_sayingIs σ a 2) rc_62 rfl rfl (Nat.le_of_ble_eq_true rfl) (sg_fitL (by decide) (Nat.le_of_ble_eq_true rfl)) (fun r3 => ?_)
      refine ev_icmp_ne iX5_judge_57 ?_ ?_
      · refine ev_iinc (v := (a + 1)) (ls2 := [some (.ref 62), some (.int f1), some (.int (a + 1))]) iX5_judge_60 rfl (by rw [kI_1]) (Nat.le_of_ble_eq_true rfl) rfl rfl ?_
        refine ev_goto iX5_judge_63 ?_
        exact ev_exit rfl ⟨rfl, rfl, rfl, trivial⟩
      · exact ev_exit rfl ⟨rfl, rfl, rfl, trivial⟩
  · exact ev_exit rfl ⟨rfl, rfl, rfl, trivial⟩
def md_judge_J66 (σ : sg_S)   (v1 : Int32) (v2 : Int32) : Option (Int32 × sg_S) :=
  (if sg_in v1 4 = true then (if v2 = (σ 71 v1.toNatClampNeg) then some (0, σ) else some ((1 + v2), σ)) else none)
set_option maxRecDepth 20000 in
set_option maxHeartbeats 2000000 in
theorem e_md_judge_J66 (σ : sg_S)   (v1 : Int32) (v2 : Int32)  : Ev mX5_judge (rmL 3) 66 [some (.ref 62), some (.int v1), some (.int v2)] [] σ (fun b => Sum.inl (eMI b)) (md_judge_J66 σ   v1 v2) := by
  unfold md_judge_J66
  refine ev_iload_n iX5_judge_66 rfl rfl ?_
  refine ev_aload_n iX5_judge_67 rfl (by decide) rfl ?_
  refine ev_getR (k1 := 71) 5 18 iX5_judge_68 kF_X5_51 O_62 rfl (by decide) ?_
  refine ev_iload_n iX5_judge_71 rfl rfl ?_
  refine ev_iald iX5_judge_72 A_71 ?_
  refine ev_icmp_ne iX5_judge_73 ?_ ?_
  · refine ev_iconst iX5_judge_76 kI_0 ?_
    refine ev_goto iX5_judge_77 ?_
    exact ev_iret iX5_judge_83 rfl (fun ty _ => nar0 ty)
  · refine ev_iconst iX5_judge_80 kI_1 ?_
    refine ev_iload_n iX5_judge_81 rfl rfl ?_
    refine ev_iadd iX5_judge_82 ?_
    exact ev_iret iX5_judge_83 rfl (narI rfl _)
def md_judge (σ : sg_S) (a1 : Int32) : Option (Int32 × sg_S) :=
  ((md_lacks σ a1 1).bind fun r1 => (if r1 = 0 then ((sg_lp (md_judge_22_L σ  a1) 1000 0).bind fun e6 => md_judge_J66 σ a1 e6) else ((md_lacks σ a1 1).bind fun r7 => ((md_finding σ r7).bind fun r8 => some (r8.1, r8.2)))))
set_option maxRecDepth 20000 in
set_option maxHeartbeats 2000000 in
theorem c_md_judge (σ : sg_S) (a1 : Int32)  : sg_Call yX5_judge mX5_judge (rmL 3) [.ref 62, .int a1] σ eMI (md_judge σ a1) := by
  refine sg_call_of (by decide +kernel) rfl (Nat.le_of_ble_eq_true rfl) rfl (fun _ => rfl) ?_
  refine ev_less (ls2 := [some (.ref 62), some (.int a1), none]) ?_ ⟨rfl, rfl, trivial⟩
  unfold md_judge
  refine ev_aload_n iX5_judge_0 rfl (by decide) rfl ?_
  refine ev_iload_n iX5_judge_1 rfl rfl ?_
  refine ev_iconst iX5_judge_2 kI_1 ?_
  refine ev_VRI iX5_judge_3 kV_X5_236 (c_md_lacks σ a1 1) rc_62 rfl rfl (Nat.le_of_ble_eq_true rfl) (sg_fitL (by decide) (Nat.le_of_ble_eq_true rfl)) (fun r1 => ?_)
  refine ev_if_eq iX5_judge_6 ?_ ?_
  · refine ev_iconst iX5_judge_20 kI_0 ?_
    refine ev_istore_n (ls2 := [some (.ref 62), some (.int a1), some (.int 0)]) iX5_judge_21 rfl (Nat.le_of_ble_eq_true rfl) (Nat.le_of_ble_eq_true rfl) rfl rfl ?_
    refine ev_less (ls2 := [some (.ref 62), some (.int a1), some (.int 0)]) ?_ ⟨rfl, rfl, rfl, trivial⟩
    refine ev_seq1 66 (fun z5 => [some (.ref 62), some (.int a1), some (.int z5)]) (fun _ => σ) (ev_loop (embB := md_judge_22_X σ  a1) (ex := fun b => md_judge_22_X σ  a1 (.inr b)) 22 (fun z4 => [some (.ref 62), some (.int a1), some (.int z4)]) (fun _ => σ) (fun _ => rfl) (fun _ => rfl) (e_md_judge_22_L σ  a1 ) 1000 0) (fun _ => rfl) (fun e6 => ?_)
    exact ev_less (e_md_judge_J66 σ   a1 e6 ) ⟨rfl, rfl, rfl, trivial⟩
  · refine ev_aload_n iX5_judge_9 rfl (by decide) rfl ?_
    refine ev_aload_n iX5_judge_10 rfl (by decide) rfl ?_
    refine ev_iload_n iX5_judge_11 rfl rfl ?_
    refine ev_iconst iX5_judge_12 kI_1 ?_
    refine ev_VRI iX5_judge_13 kV_X5_236 (c_md_lacks σ a1 1) rc_62 rfl rfl (Nat.le_of_ble_eq_true rfl) (sg_fitL (by decide) (Nat.le_of_ble_eq_true rfl)) (fun r7 => ?_)
    refine ev_VMI iX5_judge_16 kV_X5_66 (c_md_finding σ r7) rc_62 rfl rfl (Nat.le_of_ble_eq_true rfl) (sg_fitL (by decide) (Nat.le_of_ble_eq_true rfl)) (fun r8 => ?_)
    exact ev_iret iX5_judge_19 rfl (narI rfl _)
def md_count_95_X (σ : sg_S)   : ((Int32 × Int32) ⊕ Int32) → sg_X
  | .inl a => .inr (95, [some (.ref 62), none, some (.int a.1), some (.int a.2)], σ)
  | .inr e => .inr (127, [none, none, some (.int e), none], σ)
def md_count_95_L (σ : sg_S)   (a : (Int32 × Int32)) : Option ((Int32 × Int32) ⊕ Int32) :=
  (if a.2 < 10 then (if sg_in (11 + a.2) 119 = true then (if (σ 63 (11 + a.2).toNatClampNeg) < 0 then sg_leti (a.1 + 0) (fun x3 => some (.inl (x3, (a.2 + 1)))) else sg_leti (a.1 + 1) (fun x4 => some (.inl (x4, (a.2 + 1))))) else none) else some (.inr a.1))
set_option maxRecDepth 20000 in
set_option maxHeartbeats 2000000 in
theorem e_md_count_95_L (σ : sg_S)    : ∀ a : (Int32 × Int32), Ev mX5_count (rmL 3) 95 [some (.ref 62), none, some (.int a.1), some (.int a.2)] [] σ (md_count_95_X σ  ) (md_count_95_L σ   a) := by
  intro a
  unfold md_count_95_L
  refine ev_iload_n iX5_count_95 rfl rfl ?_
  refine ev_bipush iX5_count_96 kB_10 ?_
  refine ev_icmp_ge iX5_count_98 ?_ ?_
  · refine ev_iload_n iX5_count_101 rfl rfl ?_
    refine ev_aload_n iX5_count_102 rfl (by decide) rfl ?_
    refine ev_getR (k1 := 63) 5 0 iX5_count_103 kF_X5_9 O_62 rfl (by decide) ?_
    refine ev_bipush iX5_count_106 kB_11 ?_
    refine ev_iload_n iX5_count_108 rfl rfl ?_
    refine ev_iadd iX5_count_109 ?_
    refine ev_iald iX5_count_110 A_63 ?_
    refine ev_if_ge iX5_count_111 ?_ ?_
    · refine ev_iconst iX5_count_114 kI_0 ?_
      refine ev_goto iX5_count_115 ?_
      refine ev_iadd iX5_count_119 ?_
      refine ev_leti (fun x3 => ?_)
      refine ev_istore_n (ls2 := [some (.ref 62), none, some (.int x3), some (.int a.2)]) iX5_count_120 rfl (Nat.le_of_ble_eq_true rfl) (Nat.le_of_ble_eq_true rfl) rfl rfl ?_
      refine ev_iinc (v := (a.2 + 1)) (ls2 := [some (.ref 62), none, some (.int x3), some (.int (a.2 + 1))]) iX5_count_121 rfl (by rw [kI_1]) (Nat.le_of_ble_eq_true rfl) rfl rfl ?_
      refine ev_goto iX5_count_124 ?_
      exact ev_exit rfl ⟨rfl, rfl, rfl, trivial⟩
    · refine ev_iconst iX5_count_118 kI_1 ?_
      refine ev_iadd iX5_count_119 ?_
      refine ev_leti (fun x4 => ?_)
      refine ev_istore_n (ls2 := [some (.ref 62), none, some (.int x4), some (.int a.2)]) iX5_count_120 rfl (Nat.le_of_ble_eq_true rfl) (Nat.le_of_ble_eq_true rfl) rfl rfl ?_
      refine ev_iinc (v := (a.2 + 1)) (ls2 := [some (.ref 62), none, some (.int x4), some (.int (a.2 + 1))]) iX5_count_121 rfl (by rw [kI_1]) (Nat.le_of_ble_eq_true rfl) rfl rfl ?_
      refine ev_goto iX5_count_124 ?_
      exact ev_exit rfl ⟨rfl, rfl, rfl, trivial⟩
  · exact ev_exit rfl ⟨rfl, trivial⟩
def md_count (σ : sg_S) (a1 : Int32) : Option (Int32 × sg_S) :=
  (sg_sw a1 [(0, some ((σ 63 0), σ)), (1, some ((σ 63 1), σ)), (2, some ((σ 63 3), σ)), (3, some ((σ 63 4), σ)), (4, ((md_blamedInAll σ).bind fun r2 => some (r2, σ))), (5, some ((σ 62 6), σ)), (6, some ((σ 63 2), σ)), (7, ((sg_lp (md_count_95_L σ  ) 1000 (0, 0)).bind fun e7 => some (e7, σ)))] ((md_finding σ (-1000001)).bind fun r1 => some (r1.1, r1.2)))
set_option maxRecDepth 20000 in
set_option maxHeartbeats 2000000 in
theorem c_md_count (σ : sg_S) (a1 : Int32)  : sg_Call yX5_count mX5_count (rmL 3) [.ref 62, .int a1] σ eMI (md_count σ a1) := by
  refine sg_call_of (by decide +kernel) rfl (Nat.le_of_ble_eq_true rfl) rfl (fun _ => rfl) ?_
  refine ev_less (ls2 := [some (.ref 62), some (.int a1), none, none]) ?_ ⟨rfl, rfl, trivial⟩
  unfold md_count
  refine ev_iconst iX5_count_0 kI_0 ?_
  refine ev_istore_n (ls2 := [some (.ref 62), some (.int a1), some (.int 0), none]) iX5_count_1 rfl (Nat.le_of_ble_eq_true rfl) (Nat.le_of_ble_eq_true rfl) rfl rfl ?_
  refine ev_iload_n iX5_count_2 rfl rfl ?_
  refine ev_table (dt := 129) [48, 55, 62, 69, 76, 81, 86, 93] iX5_count_3 rfl rfl ⟨rfl, rfl, rfl, rfl, rfl, rfl, rfl, rfl, rfl, rfl, rfl, rfl, rfl, rfl, rfl, rfl, trivial⟩ ?_ ⟨?_, ?_, ?_, ?_, ?_, ?_, ?_, ?_, trivial⟩
  · refine ev_aload_n iX5_count_129 rfl (by decide) rfl ?_
    refine ev_ldc iX5_count_130 kC_X5_60 ?_
    refine ev_VMI iX5_count_132 kV_X5_66 (c_md_finding σ (-1000001)) rc_62 rfl rfl (Nat.le_of_ble_eq_true rfl) (sg_fitL (by decide) (Nat.le_of_ble_eq_true rfl)) (fun r1 => ?_)
    exact ev_iret iX5_count_135 rfl (narI rfl _)
  · refine ev_aload_n iX5_count_48 rfl (by decide) rfl ?_
    refine ev_getR (k1 := 63) 5 0 iX5_count_49 kF_X5_9 O_62 rfl (by decide) ?_
    refine ev_iconst iX5_count_52 kI_0 ?_
    refine ev_ialdK 0 iX5_count_53 A_63 rfl rfl ?_
    exact ev_iret iX5_count_54 rfl (narI rfl _)
  · refine ev_aload_n iX5_count_55 rfl (by decide) rfl ?_
    refine ev_getR (k1 := 63) 5 0 iX5_count_56 kF_X5_9 O_62 rfl (by decide) ?_
    refine ev_iconst iX5_count_59 kI_1 ?_
    refine ev_ialdK 1 iX5_count_60 A_63 rfl rfl ?_
    exact ev_iret iX5_count_61 rfl (narI rfl _)
  · refine ev_aload_n iX5_count_62 rfl (by decide) rfl ?_
    refine ev_getR (k1 := 63) 5 0 iX5_count_63 kF_X5_9 O_62 rfl (by decide) ?_
    refine ev_iconst iX5_count_66 kI_3 ?_
    refine ev_ialdK 3 iX5_count_67 A_63 rfl rfl ?_
    exact ev_iret iX5_count_68 rfl (narI rfl _)
  · refine ev_aload_n iX5_count_69 rfl (by decide) rfl ?_
    refine ev_getR (k1 := 63) 5 0 iX5_count_70 kF_X5_9 O_62 rfl (by decide) ?_
    refine ev_iconst iX5_count_73 kI_4 ?_
    refine ev_ialdK 4 iX5_count_74 A_63 rfl rfl ?_
    exact ev_iret iX5_count_75 rfl (narI rfl _)
  · refine ev_aload_n iX5_count_76 rfl (by decide) rfl ?_
    refine ev_VRI iX5_count_77 kV_X5_198 (c_md_blamedInAll σ ) rc_62 rfl rfl (Nat.le_of_ble_eq_true rfl) (sg_fitL (by decide) (Nat.le_of_ble_eq_true rfl)) (fun r2 => ?_)
    exact ev_iret iX5_count_80 rfl (narI rfl _)
  · refine ev_aload_n iX5_count_81 rfl (by decide) rfl ?_
    refine ev_getI 5 6 iX5_count_82 kF_X5_247 O_62 rfl ?_
    exact ev_iret iX5_count_85 rfl (narI rfl _)
  · refine ev_aload_n iX5_count_86 rfl (by decide) rfl ?_
    refine ev_getR (k1 := 63) 5 0 iX5_count_87 kF_X5_9 O_62 rfl (by decide) ?_
    refine ev_iconst iX5_count_90 kI_2 ?_
    refine ev_ialdK 2 iX5_count_91 A_63 rfl rfl ?_
    exact ev_iret iX5_count_92 rfl (narI rfl _)
  · refine ev_iconst iX5_count_93 kI_0 ?_
    refine ev_istore_n (ls2 := [some (.ref 62), some (.int a1), some (.int 0), some (.int 0)]) iX5_count_94 rfl (Nat.le_of_ble_eq_true rfl) (Nat.le_of_ble_eq_true rfl) rfl rfl ?_
    refine ev_less (ls2 := [some (.ref 62), none, some (.int 0), some (.int 0)]) ?_ ⟨rfl, rfl, rfl, trivial⟩
    refine ev_seq1 127 (fun z6 => [none, none, some (.int z6), none]) (fun _ => σ) (ev_loop (embB := md_count_95_X σ  ) (ex := fun b => md_count_95_X σ   (.inr b)) 95 (fun z5 => [some (.ref 62), none, some (.int z5.1), some (.int z5.2)]) (fun _ => σ) (fun _ => rfl) (fun _ => rfl) (e_md_count_95_L σ   ) 1000 (0, 0)) (fun _ => rfl) (fun e7 => ?_)
    refine ev_iload_n iX5_count_127 rfl rfl ?_
    exact ev_iret iX5_count_128 rfl (narI rfl _)
def md_told (σ : sg_S) (a1 : Int32) (a2 : Int32) : Option Int32 :=
  (if a2 = 4 then ((md_heardBy σ a1).bind fun r1 => some r1) else ((md_personIs σ a1 a2).bind fun r2 => some r2))
set_option maxRecDepth 20000 in
set_option maxHeartbeats 2000000 in
theorem c_md_told (σ : sg_S) (a1 : Int32) (a2 : Int32)  : sg_Call yX5_told mX5_told (rmL 4) [.ref 62, .int a1, .int a2] σ (eRI σ) (md_told σ a1 a2) := by
  refine sg_call_of (by decide +kernel) rfl (Nat.le_of_ble_eq_true rfl) rfl (fun _ => rfl) ?_
  refine ev_less (ls2 := [some (.ref 62), some (.int a1), some (.int a2)]) ?_ ⟨rfl, rfl, rfl, trivial⟩
  unfold md_told
  refine ev_iload_n iX5_told_0 rfl rfl ?_
  refine ev_iconst iX5_told_1 kI_4 ?_
  refine ev_icmp_ne iX5_told_2 ?_ ?_
  · refine ev_aload_n iX5_told_5 rfl (by decide) rfl ?_
    refine ev_iload_n iX5_told_6 rfl rfl ?_
    refine ev_VRI iX5_told_7 kV_X5_119 (c_md_heardBy σ a1) rc_62 rfl rfl (Nat.le_of_ble_eq_true rfl) (sg_fitL (by decide) (Nat.le_of_ble_eq_true rfl)) (fun r1 => ?_)
    refine ev_goto iX5_told_10 ?_
    exact ev_iret iX5_told_19 rfl (narI rfl _)
  · refine ev_aload_n iX5_told_13 rfl (by decide) rfl ?_
    refine ev_iload_n iX5_told_14 rfl rfl ?_
    refine ev_iload_n iX5_told_15 rfl rfl ?_
    refine ev_VRI iX5_told_16 kV_X5_122 (c_md_personIs σ a1 a2) rc_62 rfl rfl (Nat.le_of_ble_eq_true rfl) (sg_fitL (by decide) (Nat.le_of_ble_eq_true rfl)) (fun r2 => ?_)
    exact ev_iret iX5_told_19 rfl (narI rfl _)
def md_traced (σ : sg_S) (a1 : Int32) (a2 : Int32) : Option (Int32 × sg_S) :=
  ((md_isSaying σ a1).bind fun r1 => (if r1 = 0 then ((md_finding σ (-1000001)).bind fun r2 => some (r2.1, r2.2)) else ((md_isPerson σ a2).bind fun r3 => (if r3 = 0 then ((md_finding σ (-1000001)).bind fun r4 => some (r4.1, r4.2)) else ((md_hasHeard σ a1 a2).bind fun r5 => (if r5 = 0 then ((md_finding σ (-1000004)).bind fun r6 => some (r6.1, r6.2)) else ((md_tracedFrom σ a1 a2).bind fun r7 => some (r7, σ))))))))
set_option maxRecDepth 20000 in
set_option maxHeartbeats 2000000 in
theorem c_md_traced (σ : sg_S) (a1 : Int32) (a2 : Int32)  : sg_Call yX5_traced mX5_traced (rmL 4) [.ref 62, .int a1, .int a2] σ eMI (md_traced σ a1 a2) := by
  refine sg_call_of (by decide +kernel) rfl (Nat.le_of_ble_eq_true rfl) rfl (fun _ => rfl) ?_
  refine ev_less (ls2 := [some (.ref 62), some (.int a1), some (.int a2)]) ?_ ⟨rfl, rfl, rfl, trivial⟩
  unfold md_traced
  refine ev_aload_n iX5_traced_0 rfl (by decide) rfl ?_
  refine ev_iload_n iX5_traced_1 rfl rfl ?_
  refine ev_VRI iX5_traced_2 kV_X5_131 (c_md_isSaying σ a1) rc_62 rfl rfl (Nat.le_of_ble_eq_true rfl) (sg_fitL (by decide) (Nat.le_of_ble_eq_true rfl)) (fun r1 => ?_)
  refine ev_if_eq iX5_traced_5 ?_ ?_
  · refine ev_aload_n iX5_traced_16 rfl (by decide) rfl ?_
    refine ev_ldc iX5_traced_17 kC_X5_60 ?_
    refine ev_VMI iX5_traced_19 kV_X5_66 (c_md_finding σ (-1000001)) rc_62 rfl rfl (Nat.le_of_ble_eq_true rfl) (sg_fitL (by decide) (Nat.le_of_ble_eq_true rfl)) (fun r2 => ?_)
    exact ev_iret iX5_traced_22 rfl (narI rfl _)
  · refine ev_aload_n iX5_traced_8 rfl (by decide) rfl ?_
    refine ev_iload_n iX5_traced_9 rfl rfl ?_
    refine ev_VRI iX5_traced_10 kV_X5_105 (c_md_isPerson σ a2) rc_62 rfl rfl (Nat.le_of_ble_eq_true rfl) (sg_fitL (by decide) (Nat.le_of_ble_eq_true rfl)) (fun r3 => ?_)
    refine ev_if_ne iX5_traced_13 ?_ ?_
    · refine ev_aload_n iX5_traced_16 rfl (by decide) rfl ?_
      refine ev_ldc iX5_traced_17 kC_X5_60 ?_
      refine ev_VMI iX5_traced_19 kV_X5_66 (c_md_finding σ (-1000001)) rc_62 rfl rfl (Nat.le_of_ble_eq_true rfl) (sg_fitL (by decide) (Nat.le_of_ble_eq_true rfl)) (fun r4 => ?_)
      exact ev_iret iX5_traced_22 rfl (narI rfl _)
    · refine ev_aload_n iX5_traced_23 rfl (by decide) rfl ?_
      refine ev_iload_n iX5_traced_24 rfl rfl ?_
      refine ev_iload_n iX5_traced_25 rfl rfl ?_
      refine ev_VRI iX5_traced_26 kV_X5_115 (c_md_hasHeard σ a1 a2) rc_62 rfl rfl (Nat.le_of_ble_eq_true rfl) (sg_fitL (by decide) (Nat.le_of_ble_eq_true rfl)) (fun r5 => ?_)
      refine ev_if_eq iX5_traced_29 ?_ ?_
      · refine ev_aload_n iX5_traced_41 rfl (by decide) rfl ?_
        refine ev_ldc iX5_traced_42 kC_X5_65 ?_
        refine ev_VMI iX5_traced_44 kV_X5_66 (c_md_finding σ (-1000004)) rc_62 rfl rfl (Nat.le_of_ble_eq_true rfl) (sg_fitL (by decide) (Nat.le_of_ble_eq_true rfl)) (fun r6 => ?_)
        exact ev_iret iX5_traced_47 rfl (narI rfl _)
      · refine ev_aload_n iX5_traced_32 rfl (by decide) rfl ?_
        refine ev_iload_n iX5_traced_33 rfl rfl ?_
        refine ev_iload_n iX5_traced_34 rfl rfl ?_
        refine ev_VRI iX5_traced_35 kV_X5_134 (c_md_tracedFrom σ a1 a2) rc_62 rfl rfl (Nat.le_of_ble_eq_true rfl) (sg_fitL (by decide) (Nat.le_of_ble_eq_true rfl)) (fun r7 => ?_)
        refine ev_goto iX5_traced_38 ?_
        exact ev_iret iX5_traced_47 rfl (narI rfl _)
def md_talk (σ : sg_S) (a1 : Int32) (a2 : Int32) : Option (Int32 × sg_S) :=
  ((md_isPerson σ a1).bind fun r1 => (if r1 = 0 then ((md_finding σ (-1000001)).bind fun r2 => some (r2.1, r2.2)) else ((md_isPerson σ a2).bind fun r3 => (if r3 = 0 then ((md_finding σ (-1000001)).bind fun r4 => some (r4.1, r4.2)) else (if a1 = a2 then ((md_finding σ (-1000001)).bind fun r5 => some (r5.1, r5.2)) else ((md_mayTalk σ a1 a2).bind fun r6 => (if r6 = 0 then ((md_finding σ (-1000005)).bind fun r7 => some (r7.1, r7.2)) else ((md_talks σ a1 a2).bind fun r8 => some (r8.1, r8.2)))))))))
set_option maxRecDepth 20000 in
set_option maxHeartbeats 2000000 in
theorem c_md_talk (σ : sg_S) (a1 : Int32) (a2 : Int32)  : sg_Call yX5_talk mX5_talk (rmL 4) [.ref 62, .int a1, .int a2] σ eMI (md_talk σ a1 a2) := by
  refine sg_call_of (by decide +kernel) rfl (Nat.le_of_ble_eq_true rfl) rfl (fun _ => rfl) ?_
  refine ev_less (ls2 := [some (.ref 62), some (.int a1), some (.int a2)]) ?_ ⟨rfl, rfl, rfl, trivial⟩
  unfold md_talk
  refine ev_aload_n iX5_talk_0 rfl (by decide) rfl ?_
  refine ev_iload_n iX5_talk_1 rfl rfl ?_
  refine ev_VRI iX5_talk_2 kV_X5_105 (c_md_isPerson σ a1) rc_62 rfl rfl (Nat.le_of_ble_eq_true rfl) (sg_fitL (by decide) (Nat.le_of_ble_eq_true rfl)) (fun r1 => ?_)
  refine ev_if_eq iX5_talk_5 ?_ ?_
  · refine ev_aload_n iX5_talk_21 rfl (by decide) rfl ?_
    refine ev_ldc iX5_talk_22 kC_X5_60 ?_
    refine ev_VMI iX5_talk_24 kV_X5_66 (c_md_finding σ (-1000001)) rc_62 rfl rfl (Nat.le_of_ble_eq_true rfl) (sg_fitL (by decide) (Nat.le_of_ble_eq_true rfl)) (fun r2 => ?_)
    exact ev_iret iX5_talk_27 rfl (narI rfl _)
  · refine ev_aload_n iX5_talk_8 rfl (by decide) rfl ?_
    refine ev_iload_n iX5_talk_9 rfl rfl ?_
    refine ev_VRI iX5_talk_10 kV_X5_105 (c_md_isPerson σ a2) rc_62 rfl rfl (Nat.le_of_ble_eq_true rfl) (sg_fitL (by decide) (Nat.le_of_ble_eq_true rfl)) (fun r3 => ?_)
    refine ev_if_eq iX5_talk_13 ?_ ?_
    · refine ev_aload_n iX5_talk_21 rfl (by decide) rfl ?_
      refine ev_ldc iX5_talk_22 kC_X5_60 ?_
      refine ev_VMI iX5_talk_24 kV_X5_66 (c_md_finding σ (-1000001)) rc_62 rfl rfl (Nat.le_of_ble_eq_true rfl) (sg_fitL (by decide) (Nat.le_of_ble_eq_true rfl)) (fun r4 => ?_)
      exact ev_iret iX5_talk_27 rfl (narI rfl _)
    · refine ev_iload_n iX5_talk_16 rfl rfl ?_
      refine ev_iload_n iX5_talk_17 rfl rfl ?_
      refine ev_icmp_ne iX5_talk_18 ?_ ?_
      · refine ev_aload_n iX5_talk_21 rfl (by decide) rfl ?_
        refine ev_ldc iX5_talk_22 kC_X5_60 ?_
        refine ev_VMI iX5_talk_24 kV_X5_66 (c_md_finding σ (-1000001)) rc_62 rfl rfl (Nat.le_of_ble_eq_true rfl) (sg_fitL (by decide) (Nat.le_of_ble_eq_true rfl)) (fun r5 => ?_)
        exact ev_iret iX5_talk_27 rfl (narI rfl _)
      · refine ev_aload_n iX5_talk_28 rfl (by decide) rfl ?_
        refine ev_iload_n iX5_talk_29 rfl rfl ?_
        refine ev_iload_n iX5_talk_30 rfl rfl ?_
        refine ev_VRI iX5_talk_31 kV_X5_146 (c_md_mayTalk σ a1 a2) rc_62 rfl rfl (Nat.le_of_ble_eq_true rfl) (sg_fitL (by decide) (Nat.le_of_ble_eq_true rfl)) (fun r6 => ?_)
        refine ev_if_eq iX5_talk_34 ?_ ?_
        · refine ev_aload_n iX5_talk_46 rfl (by decide) rfl ?_
          refine ev_ldc iX5_talk_47 kC_X5_152 ?_
          refine ev_VMI iX5_talk_49 kV_X5_66 (c_md_finding σ (-1000005)) rc_62 rfl rfl (Nat.le_of_ble_eq_true rfl) (sg_fitL (by decide) (Nat.le_of_ble_eq_true rfl)) (fun r7 => ?_)
          exact ev_iret iX5_talk_52 rfl (narI rfl _)
        · refine ev_aload_n iX5_talk_37 rfl (by decide) rfl ?_
          refine ev_iload_n iX5_talk_38 rfl rfl ?_
          refine ev_iload_n iX5_talk_39 rfl rfl ?_
          refine ev_VMI iX5_talk_40 kV_X5_149 (c_md_talks σ a1 a2) rc_62 rfl rfl (Nat.le_of_ble_eq_true rfl) (sg_fitL (by decide) (Nat.le_of_ble_eq_true rfl)) (fun r8 => ?_)
          refine ev_goto iX5_talk_43 ?_
          exact ev_iret iX5_talk_52 rfl (narI rfl _)
