def jd6_bitCount (σ : sg_S) (a0 : Int32) : Option Int32 :=
  sg_leti (a0 - ((jushr a0 1) &&& 1431655765)) (fun x1 => sg_leti ((x1 &&& 858993459) + ((jushr x1 2) &&& 858993459)) (fun x2 => sg_leti ((x2 + (jushr x2 4)) &&& 252645135) (fun x3 => sg_leti (x3 + (jushr x3 8)) (fun x4 => sg_leti (x4 + (jushr x4 16)) (fun x5 => some (x5 &&& 63))))))
set_option maxRecDepth 20000 in
set_option maxHeartbeats 2000000 in
theorem c_jd6_bitCount (σ : sg_S) (a0 : Int32)  : sg_Call yJ6_bitCount_0f7a4 mJ6_bitCount_0f7a4 (rmL 0) [.int a0] σ (eRI σ) (jd6_bitCount σ a0) := by
  refine sg_call_of (by decide +kernel) rfl (Nat.le_of_ble_eq_true rfl) rfl (fun _ => rfl) ?_
  refine ev_less (ls2 := [some (.int a0)]) ?_ ⟨rfl, trivial⟩
  unfold jd6_bitCount
  refine ev_iload_n iJ6_bitCount_0f7a4_0 rfl rfl ?_
  refine ev_iload_n iJ6_bitCount_0f7a4_1 rfl rfl ?_
  refine ev_iconst iJ6_bitCount_0f7a4_2 kI_1 ?_
  refine ev_iushr iJ6_bitCount_0f7a4_3 ?_
  refine ev_ldcw iJ6_bitCount_0f7a4_4 kC_J6_265 ?_
  refine ev_iand iJ6_bitCount_0f7a4_7 ?_
  refine ev_isub iJ6_bitCount_0f7a4_8 ?_
  refine ev_leti (fun x1 => ?_)
  refine ev_istore_n (ls2 := [some (.int x1)]) iJ6_bitCount_0f7a4_9 rfl (Nat.le_of_ble_eq_true rfl) (Nat.le_of_ble_eq_true rfl) rfl rfl ?_
  refine ev_iload_n iJ6_bitCount_0f7a4_10 rfl rfl ?_
  refine ev_ldcw iJ6_bitCount_0f7a4_11 kC_J6_266 ?_
  refine ev_iand iJ6_bitCount_0f7a4_14 ?_
  refine ev_iload_n iJ6_bitCount_0f7a4_15 rfl rfl ?_
  refine ev_iconst iJ6_bitCount_0f7a4_16 kI_2 ?_
  refine ev_iushr iJ6_bitCount_0f7a4_17 ?_
  refine ev_ldcw iJ6_bitCount_0f7a4_18 kC_J6_266 ?_
  refine ev_iand iJ6_bitCount_0f7a4_21 ?_
  refine ev_iadd iJ6_bitCount_0f7a4_22 ?_
  refine ev_leti (fun x2 => ?_)
  refine ev_istore_n (ls2 := [some (.int x2)]) iJ6_bitCount_0f7a4_23 rfl (Nat.le_of_ble_eq_true rfl) (Nat.le_of_ble_eq_true rfl) rfl rfl ?_
  refine ev_iload_n iJ6_bitCount_0f7a4_24 rfl rfl ?_
  refine ev_iload_n iJ6_bitCount_0f7a4_25 rfl rfl ?_
  refine ev_iconst iJ6_bitCount_0f7a4_26 kI_4 ?_
  refine ev_iushr iJ6_bitCount_0f7a4_27 ?_
  refine ev_iadd iJ6_bitCount_0f7a4_28 ?_
  refine ev_ldcw iJ6_bitCount_0f7a4_29 kC_J6_267 ?_
  refine ev_iand iJ6_bitCount_0f7a4_32 ?_
  refine ev_leti (fun x3 => ?_)
  refine ev_istore_n (ls2 := [some (.int x3)]) iJ6_bitCount_0f7a4_33 rfl (Nat.le_of_ble_eq_true rfl) (Nat.le_of_ble_eq_true rfl) rfl rfl ?_
  refine ev_iload_n iJ6_bitCount_0f7a4_34 rfl rfl ?_
  refine ev_iload_n iJ6_bitCount_0f7a4_35 rfl rfl ?_
  refine ev_bipush iJ6_bitCount_0f7a4_36 kB_8 ?_
  refine ev_iushr iJ6_bitCount_0f7a4_38 ?_
  refine ev_iadd iJ6_bitCount_0f7a4_39 ?_
  refine ev_leti (fun x4 => ?_)
  refine ev_istore_n (ls2 := [some (.int x4)]) iJ6_bitCount_0f7a4_40 rfl (Nat.le_of_ble_eq_true rfl) (Nat.le_of_ble_eq_true rfl) rfl rfl ?_
  refine ev_iload_n iJ6_bitCount_0f7a4_41 rfl rfl ?_
  refine ev_iload_n iJ6_bitCount_0f7a4_42 rfl rfl ?_
  refine ev_bipush iJ6_bitCount_0f7a4_43 kB_16 ?_
  refine ev_iushr iJ6_bitCount_0f7a4_45 ?_
  refine ev_iadd iJ6_bitCount_0f7a4_46 ?_
  refine ev_leti (fun x5 => ?_)
  refine ev_istore_n (ls2 := [some (.int x5)]) iJ6_bitCount_0f7a4_47 rfl (Nat.le_of_ble_eq_true rfl) (Nat.le_of_ble_eq_true rfl) rfl rfl ?_
  refine ev_iload_n iJ6_bitCount_0f7a4_48 rfl rfl ?_
  refine ev_bipush iJ6_bitCount_0f7a4_49 kB_63 ?_
  refine ev_iand iJ6_bitCount_0f7a4_51 ?_
  exact ev_iret iJ6_bitCount_0f7a4_52 rfl (narI rfl _)
def jd0_coder (σ : sg_S) (w0 : Nat) : Option Int32 :=
  (if (1 : Int32) = 0 then some 1 else some 0)
set_option maxRecDepth 20000 in
set_option maxHeartbeats 2000000 in
theorem c_jd0_coder (σ : sg_S) (w0 : Nat) (hw0 : w0 < 12) : sg_Call yJ0_coder_7d493 mJ0_coder_7d493 (rmL 0) [.ref (100 + w0)] σ (eRI σ) (jd0_coder σ w0) := by
  refine sg_call_of (by decide +kernel) rfl (Nat.le_of_ble_eq_true rfl) rfl (fun _ => rfl) ?_
  refine ev_less (ls2 := [some (.ref (100 + w0))]) ?_ ⟨rfl, trivial⟩
  unfold jd0_coder
  refine ev_compact iJ0_coder_7d493_0 kG_J0_38 ?_
  refine ev_if_eq iJ0_coder_7d493_3 ?_ ?_
  · refine ev_iconst iJ0_coder_7d493_13 kI_1 ?_
    exact ev_iret iJ0_coder_7d493_14 rfl (fun ty _ => nar1 ty)
  · refine ev_aload_n iJ0_coder_7d493_6 rfl (ne_W hw0) rfl ?_
    refine ev_strCoder iJ0_coder_7d493_7 hw0 kG_J0_15 ?_
    refine ev_goto iJ0_coder_7d493_10 ?_
    exact ev_iret iJ0_coder_7d493_14 rfl (fun ty _ => nar0 ty)
def jd0_isLatin1 (σ : sg_S) (w0 : Nat) : Option Int32 :=
  (if (1 : Int32) = 0 then some 0 else (if (0 : Int32) = 0 then some 1 else some 0))
set_option maxRecDepth 20000 in
set_option maxHeartbeats 2000000 in
theorem c_jd0_isLatin1 (σ : sg_S) (w0 : Nat) (hw0 : w0 < 12) : sg_Call yJ0_isLatin1_aae02 mJ0_isLatin1_aae02 (rmL 0) [.ref (100 + w0)] σ (eRI σ) (jd0_isLatin1 σ w0) := by
  refine sg_call_of (by decide +kernel) rfl (Nat.le_of_ble_eq_true rfl) rfl (fun _ => rfl) ?_
  refine ev_less (ls2 := [some (.ref (100 + w0))]) ?_ ⟨rfl, trivial⟩
  unfold jd0_isLatin1
  refine ev_compact iJ0_isLatin1_aae02_0 kG_J0_38 ?_
  refine ev_if_eq iJ0_isLatin1_aae02_3 ?_ ?_
  · refine ev_iconst iJ0_isLatin1_aae02_17 kI_0 ?_
    exact ev_iret iJ0_isLatin1_aae02_18 rfl (fun ty _ => nar0 ty)
  · refine ev_aload_n iJ0_isLatin1_aae02_6 rfl (ne_W hw0) rfl ?_
    refine ev_strCoder iJ0_isLatin1_aae02_7 hw0 kG_J0_15 ?_
    refine ev_if_ne iJ0_isLatin1_aae02_10 ?_ ?_
    · refine ev_iconst iJ0_isLatin1_aae02_13 kI_1 ?_
      refine ev_goto iJ0_isLatin1_aae02_14 ?_
      exact ev_iret iJ0_isLatin1_aae02_18 rfl (fun ty _ => nar1 ty)
    · refine ev_iconst iJ0_isLatin1_aae02_17 kI_0 ?_
      exact ev_iret iJ0_isLatin1_aae02_18 rfl (fun ty _ => nar0 ty)
def jd7_fill_5_X (σ : sg_S) (k0 n0 : Nat) (f1 : Int32) (f3 : Int32) : ((Int32 × sg_S) ⊕ sg_S) → sg_X
  | .inl a => .inr (5, [some (.ref k0), some (.int f1), some (.int a.1), some (.int f3)], a.2)
  | .inr e => .inr (20, [none, none, none, none], e)
def jd7_fill_5_L (σ : sg_S) (k0 n0 : Nat) (f1 : Int32) (f3 : Int32) (a : (Int32 × sg_S)) : Option ((Int32 × sg_S) ⊕ sg_S) :=
  (if a.1 < f3 then (if sg_in a.1 n0 = true then sg_let (sg_st a.2 k0 a.1.toNatClampNeg f1) (fun s2 => some (.inl ((a.1 + 1), s2))) else none) else some (.inr a.2))
set_option maxRecDepth 20000 in
set_option maxHeartbeats 2000000 in
theorem e_jd7_fill_5_L (σ : sg_S) (k0 n0 : Nat) (f1 : Int32) (f3 : Int32) (hk0 : sg_A k0 = some n0) : ∀ a : (Int32 × sg_S), Ev mJ7_fill_53178 (rmL 0) 5 [some (.ref k0), some (.int f1), some (.int a.1), some (.int f3)] [] a.2 (jd7_fill_5_X σ k0 n0 f1 f3) (jd7_fill_5_L σ k0 n0 f1 f3 a) := by
  intro a
  unfold jd7_fill_5_L
  refine ev_iload_n iJ7_fill_53178_5 rfl rfl ?_
  refine ev_iload_n iJ7_fill_53178_6 rfl rfl ?_
  refine ev_icmp_ge iJ7_fill_53178_7 ?_ ?_
  · refine ev_aload_n iJ7_fill_53178_10 rfl (sg_A_ne hk0) rfl ?_
    refine ev_iload_n iJ7_fill_53178_11 rfl rfl ?_
    refine ev_iload_n iJ7_fill_53178_12 rfl rfl ?_
    refine ev_iast iJ7_fill_53178_13 hk0 ?_
    refine ev_let (fun s2 => ?_)
    refine ev_iinc (v := (a.1 + 1)) (ls2 := [some (.ref k0), some (.int f1), some (.int (a.1 + 1)), some (.int f3)]) iJ7_fill_53178_14 rfl (by rw [kI_1]) (Nat.le_of_ble_eq_true rfl) rfl rfl ?_
    refine ev_goto iJ7_fill_53178_17 ?_
    exact ev_exit rfl ⟨rfl, rfl, rfl, rfl, trivial⟩
  · exact ev_exit rfl trivial
def jd7_fill (σ : sg_S) (k0 n0 : Nat) (a1 : Int32) : Option sg_S :=
  sg_leti (Int32.ofNat n0) (fun x1 => ((sg_lp (jd7_fill_5_L σ k0 n0 a1 x1) 1000 (0, σ)).bind fun e5 => some e5))
set_option maxRecDepth 20000 in
set_option maxHeartbeats 2000000 in
theorem c_jd7_fill (σ : sg_S) (k0 n0 : Nat) (a1 : Int32) (hk0 : sg_A k0 = some n0) : sg_Call yJ7_fill_53178 mJ7_fill_53178 (rmL 0) [.ref k0, .int a1] σ eMV (jd7_fill σ k0 n0 a1) := by
  refine sg_call_of (by decide +kernel) rfl (Nat.le_of_ble_eq_true rfl) rfl (fun _ => rfl) ?_
  refine ev_less (ls2 := [some (.ref k0), some (.int a1), none, none]) ?_ ⟨rfl, rfl, trivial⟩
  unfold jd7_fill
  refine ev_iconst iJ7_fill_53178_0 kI_0 ?_
  refine ev_istore_n (ls2 := [some (.ref k0), some (.int a1), some (.int 0), none]) iJ7_fill_53178_1 rfl (Nat.le_of_ble_eq_true rfl) (Nat.le_of_ble_eq_true rfl) rfl rfl ?_
  refine ev_aload_n iJ7_fill_53178_2 rfl (sg_A_ne hk0) rfl ?_
  refine ev_alen iJ7_fill_53178_3 hk0 rfl ?_
  refine ev_leti (fun x1 => ?_)
  refine ev_istore_n (ls2 := [some (.ref k0), some (.int a1), some (.int 0), some (.int x1)]) iJ7_fill_53178_4 rfl (Nat.le_of_ble_eq_true rfl) (Nat.le_of_ble_eq_true rfl) rfl rfl ?_
  refine ev_less (ls2 := [some (.ref k0), some (.int a1), some (.int 0), some (.int x1)]) ?_ ⟨rfl, rfl, rfl, rfl, trivial⟩
  refine ev_seq1 20 (fun z4 => [none, none, none, none]) (fun z4 => z4) (ev_loop (embB := jd7_fill_5_X σ k0 n0 a1 x1) (ex := fun b => jd7_fill_5_X σ k0 n0 a1 x1 (.inr b)) 5 (fun z3 => [some (.ref k0), some (.int a1), some (.int z3.1), some (.int x1)]) (fun z3 => z3.2) (fun _ => rfl) (fun _ => rfl) (e_jd7_fill_5_L σ k0 n0 a1 x1 hk0) 1000 (0, σ)) (fun _ => rfl) (fun e5 => ?_)
  exact ev_vret iJ7_fill_53178_20 rfl
def jd3_checkIndex (σ : sg_S) (a0 : Int32) (a1 : Int32) : Option Int32 :=
  (if a0 < 0 then none else (if a0 < a1 then some a0 else none))
set_option maxRecDepth 20000 in
set_option maxHeartbeats 2000000 in
theorem c_jd3_checkIndex (σ : sg_S) (a0 : Int32) (a1 : Int32)  : sg_Call yJ3_checkIndex_8e157 mJ3_checkIndex_8e157 (rmL 0) [.int a0, .int a1, .ref 140] σ (eRI σ) (jd3_checkIndex σ a0 a1) := by
  refine sg_call_of (by decide +kernel) rfl (Nat.le_of_ble_eq_true rfl) rfl (fun _ => rfl) ?_
  refine ev_less (ls2 := [some (.int a0), some (.int a1), some (.ref 140)]) ?_ ⟨rfl, rfl, rfl, trivial⟩
  unfold jd3_checkIndex
  refine ev_iload_n iJ3_checkIndex_8e157_0 rfl rfl ?_
  refine ev_if_lt iJ3_checkIndex_8e157_1 ?_ ?_
  · exact ev_none
  · refine ev_iload_n iJ3_checkIndex_8e157_4 rfl rfl ?_
    refine ev_iload_n iJ3_checkIndex_8e157_5 rfl rfl ?_
    refine ev_icmp_lt iJ3_checkIndex_8e157_6 ?_ ?_
    · refine ev_iload_n iJ3_checkIndex_8e157_16 rfl rfl ?_
      exact ev_iret iJ3_checkIndex_8e157_17 rfl (narI rfl _)
    · exact ev_none
def jd0_length (σ : sg_S) (w0 : Nat) : Option Int32 :=
  ((jd0_coder σ w0).bind fun r1 => some (jshr (Int32.ofNat (sg_len.getD w0 0)) r1))
set_option maxRecDepth 20000 in
set_option maxHeartbeats 2000000 in
theorem c_jd0_length (σ : sg_S) (w0 : Nat) (hw0 : w0 < 12) : sg_Call yJ0_length_8abf5 mJ0_length_8abf5 (rmL 1) [.ref (100 + w0)] σ (eRI σ) (jd0_length σ w0) := by
  refine sg_call_of (by decide +kernel) rfl (Nat.le_of_ble_eq_true rfl) rfl (fun _ => rfl) ?_
  refine ev_less (ls2 := [some (.ref (100 + w0))]) ?_ ⟨rfl, trivial⟩
  unfold jd0_length
  refine ev_aload_n iJ0_length_8abf5_0 rfl (ne_W hw0) rfl ?_
  refine ev_strValue iJ0_length_8abf5_1 hw0 kG_J0_9 ?_
  refine ev_alenB iJ0_length_8abf5_4 hw0 ?_
  refine ev_aload_n iJ0_length_8abf5_5 rfl (ne_W hw0) rfl ?_
  refine ev_VRI iJ0_length_8abf5_6 kV_J0_335 (c_jd0_coder σ w0 hw0) (rc_W hw0) rfl rfl (Nat.le_of_ble_eq_true rfl) (sg_fitL (by decide) (Nat.le_of_ble_eq_true rfl)) (fun r1 => ?_)
  refine ev_ishr iJ0_length_8abf5_9 ?_
  exact ev_iret iJ0_length_8abf5_10 rfl (narI rfl _)
def jd0_checkIndex (σ : sg_S) (a0 : Int32) (a1 : Int32) : Option Unit :=
  ((jd3_checkIndex σ a0 a1).bind fun r1 => some ())
set_option maxRecDepth 20000 in
set_option maxHeartbeats 2000000 in
theorem c_jd0_checkIndex (σ : sg_S) (a0 : Int32) (a1 : Int32)  : sg_Call yJ0_checkIndex_df160 mJ0_checkIndex_df160 (rmL 1) [.int a0, .int a1] σ (eRV σ) (jd0_checkIndex σ a0 a1) := by
  refine sg_call_of (by decide +kernel) rfl (Nat.le_of_ble_eq_true rfl) rfl (fun _ => rfl) ?_
  refine ev_less (ls2 := [some (.int a0), some (.int a1)]) ?_ ⟨rfl, rfl, trivial⟩
  unfold jd0_checkIndex
  refine ev_iload_n iJ0_checkIndex_df160_0 rfl rfl ?_
  refine ev_iload_n iJ0_checkIndex_df160_1 rfl rfl ?_
  refine ev_fmt iJ0_checkIndex_df160_2 kG_J0_1053 ?_
  refine ev_SRI iJ0_checkIndex_df160_5 kS_J0_1059 (c_jd3_checkIndex σ a0 a1) rfl rfl (Nat.le_of_ble_eq_true rfl) (sg_fitL (by decide) (Nat.le_of_ble_eq_true rfl)) (fun r1 => ?_)
  refine ev_popI iJ0_checkIndex_df160_8 ?_
  exact ev_vret iJ0_checkIndex_df160_9 rfl
def jd1_charAt (σ : sg_S) (w0 : Nat) (a1 : Int32) : Option Int32 :=
  ((jd0_checkIndex σ a1 (Int32.ofNat (sg_len.getD w0 0))).bind fun _ => (if sg_in a1 (sg_len.getD w0 0) = true then (if vp_nar .char (((((sg_byt.getD w0 []).getD a1.toNatClampNeg 0) &&& 255).toUInt32 % 65536).toInt32) = ((((sg_byt.getD w0 []).getD a1.toNatClampNeg 0) &&& 255).toUInt32 % 65536).toInt32 then some (((((sg_byt.getD w0 []).getD a1.toNatClampNeg 0) &&& 255).toUInt32 % 65536).toInt32) else none) else none))
set_option maxRecDepth 20000 in
set_option maxHeartbeats 2000000 in
theorem c_jd1_charAt (σ : sg_S) (w0 : Nat) (a1 : Int32) (hw0 : w0 < 12) : sg_Call yJ1_charAt_3b067 mJ1_charAt_3b067 (rmL 2) [.ref (120 + w0), .int a1] σ (eRI σ) (jd1_charAt σ w0 a1) := by
  refine sg_call_of (by decide +kernel) rfl (Nat.le_of_ble_eq_true rfl) rfl (fun _ => rfl) ?_
  refine ev_less (ls2 := [some (.ref (120 + w0)), some (.int a1)]) ?_ ⟨rfl, rfl, trivial⟩
  unfold jd1_charAt
  refine ev_iload_n iJ1_charAt_3b067_0 rfl rfl ?_
  refine ev_aload_n iJ1_charAt_3b067_1 rfl (ne_B hw0) rfl ?_
  refine ev_alenB iJ1_charAt_3b067_2 hw0 ?_
  refine ev_SRV iJ1_charAt_3b067_3 kS_J1_9 (c_jd0_checkIndex σ a1 (Int32.ofNat (sg_len.getD w0 0))) rfl rfl (Nat.le_of_ble_eq_true rfl) (sg_fitL (by decide) (Nat.le_of_ble_eq_true rfl)) (fun r1 => ?_)
  refine ev_aload_n iJ1_charAt_3b067_6 rfl (ne_B hw0) rfl ?_
  refine ev_iload_n iJ1_charAt_3b067_7 rfl rfl ?_
  refine ev_bald iJ1_charAt_3b067_8 hw0 ?_
  refine ev_sipush iJ1_charAt_3b067_9 kH_255 ?_
  refine ev_iand iJ1_charAt_3b067_12 ?_
  refine ev_i2c iJ1_charAt_3b067_13 ?_
  refine ev_nar (fun hn => ?_)
  exact ev_iret iJ1_charAt_3b067_14 rfl (narG rfl hn)
def jd0_charAt (σ : sg_S) (w0 : Nat) (a1 : Int32) : Option Int32 :=
  ((jd0_isLatin1 σ w0).bind fun r1 => (if r1 = 0 then none else ((jd1_charAt σ w0 a1).bind fun r2 => (if vp_nar .char r2 = r2 then some r2 else none))))
set_option maxRecDepth 20000 in
set_option maxHeartbeats 2000000 in
theorem c_jd0_charAt (σ : sg_S) (w0 : Nat) (a1 : Int32) (hw0 : w0 < 12) : sg_Call yJ0_charAt_5068e mJ0_charAt_5068e (rmL 3) [.ref (100 + w0), .int a1] σ (eRI σ) (jd0_charAt σ w0 a1) := by
  refine sg_call_of (by decide +kernel) rfl (Nat.le_of_ble_eq_true rfl) rfl (fun _ => rfl) ?_
  refine ev_less (ls2 := [some (.ref (100 + w0)), some (.int a1)]) ?_ ⟨rfl, rfl, trivial⟩
  unfold jd0_charAt
  refine ev_aload_n iJ0_charAt_5068e_0 rfl (ne_W hw0) rfl ?_
  refine ev_VRI iJ0_charAt_5068e_1 kV_J0_492 (c_jd0_isLatin1 σ w0 hw0) (rc_W hw0) rfl rfl (Nat.le_of_ble_eq_true rfl) (sg_fitL (by decide) (Nat.le_of_ble_eq_true rfl)) (fun r1 => ?_)
  refine ev_if_eq iJ0_charAt_5068e_4 ?_ ?_
  · refine ev_aload_n iJ0_charAt_5068e_16 rfl (ne_W hw0) rfl ?_
    refine ev_strValue iJ0_charAt_5068e_17 hw0 kG_J0_9 ?_
    refine ev_iload_n iJ0_charAt_5068e_20 rfl rfl ?_
    exact ev_none
  · refine ev_aload_n iJ0_charAt_5068e_7 rfl (ne_W hw0) rfl ?_
    refine ev_strValue iJ0_charAt_5068e_8 hw0 kG_J0_9 ?_
    refine ev_iload_n iJ0_charAt_5068e_11 rfl rfl ?_
    refine ev_SRI iJ0_charAt_5068e_12 kS_J0_495 (c_jd1_charAt σ w0 a1 hw0) rfl rfl (Nat.le_of_ble_eq_true rfl) (sg_fitL (by decide) (Nat.le_of_ble_eq_true rfl)) (fun r2 => ?_)
    refine ev_nar (fun hn => ?_)
    exact ev_iret iJ0_charAt_5068e_15 rfl (narG rfl hn)
