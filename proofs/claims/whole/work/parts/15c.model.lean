def md_trial_J35 (σ : sg_S)   (v1 : Int32) (t0 : Int32) : Option sg_S :=
  (if t0 < 0 then some σ else ((md_personAt σ t0 3).bind fun r5 => ((md_more σ r5 1 9999).bind fun r6 => ((md_sayingIs r6 v1 1).bind fun r7 => ((md_pays r6 t0 r7).bind fun r8 => ((md_more r6 4 r8 99999).bind fun r9 => some r9))))))
set_option maxRecDepth 20000 in
set_option maxHeartbeats 2000000 in
theorem e_md_trial_J35 (σ : sg_S)   (v1 : Int32) (t0 : Int32)  : Ev mX5_trial (rmL 4) 35 [some (.ref 62), some (.int v1), none, none, none] [.int t0] σ (fun b => Sum.inl (eMV b)) (md_trial_J35 σ   v1 t0) := by
  unfold md_trial_J35
  refine ev_istore (ls2 := [some (.ref 62), some (.int v1), none, none, some (.int t0)]) iX5_trial_35 (Nat.le_of_ble_eq_true rfl) (Nat.le_of_ble_eq_true rfl) rfl rfl ?_
  refine ev_iload iX5_trial_37 rfl ?_
  refine ev_if_lt iX5_trial_39 ?_ ?_
  · exact ev_vret iX5_trial_75 rfl
  · refine ev_aload_n iX5_trial_42 rfl (by decide) rfl ?_
    refine ev_iload iX5_trial_43 rfl ?_
    refine ev_iconst iX5_trial_45 kI_3 ?_
    refine ev_SRI iX5_trial_46 kS_X5_85 (c_md_personAt σ t0 3) rfl rfl (Nat.le_of_ble_eq_true rfl) (sg_fitL (by decide) (Nat.le_of_ble_eq_true rfl)) (fun r5 => ?_)
    refine ev_iconst iX5_trial_49 kI_1 ?_
    refine ev_sipush iX5_trial_50 kH_9999 ?_
    refine ev_VMV iX5_trial_53 kV_X5_165 (c_md_more σ r5 1 9999) rc_62 rfl rfl (Nat.le_of_ble_eq_true rfl) (sg_fitL (by decide) (Nat.le_of_ble_eq_true rfl)) (fun r6 => ?_)
    refine ev_aload_n iX5_trial_56 rfl (by decide) rfl ?_
    refine ev_iconst iX5_trial_57 kI_4 ?_
    refine ev_aload_n iX5_trial_58 rfl (by decide) rfl ?_
    refine ev_iload iX5_trial_59 rfl ?_
    refine ev_aload_n iX5_trial_61 rfl (by decide) rfl ?_
    refine ev_iload_n iX5_trial_62 rfl rfl ?_
    refine ev_iconst iX5_trial_63 kI_1 ?_
    refine ev_VRI iX5_trial_64 kV_X5_112 (c_md_sayingIs r6 v1 1) rc_62 rfl rfl (Nat.le_of_ble_eq_true rfl) (sg_fitL (by decide) (Nat.le_of_ble_eq_true rfl)) (fun r7 => ?_)
    refine ev_VRI iX5_trial_67 kV_X5_169 (c_md_pays r6 t0 r7) rc_62 rfl rfl (Nat.le_of_ble_eq_true rfl) (sg_fitL (by decide) (Nat.le_of_ble_eq_true rfl)) (fun r8 => ?_)
    refine ev_ldc iX5_trial_70 kC_X5_172 ?_
    refine ev_VMV iX5_trial_72 kV_X5_165 (c_md_more r6 4 r8 99999) rc_62 rfl rfl (Nat.le_of_ble_eq_true rfl) (sg_fitL (by decide) (Nat.le_of_ble_eq_true rfl)) (fun r9 => ?_)
    exact ev_vret iX5_trial_75 rfl
def md_trial (σ : sg_S) (a1 : Int32) : Option sg_S :=
  ((md_sayingIs σ a1 2).bind fun r1 => ((md_greatest σ r1).bind fun r2 => (if r2 < 0 then some σ else ((md_tracedFrom σ a1 r2).bind fun r3 => (if r3 = 8 then ((md_theNobody σ).bind fun r4 => md_trial_J35 σ a1 r4) else md_trial_J35 σ a1 r3)))))
set_option maxRecDepth 20000 in
set_option maxHeartbeats 2000000 in
theorem c_md_trial (σ : sg_S) (a1 : Int32)  : sg_Call yX5_trial mX5_trial (rmL 4) [.ref 62, .int a1] σ eMV (md_trial σ a1) := by
  refine sg_call_of (by decide +kernel) rfl (Nat.le_of_ble_eq_true rfl) rfl (fun _ => rfl) ?_
  refine ev_less (ls2 := [some (.ref 62), some (.int a1), none, none, none]) ?_ ⟨rfl, rfl, trivial⟩
  unfold md_trial
  refine ev_aload_n iX5_trial_0 rfl (by decide) rfl ?_
  refine ev_iload_n iX5_trial_1 rfl rfl ?_
  refine ev_iconst iX5_trial_2 kI_2 ?_
  refine ev_VRI iX5_trial_3 kV_X5_112 (c_md_sayingIs σ a1 2) rc_62 rfl rfl (Nat.le_of_ble_eq_true rfl) (sg_fitL (by decide) (Nat.le_of_ble_eq_true rfl)) (fun r1 => ?_)
  refine ev_SRI iX5_trial_6 kS_X5_158 (c_md_greatest σ r1) rfl rfl (Nat.le_of_ble_eq_true rfl) (sg_fitL (by decide) (Nat.le_of_ble_eq_true rfl)) (fun r2 => ?_)
  refine ev_istore_n (ls2 := [some (.ref 62), some (.int a1), some (.int r2), none, none]) iX5_trial_9 rfl (Nat.le_of_ble_eq_true rfl) (Nat.le_of_ble_eq_true rfl) rfl rfl ?_
  refine ev_iload_n iX5_trial_10 rfl rfl ?_
  refine ev_if_lt iX5_trial_11 ?_ ?_
  · exact ev_vret iX5_trial_75 rfl
  · refine ev_aload_n iX5_trial_14 rfl (by decide) rfl ?_
    refine ev_iload_n iX5_trial_15 rfl rfl ?_
    refine ev_iload_n iX5_trial_16 rfl rfl ?_
    refine ev_VRI iX5_trial_17 kV_X5_134 (c_md_tracedFrom σ a1 r2) rc_62 rfl rfl (Nat.le_of_ble_eq_true rfl) (sg_fitL (by decide) (Nat.le_of_ble_eq_true rfl)) (fun r3 => ?_)
    refine ev_istore_n (ls2 := [some (.ref 62), some (.int a1), some (.int r2), some (.int r3), none]) iX5_trial_20 rfl (Nat.le_of_ble_eq_true rfl) (Nat.le_of_ble_eq_true rfl) rfl rfl ?_
    refine ev_iload_n iX5_trial_21 rfl rfl ?_
    refine ev_bipush iX5_trial_22 kB_8 ?_
    refine ev_icmp_ne iX5_trial_24 ?_ ?_
    · refine ev_aload_n iX5_trial_27 rfl (by decide) rfl ?_
      refine ev_VRI iX5_trial_28 kV_X5_161 (c_md_theNobody σ ) rc_62 rfl rfl (Nat.le_of_ble_eq_true rfl) (sg_fitL (by decide) (Nat.le_of_ble_eq_true rfl)) (fun r4 => ?_)
      refine ev_goto iX5_trial_31 ?_
      exact ev_less (e_md_trial_J35 σ   a1 r4 ) ⟨rfl, rfl, trivial⟩
    · refine ev_iload_n iX5_trial_34 rfl rfl ?_
      exact ev_less (e_md_trial_J35 σ   a1 r3 ) ⟨rfl, rfl, trivial⟩
def md_deafOnes_4_X (σ : sg_S)   : ((Int32 × Int32) ⊕ Int32) → sg_X
  | .inl a => .inr (4, [some (.ref 62), some (.int a.1), some (.int a.2)], σ)
  | .inr e => .inr (38, [none, some (.int e), none], σ)
def md_deafOnes_4_L (σ : sg_S)   (a : (Int32 × Int32)) : Option ((Int32 × Int32) ⊕ Int32) :=
  (if a.2 < (σ 63 1) then ((md_heardBy σ a.2).bind fun r1 => (if r1 = 0 then sg_leti (a.1 ||| (jshl 1 a.2)) (fun x2 => some (.inl (x2, (a.2 + 1)))) else sg_leti (a.1 ||| 0) (fun x3 => some (.inl (x3, (a.2 + 1)))))) else some (.inr a.1))
set_option maxRecDepth 20000 in
set_option maxHeartbeats 2000000 in
theorem e_md_deafOnes_4_L (σ : sg_S)    : ∀ a : (Int32 × Int32), Ev mX5_deafOnes (rmL 4) 4 [some (.ref 62), some (.int a.1), some (.int a.2)] [] σ (md_deafOnes_4_X σ  ) (md_deafOnes_4_L σ   a) := by
  intro a
  unfold md_deafOnes_4_L
  refine ev_iload_n iX5_deafOnes_4 rfl rfl ?_
  refine ev_aload_n iX5_deafOnes_5 rfl (by decide) rfl ?_
  refine ev_getR (k1 := 63) 5 0 iX5_deafOnes_6 kF_X5_9 O_62 rfl (by decide) ?_
  refine ev_iconst iX5_deafOnes_9 kI_1 ?_
  refine ev_ialdK 1 iX5_deafOnes_10 A_63 rfl rfl ?_
  refine ev_icmp_ge iX5_deafOnes_11 ?_ ?_
  · refine ev_iload_n iX5_deafOnes_14 rfl rfl ?_
    refine ev_aload_n iX5_deafOnes_15 rfl (by decide) rfl ?_
    refine ev_iload_n iX5_deafOnes_16 rfl rfl ?_
    refine ev_VRI iX5_deafOnes_17 kV_X5_119 (c_md_heardBy σ a.2) rc_62 rfl rfl (Nat.le_of_ble_eq_true rfl) (sg_fitL (by decide) (Nat.le_of_ble_eq_true rfl)) (fun r1 => ?_)
    refine ev_if_ne iX5_deafOnes_20 ?_ ?_
    · refine ev_iconst iX5_deafOnes_23 kI_1 ?_
      refine ev_iload_n iX5_deafOnes_24 rfl rfl ?_
      refine ev_ishl iX5_deafOnes_25 ?_
      refine ev_goto iX5_deafOnes_26 ?_
      refine ev_ior iX5_deafOnes_30 ?_
      refine ev_leti (fun x2 => ?_)
      refine ev_istore_n (ls2 := [some (.ref 62), some (.int x2), some (.int a.2)]) iX5_deafOnes_31 rfl (Nat.le_of_ble_eq_true rfl) (Nat.le_of_ble_eq_true rfl) rfl rfl ?_
      refine ev_iinc (v := (a.2 + 1)) (ls2 := [some (.ref 62), some (.int x2), some (.int (a.2 + 1))]) iX5_deafOnes_32 rfl (by rw [kI_1]) (Nat.le_of_ble_eq_true rfl) rfl rfl ?_
      refine ev_goto iX5_deafOnes_35 ?_
      exact ev_exit rfl ⟨rfl, rfl, rfl, trivial⟩
    · refine ev_iconst iX5_deafOnes_29 kI_0 ?_
      refine ev_ior iX5_deafOnes_30 ?_
      refine ev_leti (fun x3 => ?_)
      refine ev_istore_n (ls2 := [some (.ref 62), some (.int x3), some (.int a.2)]) iX5_deafOnes_31 rfl (Nat.le_of_ble_eq_true rfl) (Nat.le_of_ble_eq_true rfl) rfl rfl ?_
      refine ev_iinc (v := (a.2 + 1)) (ls2 := [some (.ref 62), some (.int x3), some (.int (a.2 + 1))]) iX5_deafOnes_32 rfl (by rw [kI_1]) (Nat.le_of_ble_eq_true rfl) rfl rfl ?_
      refine ev_goto iX5_deafOnes_35 ?_
      exact ev_exit rfl ⟨rfl, rfl, rfl, trivial⟩
  · exact ev_exit rfl ⟨rfl, trivial⟩
def md_deafOnes (σ : sg_S)  : Option Int32 :=
  ((sg_lp (md_deafOnes_4_L σ  ) 1000 (0, 0)).bind fun e6 => some e6)
set_option maxRecDepth 20000 in
set_option maxHeartbeats 2000000 in
theorem c_md_deafOnes (σ : sg_S)   : sg_Call yX5_deafOnes mX5_deafOnes (rmL 4) [.ref 62] σ (eRI σ) (md_deafOnes σ ) := by
  refine sg_call_of (by decide +kernel) rfl (Nat.le_of_ble_eq_true rfl) rfl (fun _ => rfl) ?_
  refine ev_less (ls2 := [some (.ref 62), none, none]) ?_ ⟨rfl, trivial⟩
  unfold md_deafOnes
  refine ev_iconst iX5_deafOnes_0 kI_0 ?_
  refine ev_istore_n (ls2 := [some (.ref 62), some (.int 0), none]) iX5_deafOnes_1 rfl (Nat.le_of_ble_eq_true rfl) (Nat.le_of_ble_eq_true rfl) rfl rfl ?_
  refine ev_iconst iX5_deafOnes_2 kI_0 ?_
  refine ev_istore_n (ls2 := [some (.ref 62), some (.int 0), some (.int 0)]) iX5_deafOnes_3 rfl (Nat.le_of_ble_eq_true rfl) (Nat.le_of_ble_eq_true rfl) rfl rfl ?_
  refine ev_less (ls2 := [some (.ref 62), some (.int 0), some (.int 0)]) ?_ ⟨rfl, rfl, rfl, trivial⟩
  refine ev_seq1 38 (fun z5 => [none, some (.int z5), none]) (fun _ => σ) (ev_loop (embB := md_deafOnes_4_X σ  ) (ex := fun b => md_deafOnes_4_X σ   (.inr b)) 4 (fun z4 => [some (.ref 62), some (.int z4.1), some (.int z4.2)]) (fun _ => σ) (fun _ => rfl) (fun _ => rfl) (e_md_deafOnes_4_L σ   ) 1000 (0, 0)) (fun _ => rfl) (fun e6 => ?_)
  refine ev_iload_n iX5_deafOnes_38 rfl rfl ?_
  exact ev_iret iX5_deafOnes_39 rfl (narI rfl _)
def md_fromNobody_4_X (σ : sg_S)   : ((Int32 × Int32) ⊕ Int32) → sg_X
  | .inl a => .inr (4, [some (.ref 62), some (.int a.1), some (.int a.2), none], σ)
  | .inr e => .inr (55, [none, some (.int e), none, none], σ)
def md_fromNobody_4_L (σ : sg_S)   (a : (Int32 × Int32)) : Option ((Int32 × Int32) ⊕ Int32) :=
  (if a.2 < (σ 63 3) then ((md_sayingIs σ a.2 2).bind fun r1 => ((md_greatest σ r1).bind fun r2 => (if r2 < 0 then sg_leti (a.1 ||| 0) (fun x3 => some (.inl (x3, (a.2 + 1)))) else ((md_tracedFrom σ a.2 r2).bind fun r4 => (if r4 = 8 then sg_leti (a.1 ||| (jshl 1 a.2)) (fun x5 => some (.inl (x5, (a.2 + 1)))) else sg_leti (a.1 ||| 0) (fun x6 => some (.inl (x6, (a.2 + 1))))))))) else some (.inr a.1))
set_option maxRecDepth 20000 in
set_option maxHeartbeats 2000000 in
theorem e_md_fromNobody_4_L (σ : sg_S)    : ∀ a : (Int32 × Int32), Ev mX5_fromNobody (rmL 4) 4 [some (.ref 62), some (.int a.1), some (.int a.2), none] [] σ (md_fromNobody_4_X σ  ) (md_fromNobody_4_L σ   a) := by
  intro a
  unfold md_fromNobody_4_L
  refine ev_iload_n iX5_fromNobody_4 rfl rfl ?_
  refine ev_aload_n iX5_fromNobody_5 rfl (by decide) rfl ?_
  refine ev_getR (k1 := 63) 5 0 iX5_fromNobody_6 kF_X5_9 O_62 rfl (by decide) ?_
  refine ev_iconst iX5_fromNobody_9 kI_3 ?_
  refine ev_ialdK 3 iX5_fromNobody_10 A_63 rfl rfl ?_
  refine ev_icmp_ge iX5_fromNobody_11 ?_ ?_
  · refine ev_aload_n iX5_fromNobody_14 rfl (by decide) rfl ?_
    refine ev_iload_n iX5_fromNobody_15 rfl rfl ?_
    refine ev_iconst iX5_fromNobody_16 kI_2 ?_
    refine ev_VRI iX5_fromNobody_17 kV_X5_112 (c_md_sayingIs σ a.2 2) rc_62 rfl rfl (Nat.le_of_ble_eq_true rfl) (sg_fitL (by decide) (Nat.le_of_ble_eq_true rfl)) (fun r1 => ?_)
    refine ev_SRI iX5_fromNobody_20 kS_X5_158 (c_md_greatest σ r1) rfl rfl (Nat.le_of_ble_eq_true rfl) (sg_fitL (by decide) (Nat.le_of_ble_eq_true rfl)) (fun r2 => ?_)
    refine ev_istore_n (ls2 := [some (.ref 62), some (.int a.1), some (.int a.2), some (.int r2)]) iX5_fromNobody_23 rfl (Nat.le_of_ble_eq_true rfl) (Nat.le_of_ble_eq_true rfl) rfl rfl ?_
    refine ev_iload_n iX5_fromNobody_24 rfl rfl ?_
    refine ev_iload_n iX5_fromNobody_25 rfl rfl ?_
    refine ev_if_lt iX5_fromNobody_26 ?_ ?_
    · refine ev_iconst iX5_fromNobody_46 kI_0 ?_
      refine ev_ior iX5_fromNobody_47 ?_
      refine ev_leti (fun x3 => ?_)
      refine ev_istore_n (ls2 := [some (.ref 62), some (.int x3), some (.int a.2), some (.int r2)]) iX5_fromNobody_48 rfl (Nat.le_of_ble_eq_true rfl) (Nat.le_of_ble_eq_true rfl) rfl rfl ?_
      refine ev_iinc (v := (a.2 + 1)) (ls2 := [some (.ref 62), some (.int x3), some (.int (a.2 + 1)), some (.int r2)]) iX5_fromNobody_49 rfl (by rw [kI_1]) (Nat.le_of_ble_eq_true rfl) rfl rfl ?_
      refine ev_goto iX5_fromNobody_52 ?_
      exact ev_exit rfl ⟨rfl, rfl, rfl, trivial⟩
    · refine ev_aload_n iX5_fromNobody_29 rfl (by decide) rfl ?_
      refine ev_iload_n iX5_fromNobody_30 rfl rfl ?_
      refine ev_iload_n iX5_fromNobody_31 rfl rfl ?_
      refine ev_VRI iX5_fromNobody_32 kV_X5_134 (c_md_tracedFrom σ a.2 r2) rc_62 rfl rfl (Nat.le_of_ble_eq_true rfl) (sg_fitL (by decide) (Nat.le_of_ble_eq_true rfl)) (fun r4 => ?_)
      refine ev_bipush iX5_fromNobody_35 kB_8 ?_
      refine ev_icmp_ne iX5_fromNobody_37 ?_ ?_
      · refine ev_iconst iX5_fromNobody_40 kI_1 ?_
        refine ev_iload_n iX5_fromNobody_41 rfl rfl ?_
        refine ev_ishl iX5_fromNobody_42 ?_
        refine ev_goto iX5_fromNobody_43 ?_
        refine ev_ior iX5_fromNobody_47 ?_
        refine ev_leti (fun x5 => ?_)
        refine ev_istore_n (ls2 := [some (.ref 62), some (.int x5), some (.int a.2), some (.int r2)]) iX5_fromNobody_48 rfl (Nat.le_of_ble_eq_true rfl) (Nat.le_of_ble_eq_true rfl) rfl rfl ?_
        refine ev_iinc (v := (a.2 + 1)) (ls2 := [some (.ref 62), some (.int x5), some (.int (a.2 + 1)), some (.int r2)]) iX5_fromNobody_49 rfl (by rw [kI_1]) (Nat.le_of_ble_eq_true rfl) rfl rfl ?_
        refine ev_goto iX5_fromNobody_52 ?_
        exact ev_exit rfl ⟨rfl, rfl, rfl, trivial⟩
      · refine ev_iconst iX5_fromNobody_46 kI_0 ?_
        refine ev_ior iX5_fromNobody_47 ?_
        refine ev_leti (fun x6 => ?_)
        refine ev_istore_n (ls2 := [some (.ref 62), some (.int x6), some (.int a.2), some (.int r2)]) iX5_fromNobody_48 rfl (Nat.le_of_ble_eq_true rfl) (Nat.le_of_ble_eq_true rfl) rfl rfl ?_
        refine ev_iinc (v := (a.2 + 1)) (ls2 := [some (.ref 62), some (.int x6), some (.int (a.2 + 1)), some (.int r2)]) iX5_fromNobody_49 rfl (by rw [kI_1]) (Nat.le_of_ble_eq_true rfl) rfl rfl ?_
        refine ev_goto iX5_fromNobody_52 ?_
        exact ev_exit rfl ⟨rfl, rfl, rfl, trivial⟩
  · exact ev_exit rfl ⟨rfl, trivial⟩
def md_fromNobody (σ : sg_S)  : Option Int32 :=
  ((sg_lp (md_fromNobody_4_L σ  ) 1000 (0, 0)).bind fun e9 => some e9)
set_option maxRecDepth 20000 in
set_option maxHeartbeats 2000000 in
theorem c_md_fromNobody (σ : sg_S)   : sg_Call yX5_fromNobody mX5_fromNobody (rmL 4) [.ref 62] σ (eRI σ) (md_fromNobody σ ) := by
  refine sg_call_of (by decide +kernel) rfl (Nat.le_of_ble_eq_true rfl) rfl (fun _ => rfl) ?_
  refine ev_less (ls2 := [some (.ref 62), none, none, none]) ?_ ⟨rfl, trivial⟩
  unfold md_fromNobody
  refine ev_iconst iX5_fromNobody_0 kI_0 ?_
  refine ev_istore_n (ls2 := [some (.ref 62), some (.int 0), none, none]) iX5_fromNobody_1 rfl (Nat.le_of_ble_eq_true rfl) (Nat.le_of_ble_eq_true rfl) rfl rfl ?_
  refine ev_iconst iX5_fromNobody_2 kI_0 ?_
  refine ev_istore_n (ls2 := [some (.ref 62), some (.int 0), some (.int 0), none]) iX5_fromNobody_3 rfl (Nat.le_of_ble_eq_true rfl) (Nat.le_of_ble_eq_true rfl) rfl rfl ?_
  refine ev_less (ls2 := [some (.ref 62), some (.int 0), some (.int 0), none]) ?_ ⟨rfl, rfl, rfl, trivial⟩
  refine ev_seq1 55 (fun z8 => [none, some (.int z8), none, none]) (fun _ => σ) (ev_loop (embB := md_fromNobody_4_X σ  ) (ex := fun b => md_fromNobody_4_X σ   (.inr b)) 4 (fun z7 => [some (.ref 62), some (.int z7.1), some (.int z7.2), none]) (fun _ => σ) (fun _ => rfl) (fun _ => rfl) (e_md_fromNobody_4_L σ   ) 1000 (0, 0)) (fun _ => rfl) (fun e9 => ?_)
  refine ev_iload_n iX5_fromNobody_55 rfl rfl ?_
  exact ev_iret iX5_fromNobody_56 rfl (narI rfl _)
def md_isWord_32_X (σ : sg_S) (w1 : Nat)  : ((Int32 × Int32) ⊕ Int32) → sg_X
  | .inl a => .inr (32, [some (.ref 62), some (.ref (100 + w1)), some (.int a.1), some (.int a.2)], σ)
  | .inr e => .inr (75, [none, none, some (.int e), none], σ)
def md_isWord_32_L (σ : sg_S) (w1 : Nat)  (a : (Int32 × Int32)) : Option ((Int32 × Int32) ⊕ Int32) :=
  ((jd0_length σ w1).bind fun r2 => (if a.2 < r2 then (if a.1 = 0 then some (.inr a.1) else (if sg_in ((σ 62 7) + a.2) 120 = true then ((jd0_charAt σ w1 a.2).bind fun r3 => (if (σ 67 ((σ 62 7) + a.2).toNatClampNeg) = r3 then some (.inl (1, (a.2 + 1))) else some (.inl (0, (a.2 + 1))))) else none)) else some (.inr a.1)))
set_option maxRecDepth 20000 in
set_option maxHeartbeats 2000000 in
theorem e_md_isWord_32_L (σ : sg_S) (w1 : Nat)  (hw1 : w1 < 12) : ∀ a : (Int32 × Int32), Ev mX5_isWord (rmL 4) 32 [some (.ref 62), some (.ref (100 + w1)), some (.int a.1), some (.int a.2)] [] σ (md_isWord_32_X σ w1 ) (md_isWord_32_L σ w1  a) := by
  intro a
  unfold md_isWord_32_L
  refine ev_iload_n iX5_isWord_32 rfl rfl ?_
  refine ev_aload_n iX5_isWord_33 rfl (ne_W hw1) rfl ?_
  refine ev_VRI iX5_isWord_34 kV_X5_266 (c_jd0_length σ w1 hw1) (rc_W hw1) rfl rfl (Nat.le_of_ble_eq_true rfl) (sg_fitL (by decide) (Nat.le_of_ble_eq_true rfl)) (fun r2 => ?_)
  refine ev_icmp_ge iX5_isWord_37 ?_ ?_
  · refine ev_iload_n iX5_isWord_40 rfl rfl ?_
    refine ev_if_eq iX5_isWord_41 ?_ ?_
    · exact ev_exit rfl ⟨rfl, trivial⟩
    · refine ev_aload_n iX5_isWord_44 rfl (by decide) rfl ?_
      refine ev_getR (k1 := 67) 5 5 iX5_isWord_45 kF_X5_22 O_62 rfl (by decide) ?_
      refine ev_aload_n iX5_isWord_48 rfl (by decide) rfl ?_
      refine ev_getI 5 7 iX5_isWord_49 kF_X5_254 O_62 rfl ?_
      refine ev_iload_n iX5_isWord_52 rfl rfl ?_
      refine ev_iadd iX5_isWord_53 ?_
      refine ev_iald iX5_isWord_54 A_67 ?_
      refine ev_aload_n iX5_isWord_55 rfl (ne_W hw1) rfl ?_
      refine ev_iload_n iX5_isWord_56 rfl rfl ?_
      refine ev_VRI iX5_isWord_57 kV_X5_269 (c_jd0_charAt σ w1 a.2 hw1) (rc_W hw1) rfl rfl (Nat.le_of_ble_eq_true rfl) (sg_fitL (by decide) (Nat.le_of_ble_eq_true rfl)) (fun r3 => ?_)
      refine ev_icmp_ne iX5_isWord_60 ?_ ?_
      · refine ev_iconst iX5_isWord_63 kI_1 ?_
        refine ev_goto iX5_isWord_64 ?_
        refine ev_istore_n (ls2 := [some (.ref 62), some (.ref (100 + w1)), some (.int 1), some (.int a.2)]) iX5_isWord_68 rfl (Nat.le_of_ble_eq_true rfl) (Nat.le_of_ble_eq_true rfl) rfl rfl ?_
        refine ev_iinc (v := (a.2 + 1)) (ls2 := [some (.ref 62), some (.ref (100 + w1)), some (.int 1), some (.int (a.2 + 1))]) iX5_isWord_69 rfl (by rw [kI_1]) (Nat.le_of_ble_eq_true rfl) rfl rfl ?_
        refine ev_goto iX5_isWord_72 ?_
        exact ev_exit rfl ⟨rfl, rfl, rfl, rfl, trivial⟩
      · refine ev_iconst iX5_isWord_67 kI_0 ?_
        refine ev_istore_n (ls2 := [some (.ref 62), some (.ref (100 + w1)), some (.int 0), some (.int a.2)]) iX5_isWord_68 rfl (Nat.le_of_ble_eq_true rfl) (Nat.le_of_ble_eq_true rfl) rfl rfl ?_
        refine ev_iinc (v := (a.2 + 1)) (ls2 := [some (.ref 62), some (.ref (100 + w1)), some (.int 0), some (.int (a.2 + 1))]) iX5_isWord_69 rfl (by rw [kI_1]) (Nat.le_of_ble_eq_true rfl) rfl rfl ?_
        refine ev_goto iX5_isWord_72 ?_
        exact ev_exit rfl ⟨rfl, rfl, rfl, rfl, trivial⟩
  · exact ev_exit rfl ⟨rfl, trivial⟩
def md_isWord_J29 (σ : sg_S) (w1 : Nat)  (t0 : Int32) : Option Int32 :=
  ((sg_lp (md_isWord_32_L σ w1 ) 1000 (t0, 0)).bind fun e6 => (if vp_nar .boolean e6 = e6 then some e6 else none))
set_option maxRecDepth 20000 in
set_option maxHeartbeats 2000000 in
theorem e_md_isWord_J29 (σ : sg_S) (w1 : Nat)  (t0 : Int32) (hw1 : w1 < 12) : Ev mX5_isWord (rmL 4) 29 [some (.ref 62), some (.ref (100 + w1)), none, none] [.int t0] σ (fun b => Sum.inl (eRI σ b)) (md_isWord_J29 σ w1  t0) := by
  unfold md_isWord_J29
  refine ev_istore_n (ls2 := [some (.ref 62), some (.ref (100 + w1)), some (.int t0), none]) iX5_isWord_29 rfl (Nat.le_of_ble_eq_true rfl) (Nat.le_of_ble_eq_true rfl) rfl rfl ?_
  refine ev_iconst iX5_isWord_30 kI_0 ?_
  refine ev_istore_n (ls2 := [some (.ref 62), some (.ref (100 + w1)), some (.int t0), some (.int 0)]) iX5_isWord_31 rfl (Nat.le_of_ble_eq_true rfl) (Nat.le_of_ble_eq_true rfl) rfl rfl ?_
  refine ev_less (ls2 := [some (.ref 62), some (.ref (100 + w1)), some (.int t0), some (.int 0)]) ?_ ⟨rfl, rfl, rfl, rfl, trivial⟩
  refine ev_seq1 75 (fun z5 => [none, none, some (.int z5), none]) (fun _ => σ) (ev_loop (embB := md_isWord_32_X σ w1 ) (ex := fun b => md_isWord_32_X σ w1  (.inr b)) 32 (fun z4 => [some (.ref 62), some (.ref (100 + w1)), some (.int z4.1), some (.int z4.2)]) (fun _ => σ) (fun _ => rfl) (fun _ => rfl) (e_md_isWord_32_L σ w1  hw1) 1000 (t0, 0)) (fun _ => rfl) (fun e6 => ?_)
  refine ev_iload_n iX5_isWord_75 rfl rfl ?_
  refine ev_nar (fun hn => ?_)
  exact ev_iret iX5_isWord_76 rfl (narG rfl hn)
def md_isWord_J28 (σ : sg_S) (w1 : Nat)   : Option Int32 :=
  md_isWord_J29 σ w1 0
set_option maxRecDepth 20000 in
set_option maxHeartbeats 2000000 in
theorem e_md_isWord_J28 (σ : sg_S) (w1 : Nat)   (hw1 : w1 < 12) : Ev mX5_isWord (rmL 4) 28 [some (.ref 62), some (.ref (100 + w1)), none, none] [] σ (fun b => Sum.inl (eRI σ b)) (md_isWord_J28 σ w1  ) := by
  unfold md_isWord_J28
  refine ev_iconst iX5_isWord_28 kI_0 ?_
  exact ev_less (e_md_isWord_J29 σ w1  0 hw1) ⟨rfl, rfl, trivial⟩
def md_isWord (σ : sg_S) (w1 : Nat) : Option Int32 :=
  (if (σ 62 9) = 1 then ((jd0_length σ w1).bind fun r1 => (if ((σ 62 8) - (σ 62 7)) = r1 then md_isWord_J29 σ w1 1 else md_isWord_J28 σ w1)) else md_isWord_J28 σ w1)
set_option maxRecDepth 20000 in
set_option maxHeartbeats 2000000 in
theorem c_md_isWord (σ : sg_S) (w1 : Nat) (hw1 : w1 < 12) : sg_Call yX5_isWord mX5_isWord (rmL 4) [.ref 62, .ref (100 + w1)] σ (eRI σ) (md_isWord σ w1) := by
  refine sg_call_of (by decide +kernel) rfl (Nat.le_of_ble_eq_true rfl) rfl (fun _ => rfl) ?_
  refine ev_less (ls2 := [some (.ref 62), some (.ref (100 + w1)), none, none]) ?_ ⟨rfl, rfl, trivial⟩
  unfold md_isWord
  refine ev_aload_n iX5_isWord_0 rfl (by decide) rfl ?_
  refine ev_getI 5 9 iX5_isWord_1 kF_X5_263 O_62 rfl ?_
  refine ev_iconst iX5_isWord_4 kI_1 ?_
  refine ev_icmp_ne iX5_isWord_5 ?_ ?_
  · refine ev_aload_n iX5_isWord_8 rfl (by decide) rfl ?_
    refine ev_getI 5 8 iX5_isWord_9 kF_X5_251 O_62 rfl ?_
    refine ev_aload_n iX5_isWord_12 rfl (by decide) rfl ?_
    refine ev_getI 5 7 iX5_isWord_13 kF_X5_254 O_62 rfl ?_
    refine ev_isub iX5_isWord_16 ?_
    refine ev_aload_n iX5_isWord_17 rfl (ne_W hw1) rfl ?_
    refine ev_VRI iX5_isWord_18 kV_X5_266 (c_jd0_length σ w1 hw1) (rc_W hw1) rfl rfl (Nat.le_of_ble_eq_true rfl) (sg_fitL (by decide) (Nat.le_of_ble_eq_true rfl)) (fun r1 => ?_)
    refine ev_icmp_ne iX5_isWord_21 ?_ ?_
    · refine ev_iconst iX5_isWord_24 kI_1 ?_
      refine ev_goto iX5_isWord_25 ?_
      exact ev_less (e_md_isWord_J29 σ w1  1 hw1) ⟨rfl, rfl, trivial⟩
    · exact ev_less (e_md_isWord_J28 σ w1   hw1) ⟨rfl, rfl, trivial⟩
  · exact ev_less (e_md_isWord_J28 σ w1   hw1) ⟨rfl, rfl, trivial⟩
def md_readSaying_J15 (σ : sg_S)   (t0 : Int32) : Option sg_S :=
  ((md_must σ t0).bind fun r1 => ((md_number r1 0 ((r1 62 15) - 1)).bind fun r2 => ((md_number r2.2 0 7).bind fun r3 => ((md_number r3.2 0 9).bind fun r4 => ((md_addItem r4.2 10 r2.1 r3.1 r4.1).bind fun r5 => sg_let (sg_st r5 62 16 ((r5 62 16) + 1)) (fun s6 => some s6))))))
set_option maxRecDepth 20000 in
set_option maxHeartbeats 2000000 in
theorem e_md_readSaying_J15 (σ : sg_S)   (t0 : Int32)  : Ev mX5_readSaying (rmL 4) 15 [some (.ref 62), none, none] [.int t0, .ref 62] σ (fun b => Sum.inl (eMV b)) (md_readSaying_J15 σ   t0) := by
  unfold md_readSaying_J15
  refine ev_VMV iX5_readSaying_15 kV_X5_280 (c_md_must σ t0) rc_62 rfl rfl (Nat.le_of_ble_eq_true rfl) (sg_fitL (by decide) (Nat.le_of_ble_eq_true rfl)) (fun r1 => ?_)
  refine ev_aload_n iX5_readSaying_18 rfl (by decide) rfl ?_
  refine ev_iconst iX5_readSaying_19 kI_0 ?_
  refine ev_aload_n iX5_readSaying_20 rfl (by decide) rfl ?_
  refine ev_getI 5 15 iX5_readSaying_21 kF_X5_291 O_62 rfl ?_
  refine ev_iconst iX5_readSaying_24 kI_1 ?_
  refine ev_isub iX5_readSaying_25 ?_
  refine ev_VMI iX5_readSaying_26 kV_X5_299 (c_md_number r1 0 ((r1 62 15) - 1)) rc_62 rfl rfl (Nat.le_of_ble_eq_true rfl) (sg_fitL (by decide) (Nat.le_of_ble_eq_true rfl)) (fun r2 => ?_)
  refine ev_istore_n (ls2 := [some (.ref 62), some (.int r2.1), none]) iX5_readSaying_29 rfl (Nat.le_of_ble_eq_true rfl) (Nat.le_of_ble_eq_true rfl) rfl rfl ?_
  refine ev_aload_n iX5_readSaying_30 rfl (by decide) rfl ?_
  refine ev_iconst iX5_readSaying_31 kI_0 ?_
  refine ev_bipush iX5_readSaying_32 kB_7 ?_
  refine ev_VMI iX5_readSaying_34 kV_X5_299 (c_md_number r2.2 0 7) rc_62 rfl rfl (Nat.le_of_ble_eq_true rfl) (sg_fitL (by decide) (Nat.le_of_ble_eq_true rfl)) (fun r3 => ?_)
  refine ev_istore_n (ls2 := [some (.ref 62), some (.int r2.1), some (.int r3.1)]) iX5_readSaying_37 rfl (Nat.le_of_ble_eq_true rfl) (Nat.le_of_ble_eq_true rfl) rfl rfl ?_
  refine ev_aload_n iX5_readSaying_38 rfl (by decide) rfl ?_
  refine ev_bipush iX5_readSaying_39 kB_10 ?_
  refine ev_iload_n iX5_readSaying_41 rfl rfl ?_
  refine ev_iload_n iX5_readSaying_42 rfl rfl ?_
  refine ev_aload_n iX5_readSaying_43 rfl (by decide) rfl ?_
  refine ev_iconst iX5_readSaying_44 kI_0 ?_
  refine ev_bipush iX5_readSaying_45 kB_9 ?_
  refine ev_VMI iX5_readSaying_47 kV_X5_299 (c_md_number r3.2 0 9) rc_62 rfl rfl (Nat.le_of_ble_eq_true rfl) (sg_fitL (by decide) (Nat.le_of_ble_eq_true rfl)) (fun r4 => ?_)
  refine ev_VMV iX5_readSaying_50 kV_X5_304 (c_md_addItem r4.2 10 r2.1 r3.1 r4.1) rc_62 rfl rfl (Nat.le_of_ble_eq_true rfl) (sg_fitL (by decide) (Nat.le_of_ble_eq_true rfl)) (fun r5 => ?_)
  refine ev_aload_n iX5_readSaying_53 rfl (by decide) rfl ?_
  refine ev_dupR iX5_readSaying_54 (by decide) ?_
  refine ev_getI 5 16 iX5_readSaying_55 kF_X5_308 O_62 rfl ?_
  refine ev_iconst iX5_readSaying_58 kI_1 ?_
  refine ev_iadd iX5_readSaying_59 ?_
  refine ev_putI 5 16 iX5_readSaying_60 kF_X5_308 fp_5_16 rfl rfl O_62 rfl ?_
  refine ev_let (fun s6 => ?_)
  exact ev_vret iX5_readSaying_63 rfl
def md_readSaying (σ : sg_S)  : Option sg_S :=
  (if (σ 62 16) < 6 then md_readSaying_J15 σ 1 else md_readSaying_J15 σ 0)
set_option maxRecDepth 20000 in
set_option maxHeartbeats 2000000 in
theorem c_md_readSaying (σ : sg_S)   : sg_Call yX5_readSaying mX5_readSaying (rmL 4) [.ref 62] σ eMV (md_readSaying σ ) := by
  refine sg_call_of (by decide +kernel) rfl (Nat.le_of_ble_eq_true rfl) rfl (fun _ => rfl) ?_
  refine ev_less (ls2 := [some (.ref 62), none, none]) ?_ ⟨rfl, trivial⟩
  unfold md_readSaying
  refine ev_aload_n iX5_readSaying_0 rfl (by decide) rfl ?_
  refine ev_aload_n iX5_readSaying_1 rfl (by decide) rfl ?_
  refine ev_getI 5 16 iX5_readSaying_2 kF_X5_308 O_62 rfl ?_
  refine ev_bipush iX5_readSaying_5 kB_6 ?_
  refine ev_icmp_ge iX5_readSaying_7 ?_ ?_
  · refine ev_iconst iX5_readSaying_10 kI_1 ?_
    refine ev_goto iX5_readSaying_11 ?_
    exact ev_less (e_md_readSaying_J15 σ   1 ) ⟨rfl, trivial⟩
  · refine ev_iconst iX5_readSaying_14 kI_0 ?_
    exact ev_less (e_md_readSaying_J15 σ   0 ) ⟨rfl, trivial⟩
def md_of (σ : sg_S) (a1 : Int32) (a2 : Int32) : Option (Int32 × sg_S) :=
  ((md_isPerson σ a1).bind fun r1 => (if r1 = 0 then ((md_finding σ (-1000001)).bind fun r2 => some (r2.1, r2.2)) else ((md_within σ a2 0 4).bind fun r3 => (if r3 = 0 then ((md_finding σ (-1000001)).bind fun r4 => some (r4.1, r4.2)) else ((md_told σ a1 a2).bind fun r5 => some (r5, σ))))))
set_option maxRecDepth 20000 in
set_option maxHeartbeats 2000000 in
theorem c_md_of (σ : sg_S) (a1 : Int32) (a2 : Int32)  : sg_Call yX5_of mX5_of (rmL 5) [.ref 62, .int a1, .int a2] σ eMI (md_of σ a1 a2) := by
  refine sg_call_of (by decide +kernel) rfl (Nat.le_of_ble_eq_true rfl) rfl (fun _ => rfl) ?_
  refine ev_less (ls2 := [some (.ref 62), some (.int a1), some (.int a2)]) ?_ ⟨rfl, rfl, rfl, trivial⟩
  unfold md_of
  refine ev_aload_n iX5_of_0 rfl (by decide) rfl ?_
  refine ev_iload_n iX5_of_1 rfl rfl ?_
  refine ev_VRI iX5_of_2 kV_X5_105 (c_md_isPerson σ a1) rc_62 rfl rfl (Nat.le_of_ble_eq_true rfl) (sg_fitL (by decide) (Nat.le_of_ble_eq_true rfl)) (fun r1 => ?_)
  refine ev_if_eq iX5_of_5 ?_ ?_
  · refine ev_aload_n iX5_of_26 rfl (by decide) rfl ?_
    refine ev_ldc iX5_of_27 kC_X5_60 ?_
    refine ev_VMI iX5_of_29 kV_X5_66 (c_md_finding σ (-1000001)) rc_62 rfl rfl (Nat.le_of_ble_eq_true rfl) (sg_fitL (by decide) (Nat.le_of_ble_eq_true rfl)) (fun r2 => ?_)
    exact ev_iret iX5_of_32 rfl (narI rfl _)
  · refine ev_iload_n iX5_of_8 rfl rfl ?_
    refine ev_iconst iX5_of_9 kI_0 ?_
    refine ev_iconst iX5_of_10 kI_4 ?_
    refine ev_SRI iX5_of_11 kS_X5_70 (c_md_within σ a2 0 4) rfl rfl (Nat.le_of_ble_eq_true rfl) (sg_fitL (by decide) (Nat.le_of_ble_eq_true rfl)) (fun r3 => ?_)
    refine ev_if_eq iX5_of_14 ?_ ?_
    · refine ev_aload_n iX5_of_26 rfl (by decide) rfl ?_
      refine ev_ldc iX5_of_27 kC_X5_60 ?_
      refine ev_VMI iX5_of_29 kV_X5_66 (c_md_finding σ (-1000001)) rc_62 rfl rfl (Nat.le_of_ble_eq_true rfl) (sg_fitL (by decide) (Nat.le_of_ble_eq_true rfl)) (fun r4 => ?_)
      exact ev_iret iX5_of_32 rfl (narI rfl _)
    · refine ev_aload_n iX5_of_17 rfl (by decide) rfl ?_
      refine ev_iload_n iX5_of_18 rfl rfl ?_
      refine ev_iload_n iX5_of_19 rfl rfl ?_
      refine ev_VRI iX5_of_20 kV_X5_125 (c_md_told σ a1 a2) rc_62 rfl rfl (Nat.le_of_ble_eq_true rfl) (sg_fitL (by decide) (Nat.le_of_ble_eq_true rfl)) (fun r5 => ?_)
      refine ev_goto iX5_of_23 ?_
      exact ev_iret iX5_of_32 rfl (narI rfl _)
def md_day_J63 (σ : sg_S)    : Option sg_S :=
  sg_leti (jrem ((σ 63 0) / 6) 6) (fun x6 => (if (jrem (σ 63 0) 6) = 5 then ((md_isSaying σ x6).bind fun r7 => (if r7 = 0 then ((md_more σ 0 1 99999).bind fun r8 => some r8) else ((md_trial σ x6).bind fun r9 => ((md_more r9 0 1 99999).bind fun r10 => some r10)))) else ((md_more σ 0 1 99999).bind fun r11 => some r11)))
set_option maxRecDepth 20000 in
set_option maxHeartbeats 2000000 in
theorem e_md_day_J63 (σ : sg_S)     : Ev mX5_day (rmL 5) 63 [some (.ref 62), none, none, none] [] σ (fun b => Sum.inl (eMV b)) (md_day_J63 σ   ) := by
  unfold md_day_J63
  refine ev_aload_n iX5_day_63 rfl (by decide) rfl ?_
  refine ev_getR (k1 := 63) 5 0 iX5_day_64 kF_X5_9 O_62 rfl (by decide) ?_
  refine ev_iconst iX5_day_67 kI_0 ?_
  refine ev_ialdK 0 iX5_day_68 A_63 rfl rfl ?_
  refine ev_bipush iX5_day_69 kB_6 ?_
  refine ev_idivK iX5_day_71 (by decide) ?_
  refine ev_bipush iX5_day_72 kB_6 ?_
  refine ev_iremK iX5_day_74 (by decide) ?_
  refine ev_leti (fun x6 => ?_)
  refine ev_istore_n (ls2 := [some (.ref 62), none, none, some (.int x6)]) iX5_day_75 rfl (Nat.le_of_ble_eq_true rfl) (Nat.le_of_ble_eq_true rfl) rfl rfl ?_
  refine ev_aload_n iX5_day_76 rfl (by decide) rfl ?_
  refine ev_getR (k1 := 63) 5 0 iX5_day_77 kF_X5_9 O_62 rfl (by decide) ?_
  refine ev_iconst iX5_day_80 kI_0 ?_
  refine ev_ialdK 0 iX5_day_81 A_63 rfl rfl ?_
  refine ev_bipush iX5_day_82 kB_6 ?_
  refine ev_iremK iX5_day_84 (by decide) ?_
  refine ev_iconst iX5_day_85 kI_5 ?_
  refine ev_icmp_ne iX5_day_86 ?_ ?_
  · refine ev_aload_n iX5_day_89 rfl (by decide) rfl ?_
    refine ev_iload_n iX5_day_90 rfl rfl ?_
    refine ev_VRI iX5_day_91 kV_X5_131 (c_md_isSaying σ x6) rc_62 rfl rfl (Nat.le_of_ble_eq_true rfl) (sg_fitL (by decide) (Nat.le_of_ble_eq_true rfl)) (fun r7 => ?_)
    refine ev_if_eq iX5_day_94 ?_ ?_
    · refine ev_aload_n iX5_day_102 rfl (by decide) rfl ?_
      refine ev_iconst iX5_day_103 kI_0 ?_
      refine ev_iconst iX5_day_104 kI_1 ?_
      refine ev_ldc iX5_day_105 kC_X5_172 ?_
      refine ev_VMV iX5_day_107 kV_X5_165 (c_md_more σ 0 1 99999) rc_62 rfl rfl (Nat.le_of_ble_eq_true rfl) (sg_fitL (by decide) (Nat.le_of_ble_eq_true rfl)) (fun r8 => ?_)
      exact ev_vret iX5_day_110 rfl
    · refine ev_aload_n iX5_day_97 rfl (by decide) rfl ?_
      refine ev_iload_n iX5_day_98 rfl rfl ?_
      refine ev_VMV iX5_day_99 kV_X5_176 (c_md_trial σ x6) rc_62 rfl rfl (Nat.le_of_ble_eq_true rfl) (sg_fitL (by decide) (Nat.le_of_ble_eq_true rfl)) (fun r9 => ?_)
      refine ev_aload_n iX5_day_102 rfl (by decide) rfl ?_
      refine ev_iconst iX5_day_103 kI_0 ?_
      refine ev_iconst iX5_day_104 kI_1 ?_
      refine ev_ldc iX5_day_105 kC_X5_172 ?_
      refine ev_VMV iX5_day_107 kV_X5_165 (c_md_more r9 0 1 99999) rc_62 rfl rfl (Nat.le_of_ble_eq_true rfl) (sg_fitL (by decide) (Nat.le_of_ble_eq_true rfl)) (fun r10 => ?_)
      exact ev_vret iX5_day_110 rfl
  · refine ev_aload_n iX5_day_102 rfl (by decide) rfl ?_
    refine ev_iconst iX5_day_103 kI_0 ?_
    refine ev_iconst iX5_day_104 kI_1 ?_
    refine ev_ldc iX5_day_105 kC_X5_172 ?_
    refine ev_VMV iX5_day_107 kV_X5_165 (c_md_more σ 0 1 99999) rc_62 rfl rfl (Nat.le_of_ble_eq_true rfl) (sg_fitL (by decide) (Nat.le_of_ble_eq_true rfl)) (fun r11 => ?_)
    exact ev_vret iX5_day_110 rfl
def md_day (σ : sg_S)  : Option sg_S :=
  ((md_placeNow σ).bind fun r1 => (if sg_in r1 119 = true then sg_leti ((σ 63 r1.toNatClampNeg) / 10) (fun x2 => ((md_placeNow σ).bind fun r3 => (if sg_in r3 119 = true then sg_leti (jrem (σ 63 r3.toNatClampNeg) 10) (fun x4 => ((md_isPerson σ x2).bind fun r5 => (if r5 = 0 then md_day_J63 σ else ((md_isPerson σ x4).bind fun r12 => (if r12 = 0 then md_day_J63 σ else (if x2 = x4 then md_day_J63 σ else ((md_mayTalk σ x2 x4).bind fun r13 => (if r13 = 0 then md_day_J63 σ else ((md_talks σ x2 x4).bind fun r14 => md_day_J63 r14.2))))))))) else none))) else none))
set_option maxRecDepth 20000 in
set_option maxHeartbeats 2000000 in
theorem c_md_day (σ : sg_S)   : sg_Call yX5_day mX5_day (rmL 5) [.ref 62] σ eMV (md_day σ ) := by
  refine sg_call_of (by decide +kernel) rfl (Nat.le_of_ble_eq_true rfl) rfl (fun _ => rfl) ?_
  refine ev_less (ls2 := [some (.ref 62), none, none, none]) ?_ ⟨rfl, trivial⟩
  unfold md_day
  refine ev_aload_n iX5_day_0 rfl (by decide) rfl ?_
  refine ev_getR (k1 := 63) 5 0 iX5_day_1 kF_X5_9 O_62 rfl (by decide) ?_
  refine ev_aload_n iX5_day_4 rfl (by decide) rfl ?_
  refine ev_VRI iX5_day_5 kV_X5_173 (c_md_placeNow σ ) rc_62 rfl rfl (Nat.le_of_ble_eq_true rfl) (sg_fitL (by decide) (Nat.le_of_ble_eq_true rfl)) (fun r1 => ?_)
  refine ev_iald iX5_day_8 A_63 ?_
  refine ev_bipush iX5_day_9 kB_10 ?_
  refine ev_idivK iX5_day_11 (by decide) ?_
  refine ev_leti (fun x2 => ?_)
  refine ev_istore_n (ls2 := [some (.ref 62), some (.int x2), none, none]) iX5_day_12 rfl (Nat.le_of_ble_eq_true rfl) (Nat.le_of_ble_eq_true rfl) rfl rfl ?_
  refine ev_aload_n iX5_day_13 rfl (by decide) rfl ?_
  refine ev_getR (k1 := 63) 5 0 iX5_day_14 kF_X5_9 O_62 rfl (by decide) ?_
  refine ev_aload_n iX5_day_17 rfl (by decide) rfl ?_
  refine ev_VRI iX5_day_18 kV_X5_173 (c_md_placeNow σ ) rc_62 rfl rfl (Nat.le_of_ble_eq_true rfl) (sg_fitL (by decide) (Nat.le_of_ble_eq_true rfl)) (fun r3 => ?_)
  refine ev_iald iX5_day_21 A_63 ?_
  refine ev_bipush iX5_day_22 kB_10 ?_
  refine ev_iremK iX5_day_24 (by decide) ?_
  refine ev_leti (fun x4 => ?_)
  refine ev_istore_n (ls2 := [some (.ref 62), some (.int x2), some (.int x4), none]) iX5_day_25 rfl (Nat.le_of_ble_eq_true rfl) (Nat.le_of_ble_eq_true rfl) rfl rfl ?_
  refine ev_aload_n iX5_day_26 rfl (by decide) rfl ?_
  refine ev_iload_n iX5_day_27 rfl rfl ?_
  refine ev_VRI iX5_day_28 kV_X5_105 (c_md_isPerson σ x2) rc_62 rfl rfl (Nat.le_of_ble_eq_true rfl) (sg_fitL (by decide) (Nat.le_of_ble_eq_true rfl)) (fun r5 => ?_)
  refine ev_if_eq iX5_day_31 ?_ ?_
  · exact ev_less (e_md_day_J63 σ    ) ⟨rfl, trivial⟩
  · refine ev_aload_n iX5_day_34 rfl (by decide) rfl ?_
    refine ev_iload_n iX5_day_35 rfl rfl ?_
    refine ev_VRI iX5_day_36 kV_X5_105 (c_md_isPerson σ x4) rc_62 rfl rfl (Nat.le_of_ble_eq_true rfl) (sg_fitL (by decide) (Nat.le_of_ble_eq_true rfl)) (fun r12 => ?_)
    refine ev_if_eq iX5_day_39 ?_ ?_
    · exact ev_less (e_md_day_J63 σ    ) ⟨rfl, trivial⟩
    · refine ev_iload_n iX5_day_42 rfl rfl ?_
      refine ev_iload_n iX5_day_43 rfl rfl ?_
      refine ev_icmp_eq iX5_day_44 ?_ ?_
      · exact ev_less (e_md_day_J63 σ    ) ⟨rfl, trivial⟩
      · refine ev_aload_n iX5_day_47 rfl (by decide) rfl ?_
        refine ev_iload_n iX5_day_48 rfl rfl ?_
        refine ev_iload_n iX5_day_49 rfl rfl ?_
        refine ev_VRI iX5_day_50 kV_X5_146 (c_md_mayTalk σ x2 x4) rc_62 rfl rfl (Nat.le_of_ble_eq_true rfl) (sg_fitL (by decide) (Nat.le_of_ble_eq_true rfl)) (fun r13 => ?_)
        refine ev_if_eq iX5_day_53 ?_ ?_
        · exact ev_less (e_md_day_J63 σ    ) ⟨rfl, trivial⟩
        · refine ev_aload_n iX5_day_56 rfl (by decide) rfl ?_
          refine ev_iload_n iX5_day_57 rfl rfl ?_
          refine ev_iload_n iX5_day_58 rfl rfl ?_
          refine ev_VMI iX5_day_59 kV_X5_149 (c_md_talks σ x2 x4) rc_62 rfl rfl (Nat.le_of_ble_eq_true rfl) (sg_fitL (by decide) (Nat.le_of_ble_eq_true rfl)) (fun r14 => ?_)
          refine ev_popI iX5_day_62 ?_
          exact ev_less (e_md_day_J63 r14.2    ) ⟨rfl, trivial⟩
def md_now (σ : sg_S) (a1 : Int32) : Option (Int32 × sg_S) :=
  (sg_sw a1 [(0, some ((σ 63 0), σ)), (1, some ((σ 63 4), σ)), (2, ((md_heardInAll σ).bind fun r2 => some (r2, σ))), (3, ((md_commonOnes σ).bind fun r3 => some (r3, σ))), (4, ((md_blamedInAll σ).bind fun r4 => some (r4, σ))), (5, ((md_blamedMost σ).bind fun r5 => some (r5, σ))), (6, ((md_deafOnes σ).bind fun r6 => some (r6, σ))), (7, ((md_fromNobody σ).bind fun r7 => some (r7, σ)))] ((md_finding σ (-1000001)).bind fun r1 => some (r1.1, r1.2)))
set_option maxRecDepth 20000 in
set_option maxHeartbeats 2000000 in
theorem c_md_now (σ : sg_S) (a1 : Int32)  : sg_Call yX5_now mX5_now (rmL 5) [.ref 62, .int a1] σ eMI (md_now σ a1) := by
  refine sg_call_of (by decide +kernel) rfl (Nat.le_of_ble_eq_true rfl) rfl (fun _ => rfl) ?_
  refine ev_less (ls2 := [some (.ref 62), some (.int a1)]) ?_ ⟨rfl, rfl, trivial⟩
  unfold md_now
  refine ev_iload_n iX5_now_0 rfl rfl ?_
  refine ev_table (dt := 92) [48, 55, 62, 67, 72, 77, 82, 87] iX5_now_1 rfl rfl ⟨rfl, rfl, rfl, rfl, rfl, rfl, rfl, rfl, rfl, rfl, rfl, rfl, rfl, rfl, rfl, rfl, trivial⟩ ?_ ⟨?_, ?_, ?_, ?_, ?_, ?_, ?_, ?_, trivial⟩
  · refine ev_aload_n iX5_now_92 rfl (by decide) rfl ?_
    refine ev_ldc iX5_now_93 kC_X5_60 ?_
    refine ev_VMI iX5_now_95 kV_X5_66 (c_md_finding σ (-1000001)) rc_62 rfl rfl (Nat.le_of_ble_eq_true rfl) (sg_fitL (by decide) (Nat.le_of_ble_eq_true rfl)) (fun r1 => ?_)
    exact ev_iret iX5_now_98 rfl (narI rfl _)
  · refine ev_aload_n iX5_now_48 rfl (by decide) rfl ?_
    refine ev_getR (k1 := 63) 5 0 iX5_now_49 kF_X5_9 O_62 rfl (by decide) ?_
    refine ev_iconst iX5_now_52 kI_0 ?_
    refine ev_ialdK 0 iX5_now_53 A_63 rfl rfl ?_
    exact ev_iret iX5_now_54 rfl (narI rfl _)
  · refine ev_aload_n iX5_now_55 rfl (by decide) rfl ?_
    refine ev_getR (k1 := 63) 5 0 iX5_now_56 kF_X5_9 O_62 rfl (by decide) ?_
    refine ev_iconst iX5_now_59 kI_4 ?_
    refine ev_ialdK 4 iX5_now_60 A_63 rfl rfl ?_
    exact ev_iret iX5_now_61 rfl (narI rfl _)
  · refine ev_aload_n iX5_now_62 rfl (by decide) rfl ?_
    refine ev_VRI iX5_now_63 kV_X5_192 (c_md_heardInAll σ ) rc_62 rfl rfl (Nat.le_of_ble_eq_true rfl) (sg_fitL (by decide) (Nat.le_of_ble_eq_true rfl)) (fun r2 => ?_)
    exact ev_iret iX5_now_66 rfl (narI rfl _)
  · refine ev_aload_n iX5_now_67 rfl (by decide) rfl ?_
    refine ev_VRI iX5_now_68 kV_X5_195 (c_md_commonOnes σ ) rc_62 rfl rfl (Nat.le_of_ble_eq_true rfl) (sg_fitL (by decide) (Nat.le_of_ble_eq_true rfl)) (fun r3 => ?_)
    exact ev_iret iX5_now_71 rfl (narI rfl _)
  · refine ev_aload_n iX5_now_72 rfl (by decide) rfl ?_
    refine ev_VRI iX5_now_73 kV_X5_198 (c_md_blamedInAll σ ) rc_62 rfl rfl (Nat.le_of_ble_eq_true rfl) (sg_fitL (by decide) (Nat.le_of_ble_eq_true rfl)) (fun r4 => ?_)
    exact ev_iret iX5_now_76 rfl (narI rfl _)
  · refine ev_aload_n iX5_now_77 rfl (by decide) rfl ?_
    refine ev_VRI iX5_now_78 kV_X5_201 (c_md_blamedMost σ ) rc_62 rfl rfl (Nat.le_of_ble_eq_true rfl) (sg_fitL (by decide) (Nat.le_of_ble_eq_true rfl)) (fun r5 => ?_)
    exact ev_iret iX5_now_81 rfl (narI rfl _)
  · refine ev_aload_n iX5_now_82 rfl (by decide) rfl ?_
    refine ev_VRI iX5_now_83 kV_X5_204 (c_md_deafOnes σ ) rc_62 rfl rfl (Nat.le_of_ble_eq_true rfl) (sg_fitL (by decide) (Nat.le_of_ble_eq_true rfl)) (fun r6 => ?_)
    exact ev_iret iX5_now_86 rfl (narI rfl _)
  · refine ev_aload_n iX5_now_87 rfl (by decide) rfl ?_
    refine ev_VRI iX5_now_88 kV_X5_207 (c_md_fromNobody σ ) rc_62 rfl rfl (Nat.le_of_ble_eq_true rfl) (sg_fitL (by decide) (Nat.le_of_ble_eq_true rfl)) (fun r7 => ?_)
    exact ev_iret iX5_now_91 rfl (narI rfl _)
def md_takesWord (σ : sg_S) (w1 : Nat) : Option (Int32 × sg_S) :=
  (if (σ 62 11) = 0 then ((md_isWord σ w1).bind fun r1 => (if r1 = 0 then (if (0 : Int32) = 0 then some (0, σ) else ((md_must σ 1).bind fun r2 => some (0, r2))) else (if (1 : Int32) = 0 then some (1, σ) else ((md_must σ 1).bind fun r3 => some (1, r3))))) else (if (0 : Int32) = 0 then some (0, σ) else ((md_must σ 1).bind fun r4 => some (0, r4))))
set_option maxRecDepth 20000 in
set_option maxHeartbeats 2000000 in
theorem c_md_takesWord (σ : sg_S) (w1 : Nat) (hw1 : w1 < 12) : sg_Call yX5_takesWord mX5_takesWord (rmL 5) [.ref 62, .ref (100 + w1)] σ eMI (md_takesWord σ w1) := by
  refine sg_call_of (by decide +kernel) rfl (Nat.le_of_ble_eq_true rfl) rfl (fun _ => rfl) ?_
  refine ev_less (ls2 := [some (.ref 62), some (.ref (100 + w1)), none]) ?_ ⟨rfl, rfl, trivial⟩
  unfold md_takesWord
  refine ev_aload_n iX5_takesWord_0 rfl (by decide) rfl ?_
  refine ev_getI 5 11 iX5_takesWord_1 kF_X5_273 O_62 rfl ?_
  refine ev_if_ne iX5_takesWord_4 ?_ ?_
  · refine ev_aload_n iX5_takesWord_7 rfl (by decide) rfl ?_
    refine ev_aload_n iX5_takesWord_8 rfl (ne_W hw1) rfl ?_
    refine ev_VRI iX5_takesWord_9 kV_X5_287 (c_md_isWord σ w1 hw1) rc_62 rfl rfl (Nat.le_of_ble_eq_true rfl) (sg_fitL (by decide) (Nat.le_of_ble_eq_true rfl)) (fun r1 => ?_)
    refine ev_if_eq iX5_takesWord_12 ?_ ?_
    · refine ev_iconst iX5_takesWord_19 kI_0 ?_
      refine ev_istore_n (ls2 := [some (.ref 62), some (.ref (100 + w1)), some (.int 0)]) iX5_takesWord_20 rfl (Nat.le_of_ble_eq_true rfl) (Nat.le_of_ble_eq_true rfl) rfl rfl ?_
      refine ev_iload_n iX5_takesWord_21 rfl rfl ?_
      refine ev_if_eq iX5_takesWord_22 ?_ ?_
      · refine ev_iload_n iX5_takesWord_30 rfl rfl ?_
        exact ev_iret iX5_takesWord_31 rfl (fun ty _ => nar0 ty)
      · refine ev_aload_n iX5_takesWord_25 rfl (by decide) rfl ?_
        refine ev_iconst iX5_takesWord_26 kI_1 ?_
        refine ev_VMV iX5_takesWord_27 kV_X5_280 (c_md_must σ 1) rc_62 rfl rfl (Nat.le_of_ble_eq_true rfl) (sg_fitL (by decide) (Nat.le_of_ble_eq_true rfl)) (fun r2 => ?_)
        refine ev_iload_n iX5_takesWord_30 rfl rfl ?_
        exact ev_iret iX5_takesWord_31 rfl (fun ty _ => nar0 ty)
    · refine ev_iconst iX5_takesWord_15 kI_1 ?_
      refine ev_goto iX5_takesWord_16 ?_
      refine ev_istore_n (ls2 := [some (.ref 62), some (.ref (100 + w1)), some (.int 1)]) iX5_takesWord_20 rfl (Nat.le_of_ble_eq_true rfl) (Nat.le_of_ble_eq_true rfl) rfl rfl ?_
      refine ev_iload_n iX5_takesWord_21 rfl rfl ?_
      refine ev_if_eq iX5_takesWord_22 ?_ ?_
      · refine ev_iload_n iX5_takesWord_30 rfl rfl ?_
        exact ev_iret iX5_takesWord_31 rfl (fun ty _ => nar1 ty)
      · refine ev_aload_n iX5_takesWord_25 rfl (by decide) rfl ?_
        refine ev_iconst iX5_takesWord_26 kI_1 ?_
        refine ev_VMV iX5_takesWord_27 kV_X5_280 (c_md_must σ 1) rc_62 rfl rfl (Nat.le_of_ble_eq_true rfl) (sg_fitL (by decide) (Nat.le_of_ble_eq_true rfl)) (fun r3 => ?_)
        refine ev_iload_n iX5_takesWord_30 rfl rfl ?_
        exact ev_iret iX5_takesWord_31 rfl (fun ty _ => nar1 ty)
  · refine ev_iconst iX5_takesWord_19 kI_0 ?_
    refine ev_istore_n (ls2 := [some (.ref 62), some (.ref (100 + w1)), some (.int 0)]) iX5_takesWord_20 rfl (Nat.le_of_ble_eq_true rfl) (Nat.le_of_ble_eq_true rfl) rfl rfl ?_
    refine ev_iload_n iX5_takesWord_21 rfl rfl ?_
    refine ev_if_eq iX5_takesWord_22 ?_ ?_
    · refine ev_iload_n iX5_takesWord_30 rfl rfl ?_
      exact ev_iret iX5_takesWord_31 rfl (fun ty _ => nar0 ty)
    · refine ev_aload_n iX5_takesWord_25 rfl (by decide) rfl ?_
      refine ev_iconst iX5_takesWord_26 kI_1 ?_
      refine ev_VMV iX5_takesWord_27 kV_X5_280 (c_md_must σ 1) rc_62 rfl rfl (Nat.le_of_ble_eq_true rfl) (sg_fitL (by decide) (Nat.le_of_ble_eq_true rfl)) (fun r4 => ?_)
      refine ev_iload_n iX5_takesWord_30 rfl rfl ?_
      exact ev_iret iX5_takesWord_31 rfl (fun ty _ => nar0 ty)
def md_daysGo_2_X (σ : sg_S)  (f1 : Int32) : ((Int32 × sg_S) ⊕ sg_S) → sg_X
  | .inl a => .inr (2, [some (.ref 62), some (.int f1), some (.int a.1)], a.2)
  | .inr e => .inr (17, [none, none, none], e)
def md_daysGo_2_L (σ : sg_S)  (f1 : Int32) (a : (Int32 × sg_S)) : Option ((Int32 × sg_S) ⊕ sg_S) :=
  (if a.1 < f1 then ((md_day a.2).bind fun r1 => some (.inl ((a.1 + 1), r1))) else some (.inr a.2))
set_option maxRecDepth 20000 in
set_option maxHeartbeats 2000000 in
theorem e_md_daysGo_2_L (σ : sg_S)  (f1 : Int32)  : ∀ a : (Int32 × sg_S), Ev mX5_daysGo (rmL 6) 2 [some (.ref 62), some (.int f1), some (.int a.1)] [] a.2 (md_daysGo_2_X σ  f1) (md_daysGo_2_L σ  f1 a) := by
  intro a
  unfold md_daysGo_2_L
  refine ev_iload_n iX5_daysGo_2 rfl rfl ?_
  refine ev_iload_n iX5_daysGo_3 rfl rfl ?_
  refine ev_icmp_ge iX5_daysGo_4 ?_ ?_
  · refine ev_aload_n iX5_daysGo_7 rfl (by decide) rfl ?_
    refine ev_VMV iX5_daysGo_8 kV_X5_180 (c_md_day a.2 ) rc_62 rfl rfl (Nat.le_of_ble_eq_true rfl) (sg_fitL (by decide) (Nat.le_of_ble_eq_true rfl)) (fun r1 => ?_)
    refine ev_iinc (v := (a.1 + 1)) (ls2 := [some (.ref 62), some (.int f1), some (.int (a.1 + 1))]) iX5_daysGo_11 rfl (by rw [kI_1]) (Nat.le_of_ble_eq_true rfl) rfl rfl ?_
    refine ev_goto iX5_daysGo_14 ?_
    exact ev_exit rfl ⟨rfl, rfl, rfl, trivial⟩
  · exact ev_exit rfl trivial
def md_daysGo (σ : sg_S) (a1 : Int32) : Option sg_S :=
  ((sg_lp (md_daysGo_2_L σ  a1) 1000 (0, σ)).bind fun e4 => some e4)
set_option maxRecDepth 20000 in
set_option maxHeartbeats 2000000 in
theorem c_md_daysGo (σ : sg_S) (a1 : Int32)  : sg_Call yX5_daysGo mX5_daysGo (rmL 6) [.ref 62, .int a1] σ eMV (md_daysGo σ a1) := by
  refine sg_call_of (by decide +kernel) rfl (Nat.le_of_ble_eq_true rfl) rfl (fun _ => rfl) ?_
  refine ev_less (ls2 := [some (.ref 62), some (.int a1), none]) ?_ ⟨rfl, rfl, trivial⟩
  unfold md_daysGo
  refine ev_iconst iX5_daysGo_0 kI_0 ?_
  refine ev_istore_n (ls2 := [some (.ref 62), some (.int a1), some (.int 0)]) iX5_daysGo_1 rfl (Nat.le_of_ble_eq_true rfl) (Nat.le_of_ble_eq_true rfl) rfl rfl ?_
  refine ev_less (ls2 := [some (.ref 62), some (.int a1), some (.int 0)]) ?_ ⟨rfl, rfl, rfl, trivial⟩
  refine ev_seq1 17 (fun z3 => [none, none, none]) (fun z3 => z3) (ev_loop (embB := md_daysGo_2_X σ  a1) (ex := fun b => md_daysGo_2_X σ  a1 (.inr b)) 2 (fun z2 => [some (.ref 62), some (.int a1), some (.int z2.1)]) (fun z2 => z2.2) (fun _ => rfl) (fun _ => rfl) (e_md_daysGo_2_L σ  a1 ) 1000 (0, σ)) (fun _ => rfl) (fun e4 => ?_)
  exact ev_vret iX5_daysGo_17 rfl
def md_when_36_X (σ : sg_S)  (f1 : Int32) (f2 : Int32) : ((Int32 × sg_S) ⊕ (Int32 × sg_S)) → sg_X
  | .inl a => .inr (36, [some (.ref 62), some (.int f1), some (.int f2), some (.int a.1)], a.2)
  | .inr e => .inr (62, [some (.ref 62), some (.int f1), some (.int f2), some (.int e.1)], e.2)
def md_when_36_L (σ : sg_S)  (f1 : Int32) (f2 : Int32) (a : (Int32 × sg_S)) : Option ((Int32 × sg_S) ⊕ (Int32 × sg_S)) :=
  (if a.1 < 200 then ((md_hasHeard a.2 f1 f2).bind fun r6 => (if r6 = 0 then ((md_day a.2).bind fun r7 => some (.inl ((a.1 + 1), r7))) else some (.inr (a.1, a.2)))) else some (.inr (a.1, a.2)))
set_option maxRecDepth 20000 in
set_option maxHeartbeats 2000000 in
theorem e_md_when_36_L (σ : sg_S)  (f1 : Int32) (f2 : Int32)  : ∀ a : (Int32 × sg_S), Ev mX5_when (rmL 6) 36 [some (.ref 62), some (.int f1), some (.int f2), some (.int a.1)] [] a.2 (md_when_36_X σ  f1 f2) (md_when_36_L σ  f1 f2 a) := by
  intro a
  unfold md_when_36_L
  refine ev_iload_n iX5_when_36 rfl rfl ?_
  refine ev_sipush iX5_when_37 kH_200 ?_
  refine ev_icmp_ge iX5_when_40 ?_ ?_
  · refine ev_aload_n iX5_when_43 rfl (by decide) rfl ?_
    refine ev_iload_n iX5_when_44 rfl rfl ?_
    refine ev_iload_n iX5_when_45 rfl rfl ?_
    refine ev_VRI iX5_when_46 kV_X5_115 (c_md_hasHeard a.2 f1 f2) rc_62 rfl rfl (Nat.le_of_ble_eq_true rfl) (sg_fitL (by decide) (Nat.le_of_ble_eq_true rfl)) (fun r6 => ?_)
    refine ev_if_ne iX5_when_49 ?_ ?_
    · refine ev_aload_n iX5_when_52 rfl (by decide) rfl ?_
      refine ev_VMV iX5_when_53 kV_X5_180 (c_md_day a.2 ) rc_62 rfl rfl (Nat.le_of_ble_eq_true rfl) (sg_fitL (by decide) (Nat.le_of_ble_eq_true rfl)) (fun r7 => ?_)
      refine ev_iinc (v := (a.1 + 1)) (ls2 := [some (.ref 62), some (.int f1), some (.int f2), some (.int (a.1 + 1))]) iX5_when_56 rfl (by rw [kI_1]) (Nat.le_of_ble_eq_true rfl) rfl rfl ?_
      refine ev_goto iX5_when_59 ?_
      exact ev_exit rfl ⟨rfl, rfl, rfl, rfl, trivial⟩
    · exact ev_exit rfl ⟨rfl, rfl, rfl, rfl, trivial⟩
  · exact ev_exit rfl ⟨rfl, rfl, rfl, rfl, trivial⟩
def md_when_J62 (σ : sg_S)   (v1 : Int32) (v2 : Int32) (v3 : Int32) : Option (Int32 × sg_S) :=
  ((md_hasHeard σ v1 v2).bind fun r11 => (if r11 = 0 then ((md_putBack σ (-1)).bind fun r12 => ((md_orNone r12.2 r12.1).bind fun r13 => some (r13.1, r13.2))) else ((md_putBack σ v3).bind fun r14 => ((md_orNone r14.2 r14.1).bind fun r15 => some (r15.1, r15.2)))))
set_option maxRecDepth 20000 in
set_option maxHeartbeats 2000000 in
theorem e_md_when_J62 (σ : sg_S)   (v1 : Int32) (v2 : Int32) (v3 : Int32)  : Ev mX5_when (rmL 6) 62 [some (.ref 62), some (.int v1), some (.int v2), some (.int v3)] [] σ (fun b => Sum.inl (eMI b)) (md_when_J62 σ   v1 v2 v3) := by
  unfold md_when_J62
  refine ev_aload_n iX5_when_62 rfl (by decide) rfl ?_
  refine ev_aload_n iX5_when_63 rfl (by decide) rfl ?_
  refine ev_aload_n iX5_when_64 rfl (by decide) rfl ?_
  refine ev_iload_n iX5_when_65 rfl rfl ?_
  refine ev_iload_n iX5_when_66 rfl rfl ?_
  refine ev_VRI iX5_when_67 kV_X5_115 (c_md_hasHeard σ v1 v2) rc_62 rfl rfl (Nat.le_of_ble_eq_true rfl) (sg_fitL (by decide) (Nat.le_of_ble_eq_true rfl)) (fun r11 => ?_)
  refine ev_if_eq iX5_when_70 ?_ ?_
  · refine ev_iconst iX5_when_77 kI_m1 ?_
    refine ev_VMI iX5_when_78 kV_X5_210 (c_md_putBack σ (-1)) rc_62 rfl rfl (Nat.le_of_ble_eq_true rfl) (sg_fitL (by decide) (Nat.le_of_ble_eq_true rfl)) (fun r12 => ?_)
    refine ev_VMI iX5_when_81 kV_X5_216 (c_md_orNone r12.2 r12.1) rc_62 rfl rfl (Nat.le_of_ble_eq_true rfl) (sg_fitL (by decide) (Nat.le_of_ble_eq_true rfl)) (fun r13 => ?_)
    exact ev_iret iX5_when_84 rfl (narI rfl _)
  · refine ev_iload_n iX5_when_73 rfl rfl ?_
    refine ev_goto iX5_when_74 ?_
    refine ev_VMI iX5_when_78 kV_X5_210 (c_md_putBack σ v3) rc_62 rfl rfl (Nat.le_of_ble_eq_true rfl) (sg_fitL (by decide) (Nat.le_of_ble_eq_true rfl)) (fun r14 => ?_)
    refine ev_VMI iX5_when_81 kV_X5_216 (c_md_orNone r14.2 r14.1) rc_62 rfl rfl (Nat.le_of_ble_eq_true rfl) (sg_fitL (by decide) (Nat.le_of_ble_eq_true rfl)) (fun r15 => ?_)
    exact ev_iret iX5_when_84 rfl (narI rfl _)
def md_when (σ : sg_S) (a1 : Int32) (a2 : Int32) : Option (Int32 × sg_S) :=
  ((md_isSaying σ a1).bind fun r1 => (if r1 = 0 then ((md_finding σ (-1000001)).bind fun r2 => some (r2.1, r2.2)) else ((md_isPerson σ a2).bind fun r3 => (if r3 = 0 then ((md_finding σ (-1000001)).bind fun r4 => some (r4.1, r4.2)) else ((md_copyRow σ 63 119 65 119).bind fun r5 => ((sg_lp (md_when_36_L r5  a1 a2) 1000 (0, r5)).bind fun e10 => md_when_J62 e10.2 a1 a2 e10.1))))))
set_option maxRecDepth 20000 in
set_option maxHeartbeats 2000000 in
theorem c_md_when (σ : sg_S) (a1 : Int32) (a2 : Int32)  : sg_Call yX5_when mX5_when (rmL 6) [.ref 62, .int a1, .int a2] σ eMI (md_when σ a1 a2) := by
  refine sg_call_of (by decide +kernel) rfl (Nat.le_of_ble_eq_true rfl) rfl (fun _ => rfl) ?_
  refine ev_less (ls2 := [some (.ref 62), some (.int a1), some (.int a2), none]) ?_ ⟨rfl, rfl, rfl, trivial⟩
  unfold md_when
  refine ev_aload_n iX5_when_0 rfl (by decide) rfl ?_
  refine ev_iload_n iX5_when_1 rfl rfl ?_
  refine ev_VRI iX5_when_2 kV_X5_131 (c_md_isSaying σ a1) rc_62 rfl rfl (Nat.le_of_ble_eq_true rfl) (sg_fitL (by decide) (Nat.le_of_ble_eq_true rfl)) (fun r1 => ?_)
  refine ev_if_eq iX5_when_5 ?_ ?_
  · refine ev_aload_n iX5_when_16 rfl (by decide) rfl ?_
    refine ev_ldc iX5_when_17 kC_X5_60 ?_
    refine ev_VMI iX5_when_19 kV_X5_66 (c_md_finding σ (-1000001)) rc_62 rfl rfl (Nat.le_of_ble_eq_true rfl) (sg_fitL (by decide) (Nat.le_of_ble_eq_true rfl)) (fun r2 => ?_)
    exact ev_iret iX5_when_22 rfl (narI rfl _)
  · refine ev_aload_n iX5_when_8 rfl (by decide) rfl ?_
    refine ev_iload_n iX5_when_9 rfl rfl ?_
    refine ev_VRI iX5_when_10 kV_X5_105 (c_md_isPerson σ a2) rc_62 rfl rfl (Nat.le_of_ble_eq_true rfl) (sg_fitL (by decide) (Nat.le_of_ble_eq_true rfl)) (fun r3 => ?_)
    refine ev_if_ne iX5_when_13 ?_ ?_
    · refine ev_aload_n iX5_when_16 rfl (by decide) rfl ?_
      refine ev_ldc iX5_when_17 kC_X5_60 ?_
      refine ev_VMI iX5_when_19 kV_X5_66 (c_md_finding σ (-1000001)) rc_62 rfl rfl (Nat.le_of_ble_eq_true rfl) (sg_fitL (by decide) (Nat.le_of_ble_eq_true rfl)) (fun r4 => ?_)
      exact ev_iret iX5_when_22 rfl (narI rfl _)
    · refine ev_aload_n iX5_when_23 rfl (by decide) rfl ?_
      refine ev_getR (k1 := 63) 5 0 iX5_when_24 kF_X5_9 O_62 rfl (by decide) ?_
      refine ev_aload_n iX5_when_27 rfl (by decide) rfl ?_
      refine ev_getR (k1 := 65) 5 2 iX5_when_28 kF_X5_16 O_62 rfl (by decide) ?_
      refine ev_SMV iX5_when_31 kS_X5_61 (c_md_copyRow σ 63 119 65 119 A_63 A_65) rfl rfl (Nat.le_of_ble_eq_true rfl) (sg_fitL (by decide) (Nat.le_of_ble_eq_true rfl)) (fun r5 => ?_)
      refine ev_iconst iX5_when_34 kI_0 ?_
      refine ev_istore_n (ls2 := [some (.ref 62), some (.int a1), some (.int a2), some (.int 0)]) iX5_when_35 rfl (Nat.le_of_ble_eq_true rfl) (Nat.le_of_ble_eq_true rfl) rfl rfl ?_
      refine ev_less (ls2 := [some (.ref 62), some (.int a1), some (.int a2), some (.int 0)]) ?_ ⟨rfl, rfl, rfl, rfl, trivial⟩
      refine ev_seq1 62 (fun z9 => [some (.ref 62), some (.int a1), some (.int a2), some (.int z9.1)]) (fun z9 => z9.2) (ev_loop (embB := md_when_36_X r5  a1 a2) (ex := fun b => md_when_36_X r5  a1 a2 (.inr b)) 36 (fun z8 => [some (.ref 62), some (.int a1), some (.int a2), some (.int z8.1)]) (fun z8 => z8.2) (fun _ => rfl) (fun _ => rfl) (e_md_when_36_L r5  a1 a2 ) 1000 (0, r5)) (fun _ => rfl) (fun e10 => ?_)
      exact ev_less (e_md_when_J62 e10.2   a1 a2 e10.1 ) ⟨rfl, rfl, rfl, rfl, trivial⟩
def md_daysTo_13_X (σ : sg_S)  (f1 : Int32) (f2 : Int32) : ((Int32 × sg_S) ⊕ (Int32 × sg_S)) → sg_X
  | .inl a => .inr (13, [some (.ref 62), some (.int f1), some (.int f2), some (.int a.1)], a.2)
  | .inr e => .inr (40, [some (.ref 62), some (.int f1), some (.int f2), some (.int e.1)], e.2)
def md_daysTo_13_L (σ : sg_S)  (f1 : Int32) (f2 : Int32) (a : (Int32 × sg_S)) : Option ((Int32 × sg_S) ⊕ (Int32 × sg_S)) :=
  (if a.1 < 200 then (if sg_in f1 119 = true then (if (a.2 63 f1.toNatClampNeg) < f2 then ((md_day a.2).bind fun r2 => some (.inl ((a.1 + 1), r2))) else some (.inr (a.1, a.2))) else none) else some (.inr (a.1, a.2)))
set_option maxRecDepth 20000 in
set_option maxHeartbeats 2000000 in
theorem e_md_daysTo_13_L (σ : sg_S)  (f1 : Int32) (f2 : Int32)  : ∀ a : (Int32 × sg_S), Ev mX5_daysTo (rmL 6) 13 [some (.ref 62), some (.int f1), some (.int f2), some (.int a.1)] [] a.2 (md_daysTo_13_X σ  f1 f2) (md_daysTo_13_L σ  f1 f2 a) := by
  intro a
  unfold md_daysTo_13_L
  refine ev_iload_n iX5_daysTo_13 rfl rfl ?_
  refine ev_sipush iX5_daysTo_14 kH_200 ?_
  refine ev_icmp_ge iX5_daysTo_17 ?_ ?_
  · refine ev_aload_n iX5_daysTo_20 rfl (by decide) rfl ?_
    refine ev_getR (k1 := 63) 5 0 iX5_daysTo_21 kF_X5_9 O_62 rfl (by decide) ?_
    refine ev_iload_n iX5_daysTo_24 rfl rfl ?_
    refine ev_iald iX5_daysTo_25 A_63 ?_
    refine ev_iload_n iX5_daysTo_26 rfl rfl ?_
    refine ev_icmp_ge iX5_daysTo_27 ?_ ?_
    · refine ev_aload_n iX5_daysTo_30 rfl (by decide) rfl ?_
      refine ev_VMV iX5_daysTo_31 kV_X5_180 (c_md_day a.2 ) rc_62 rfl rfl (Nat.le_of_ble_eq_true rfl) (sg_fitL (by decide) (Nat.le_of_ble_eq_true rfl)) (fun r2 => ?_)
      refine ev_iinc (v := (a.1 + 1)) (ls2 := [some (.ref 62), some (.int f1), some (.int f2), some (.int (a.1 + 1))]) iX5_daysTo_34 rfl (by rw [kI_1]) (Nat.le_of_ble_eq_true rfl) rfl rfl ?_
      refine ev_goto iX5_daysTo_37 ?_
      exact ev_exit rfl ⟨rfl, rfl, rfl, rfl, trivial⟩
    · exact ev_exit rfl ⟨rfl, rfl, rfl, rfl, trivial⟩
  · exact ev_exit rfl ⟨rfl, rfl, rfl, rfl, trivial⟩
def md_daysTo_J40 (σ : sg_S)   (v1 : Int32) (v2 : Int32) (v3 : Int32) : Option (Int32 × sg_S) :=
  (if sg_in v1 119 = true then (if (σ 63 v1.toNatClampNeg) < v2 then ((md_putBack σ (-1)).bind fun r6 => some (r6.1, r6.2)) else ((md_putBack σ v3).bind fun r7 => some (r7.1, r7.2))) else none)
set_option maxRecDepth 20000 in
set_option maxHeartbeats 2000000 in
theorem e_md_daysTo_J40 (σ : sg_S)   (v1 : Int32) (v2 : Int32) (v3 : Int32)  : Ev mX5_daysTo (rmL 6) 40 [some (.ref 62), some (.int v1), some (.int v2), some (.int v3)] [] σ (fun b => Sum.inl (eMI b)) (md_daysTo_J40 σ   v1 v2 v3) := by
  unfold md_daysTo_J40
  refine ev_aload_n iX5_daysTo_40 rfl (by decide) rfl ?_
  refine ev_aload_n iX5_daysTo_41 rfl (by decide) rfl ?_
  refine ev_getR (k1 := 63) 5 0 iX5_daysTo_42 kF_X5_9 O_62 rfl (by decide) ?_
  refine ev_iload_n iX5_daysTo_45 rfl rfl ?_
  refine ev_iald iX5_daysTo_46 A_63 ?_
  refine ev_iload_n iX5_daysTo_47 rfl rfl ?_
  refine ev_icmp_ge iX5_daysTo_48 ?_ ?_
  · refine ev_iconst iX5_daysTo_51 kI_m1 ?_
    refine ev_goto iX5_daysTo_52 ?_
    refine ev_VMI iX5_daysTo_56 kV_X5_210 (c_md_putBack σ (-1)) rc_62 rfl rfl (Nat.le_of_ble_eq_true rfl) (sg_fitL (by decide) (Nat.le_of_ble_eq_true rfl)) (fun r6 => ?_)
    exact ev_iret iX5_daysTo_59 rfl (narI rfl _)
  · refine ev_iload_n iX5_daysTo_55 rfl rfl ?_
    refine ev_VMI iX5_daysTo_56 kV_X5_210 (c_md_putBack σ v3) rc_62 rfl rfl (Nat.le_of_ble_eq_true rfl) (sg_fitL (by decide) (Nat.le_of_ble_eq_true rfl)) (fun r7 => ?_)
    exact ev_iret iX5_daysTo_59 rfl (narI rfl _)
def md_daysTo (σ : sg_S) (a1 : Int32) (a2 : Int32) : Option (Int32 × sg_S) :=
  ((md_copyRow σ 63 119 65 119).bind fun r1 => ((sg_lp (md_daysTo_13_L r1  a1 a2) 1000 (0, r1)).bind fun e5 => md_daysTo_J40 e5.2 a1 a2 e5.1))
set_option maxRecDepth 20000 in
set_option maxHeartbeats 2000000 in
theorem c_md_daysTo (σ : sg_S) (a1 : Int32) (a2 : Int32)  : sg_Call yX5_daysTo mX5_daysTo (rmL 6) [.ref 62, .int a1, .int a2] σ eMI (md_daysTo σ a1 a2) := by
  refine sg_call_of (by decide +kernel) rfl (Nat.le_of_ble_eq_true rfl) rfl (fun _ => rfl) ?_
  refine ev_less (ls2 := [some (.ref 62), some (.int a1), some (.int a2), none]) ?_ ⟨rfl, rfl, rfl, trivial⟩
  unfold md_daysTo
  refine ev_aload_n iX5_daysTo_0 rfl (by decide) rfl ?_
  refine ev_getR (k1 := 63) 5 0 iX5_daysTo_1 kF_X5_9 O_62 rfl (by decide) ?_
  refine ev_aload_n iX5_daysTo_4 rfl (by decide) rfl ?_
  refine ev_getR (k1 := 65) 5 2 iX5_daysTo_5 kF_X5_16 O_62 rfl (by decide) ?_
  refine ev_SMV iX5_daysTo_8 kS_X5_61 (c_md_copyRow σ 63 119 65 119 A_63 A_65) rfl rfl (Nat.le_of_ble_eq_true rfl) (sg_fitL (by decide) (Nat.le_of_ble_eq_true rfl)) (fun r1 => ?_)
  refine ev_iconst iX5_daysTo_11 kI_0 ?_
  refine ev_istore_n (ls2 := [some (.ref 62), some (.int a1), some (.int a2), some (.int 0)]) iX5_daysTo_12 rfl (Nat.le_of_ble_eq_true rfl) (Nat.le_of_ble_eq_true rfl) rfl rfl ?_
  refine ev_less (ls2 := [some (.ref 62), some (.int a1), some (.int a2), some (.int 0)]) ?_ ⟨rfl, rfl, rfl, rfl, trivial⟩
  refine ev_seq1 40 (fun z4 => [some (.ref 62), some (.int a1), some (.int a2), some (.int z4.1)]) (fun z4 => z4.2) (ev_loop (embB := md_daysTo_13_X r1  a1 a2) (ex := fun b => md_daysTo_13_X r1  a1 a2 (.inr b)) 13 (fun z3 => [some (.ref 62), some (.int a1), some (.int a2), some (.int z3.1)]) (fun z3 => z3.2) (fun _ => rfl) (fun _ => rfl) (e_md_daysTo_13_L r1  a1 a2 ) 1000 (0, r1)) (fun _ => rfl) (fun e5 => ?_)
  exact ev_less (e_md_daysTo_J40 e5.2   a1 a2 e5.1 ) ⟨rfl, rfl, rfl, rfl, trivial⟩
def md_isSo_17_X (σ : sg_S)  (f1 : Int32) (f2 : Int32) (f3 : Int32) : ((Int32 × Int32 × sg_S) ⊕ (Int32 × sg_S)) → sg_X
  | .inl a => .inr (17, [some (.ref 62), some (.int f1), some (.int f2), some (.int f3), some (.int a.1), some (.int a.2.1), none], a.2.2)
  | .inr e => .inr (93, [some (.ref 62), none, none, none, some (.int e.1), none, none], e.2)
def md_isSo_17_L (σ : sg_S)  (f1 : Int32) (f2 : Int32) (f3 : Int32) (a : (Int32 × Int32 × sg_S)) : Option ((Int32 × Int32 × sg_S) ⊕ (Int32 × sg_S)) :=
  (if sg_in f1 4 = true then (if a.2.1 < (a.2.2 71 f1.toNatClampNeg) then (if a.1 = 0 then some (.inr (a.1, a.2.2)) else (if sg_in ((40 * f1) + a.2.1) 160 = true then sg_leti (a.2.2 72 ((40 * f1) + a.2.1).toNatClampNeg) (fun x2 => (if x2 = (-1) then ((md_day a.2.2).bind fun r3 => some (.inl (1, (a.2.1 + 1), r3))) else (if f2 < 0 then ((md_heardBy a.2.2 f3).bind fun r4 => (if x2 = r4 then ((md_day a.2.2).bind fun r5 => some (.inl (1, (a.2.1 + 1), r5))) else ((md_day a.2.2).bind fun r6 => some (.inl (0, (a.2.1 + 1), r6))))) else ((md_sayingIs a.2.2 f2 2).bind fun r7 => (if x2 = r7 then ((md_day a.2.2).bind fun r8 => some (.inl (1, (a.2.1 + 1), r8))) else ((md_day a.2.2).bind fun r9 => some (.inl (0, (a.2.1 + 1), r9)))))))) else none)) else some (.inr (a.1, a.2.2))) else none)
set_option maxRecDepth 20000 in
set_option maxHeartbeats 2000000 in
theorem e_md_isSo_17_L (σ : sg_S)  (f1 : Int32) (f2 : Int32) (f3 : Int32)  : ∀ a : (Int32 × Int32 × sg_S), Ev mX5_isSo (rmL 6) 17 [some (.ref 62), some (.int f1), some (.int f2), some (.int f3), some (.int a.1), some (.int a.2.1), none] [] a.2.2 (md_isSo_17_X σ  f1 f2 f3) (md_isSo_17_L σ  f1 f2 f3 a) := by
  intro a
  unfold md_isSo_17_L
  refine ev_iload iX5_isSo_17 rfl ?_
  refine ev_aload_n iX5_isSo_19 rfl (by decide) rfl ?_
  refine ev_getR (k1 := 71) 5 18 iX5_isSo_20 kF_X5_51 O_62 rfl (by decide) ?_
  refine ev_iload_n iX5_isSo_23 rfl rfl ?_
  refine ev_iald iX5_isSo_24 A_71 ?_
  refine ev_icmp_ge iX5_isSo_25 ?_ ?_
  · refine ev_iload iX5_isSo_28 rfl ?_
    refine ev_if_eq iX5_isSo_30 ?_ ?_
    · exact ev_exit rfl ⟨rfl, rfl, trivial⟩
    · refine ev_aload_n iX5_isSo_33 rfl (by decide) rfl ?_
      refine ev_getR (k1 := 72) 5 19 iX5_isSo_34 kF_X5_54 O_62 rfl (by decide) ?_
      refine ev_bipush iX5_isSo_37 kB_40 ?_
      refine ev_iload_n iX5_isSo_39 rfl rfl ?_
      refine ev_imul iX5_isSo_40 ?_
      refine ev_iload iX5_isSo_41 rfl ?_
      refine ev_iadd iX5_isSo_43 ?_
      refine ev_iald iX5_isSo_44 A_72 ?_
      refine ev_leti (fun x2 => ?_)
      refine ev_istore (ls2 := [some (.ref 62), some (.int f1), some (.int f2), some (.int f3), some (.int a.1), some (.int a.2.1), some (.int x2)]) iX5_isSo_45 (Nat.le_of_ble_eq_true rfl) (Nat.le_of_ble_eq_true rfl) rfl rfl ?_
      refine ev_iload iX5_isSo_47 rfl ?_
      refine ev_iconst iX5_isSo_49 kI_m1 ?_
      refine ev_icmp_eq iX5_isSo_50 ?_ ?_
      · refine ev_iconst iX5_isSo_76 kI_1 ?_
        refine ev_goto iX5_isSo_77 ?_
        refine ev_istore (ls2 := [some (.ref 62), some (.int f1), some (.int f2), some (.int f3), some (.int 1), some (.int a.2.1), some (.int x2)]) iX5_isSo_81 (Nat.le_of_ble_eq_true rfl) (Nat.le_of_ble_eq_true rfl) rfl rfl ?_
        refine ev_aload_n iX5_isSo_83 rfl (by decide) rfl ?_
        refine ev_VMV iX5_isSo_84 kV_X5_180 (c_md_day a.2.2 ) rc_62 rfl rfl (Nat.le_of_ble_eq_true rfl) (sg_fitL (by decide) (Nat.le_of_ble_eq_true rfl)) (fun r3 => ?_)
        refine ev_iinc (v := (a.2.1 + 1)) (ls2 := [some (.ref 62), some (.int f1), some (.int f2), some (.int f3), some (.int 1), some (.int (a.2.1 + 1)), some (.int x2)]) iX5_isSo_87 rfl (by rw [kI_1]) (Nat.le_of_ble_eq_true rfl) rfl rfl ?_
        refine ev_goto iX5_isSo_90 ?_
        exact ev_exit rfl ⟨rfl, rfl, rfl, rfl, rfl, rfl, trivial⟩
      · refine ev_iload iX5_isSo_53 rfl ?_
        refine ev_iload_n iX5_isSo_55 rfl rfl ?_
        refine ev_if_ge iX5_isSo_56 ?_ ?_
        · refine ev_aload_n iX5_isSo_59 rfl (by decide) rfl ?_
          refine ev_iload_n iX5_isSo_60 rfl rfl ?_
          refine ev_VRI iX5_isSo_61 kV_X5_119 (c_md_heardBy a.2.2 f3) rc_62 rfl rfl (Nat.le_of_ble_eq_true rfl) (sg_fitL (by decide) (Nat.le_of_ble_eq_true rfl)) (fun r4 => ?_)
          refine ev_goto iX5_isSo_64 ?_
          refine ev_icmp_ne iX5_isSo_73 ?_ ?_
          · refine ev_iconst iX5_isSo_76 kI_1 ?_
            refine ev_goto iX5_isSo_77 ?_
            refine ev_istore (ls2 := [some (.ref 62), some (.int f1), some (.int f2), some (.int f3), some (.int 1), some (.int a.2.1), some (.int x2)]) iX5_isSo_81 (Nat.le_of_ble_eq_true rfl) (Nat.le_of_ble_eq_true rfl) rfl rfl ?_
            refine ev_aload_n iX5_isSo_83 rfl (by decide) rfl ?_
            refine ev_VMV iX5_isSo_84 kV_X5_180 (c_md_day a.2.2 ) rc_62 rfl rfl (Nat.le_of_ble_eq_true rfl) (sg_fitL (by decide) (Nat.le_of_ble_eq_true rfl)) (fun r5 => ?_)
            refine ev_iinc (v := (a.2.1 + 1)) (ls2 := [some (.ref 62), some (.int f1), some (.int f2), some (.int f3), some (.int 1), some (.int (a.2.1 + 1)), some (.int x2)]) iX5_isSo_87 rfl (by rw [kI_1]) (Nat.le_of_ble_eq_true rfl) rfl rfl ?_
            refine ev_goto iX5_isSo_90 ?_
            exact ev_exit rfl ⟨rfl, rfl, rfl, rfl, rfl, rfl, trivial⟩
          · refine ev_iconst iX5_isSo_80 kI_0 ?_
            refine ev_istore (ls2 := [some (.ref 62), some (.int f1), some (.int f2), some (.int f3), some (.int 0), some (.int a.2.1), some (.int x2)]) iX5_isSo_81 (Nat.le_of_ble_eq_true rfl) (Nat.le_of_ble_eq_true rfl) rfl rfl ?_
            refine ev_aload_n iX5_isSo_83 rfl (by decide) rfl ?_
            refine ev_VMV iX5_isSo_84 kV_X5_180 (c_md_day a.2.2 ) rc_62 rfl rfl (Nat.le_of_ble_eq_true rfl) (sg_fitL (by decide) (Nat.le_of_ble_eq_true rfl)) (fun r6 => ?_)
            refine ev_iinc (v := (a.2.1 + 1)) (ls2 := [some (.ref 62), some (.int f1), some (.int f2), some (.int f3), some (.int 0), some (.int (a.2.1 + 1)), some (.int x2)]) iX5_isSo_87 rfl (by rw [kI_1]) (Nat.le_of_ble_eq_true rfl) rfl rfl ?_
            refine ev_goto iX5_isSo_90 ?_
            exact ev_exit rfl ⟨rfl, rfl, rfl, rfl, rfl, rfl, trivial⟩
        · refine ev_aload_n iX5_isSo_67 rfl (by decide) rfl ?_
          refine ev_iload_n iX5_isSo_68 rfl rfl ?_
          refine ev_iconst iX5_isSo_69 kI_2 ?_
          refine ev_VRI iX5_isSo_70 kV_X5_112 (c_md_sayingIs a.2.2 f2 2) rc_62 rfl rfl (Nat.le_of_ble_eq_true rfl) (sg_fitL (by decide) (Nat.le_of_ble_eq_true rfl)) (fun r7 => ?_)
          refine ev_icmp_ne iX5_isSo_73 ?_ ?_
          · refine ev_iconst iX5_isSo_76 kI_1 ?_
            refine ev_goto iX5_isSo_77 ?_
            refine ev_istore (ls2 := [some (.ref 62), some (.int f1), some (.int f2), some (.int f3), some (.int 1), some (.int a.2.1), some (.int x2)]) iX5_isSo_81 (Nat.le_of_ble_eq_true rfl) (Nat.le_of_ble_eq_true rfl) rfl rfl ?_
            refine ev_aload_n iX5_isSo_83 rfl (by decide) rfl ?_
            refine ev_VMV iX5_isSo_84 kV_X5_180 (c_md_day a.2.2 ) rc_62 rfl rfl (Nat.le_of_ble_eq_true rfl) (sg_fitL (by decide) (Nat.le_of_ble_eq_true rfl)) (fun r8 => ?_)
            refine ev_iinc (v := (a.2.1 + 1)) (ls2 := [some (.ref 62), some (.int f1), some (.int f2), some (.int f3), some (.int 1), some (.int (a.2.1 + 1)), some (.int x2)]) iX5_isSo_87 rfl (by rw [kI_1]) (Nat.le_of_ble_eq_true rfl) rfl rfl ?_
            refine ev_goto iX5_isSo_90 ?_
            exact ev_exit rfl ⟨rfl, rfl, rfl, rfl, rfl, rfl, trivial⟩
          · refine ev_iconst iX5_isSo_80 kI_0 ?_
            refine ev_istore (ls2 := [some (.ref 62), some (.int f1), some (.int f2), some (.int f3), some (.int 0), some (.int a.2.1), some (.int x2)]) iX5_isSo_81 (Nat.le_of_ble_eq_true rfl) (Nat.le_of_ble_eq_true rfl) rfl rfl ?_
            refine ev_aload_n iX5_isSo_83 rfl (by decide) rfl ?_
            refine ev_VMV iX5_isSo_84 kV_X5_180 (c_md_day a.2.2 ) rc_62 rfl rfl (Nat.le_of_ble_eq_true rfl) (sg_fitL (by decide) (Nat.le_of_ble_eq_true rfl)) (fun r9 => ?_)
            refine ev_iinc (v := (a.2.1 + 1)) (ls2 := [some (.ref 62), some (.int f1), some (.int f2), some (.int f3), some (.int 0), some (.int (a.2.1 + 1)), some (.int x2)]) iX5_isSo_87 rfl (by rw [kI_1]) (Nat.le_of_ble_eq_true rfl) rfl rfl ?_
            refine ev_goto iX5_isSo_90 ?_
            exact ev_exit rfl ⟨rfl, rfl, rfl, rfl, rfl, rfl, trivial⟩
  · exact ev_exit rfl ⟨rfl, rfl, trivial⟩
def md_isSo (σ : sg_S) (a1 : Int32) (a2 : Int32) (a3 : Int32) : Option (Int32 × sg_S) :=
  ((md_copyRow σ 63 119 65 119).bind fun r1 => ((sg_lp (md_isSo_17_L r1  a1 a2 a3) 1000 (1, 0, r1)).bind fun e12 => ((md_copyRow e12.2 65 119 63 119).bind fun r13 => (if vp_nar .boolean e12.1 = e12.1 then some (e12.1, r13) else none))))
set_option maxRecDepth 20000 in
set_option maxHeartbeats 2000000 in
theorem c_md_isSo (σ : sg_S) (a1 : Int32) (a2 : Int32) (a3 : Int32)  : sg_Call yX5_isSo mX5_isSo (rmL 6) [.ref 62, .int a1, .int a2, .int a3] σ eMI (md_isSo σ a1 a2 a3) := by
  refine sg_call_of (by decide +kernel) rfl (Nat.le_of_ble_eq_true rfl) rfl (fun _ => rfl) ?_
  refine ev_less (ls2 := [some (.ref 62), some (.int a1), some (.int a2), some (.int a3), none, none, none]) ?_ ⟨rfl, rfl, rfl, rfl, trivial⟩
  unfold md_isSo
  refine ev_aload_n iX5_isSo_0 rfl (by decide) rfl ?_
  refine ev_getR (k1 := 63) 5 0 iX5_isSo_1 kF_X5_9 O_62 rfl (by decide) ?_
  refine ev_aload_n iX5_isSo_4 rfl (by decide) rfl ?_
  refine ev_getR (k1 := 65) 5 2 iX5_isSo_5 kF_X5_16 O_62 rfl (by decide) ?_
  refine ev_SMV iX5_isSo_8 kS_X5_61 (c_md_copyRow σ 63 119 65 119 A_63 A_65) rfl rfl (Nat.le_of_ble_eq_true rfl) (sg_fitL (by decide) (Nat.le_of_ble_eq_true rfl)) (fun r1 => ?_)
  refine ev_iconst iX5_isSo_11 kI_1 ?_
  refine ev_istore (ls2 := [some (.ref 62), some (.int a1), some (.int a2), some (.int a3), some (.int 1), none, none]) iX5_isSo_12 (Nat.le_of_ble_eq_true rfl) (Nat.le_of_ble_eq_true rfl) rfl rfl ?_
  refine ev_iconst iX5_isSo_14 kI_0 ?_
  refine ev_istore (ls2 := [some (.ref 62), some (.int a1), some (.int a2), some (.int a3), some (.int 1), some (.int 0), none]) iX5_isSo_15 (Nat.le_of_ble_eq_true rfl) (Nat.le_of_ble_eq_true rfl) rfl rfl ?_
  refine ev_less (ls2 := [some (.ref 62), some (.int a1), some (.int a2), some (.int a3), some (.int 1), some (.int 0), none]) ?_ ⟨rfl, rfl, rfl, rfl, rfl, rfl, trivial⟩
  refine ev_seq1 93 (fun z11 => [some (.ref 62), none, none, none, some (.int z11.1), none, none]) (fun z11 => z11.2) (ev_loop (embB := md_isSo_17_X r1  a1 a2 a3) (ex := fun b => md_isSo_17_X r1  a1 a2 a3 (.inr b)) 17 (fun z10 => [some (.ref 62), some (.int a1), some (.int a2), some (.int a3), some (.int z10.1), some (.int z10.2.1), none]) (fun z10 => z10.2.2) (fun _ => rfl) (fun _ => rfl) (e_md_isSo_17_L r1  a1 a2 a3 ) 1000 (1, 0, r1)) (fun _ => rfl) (fun e12 => ?_)
  refine ev_aload_n iX5_isSo_93 rfl (by decide) rfl ?_
  refine ev_getR (k1 := 65) 5 2 iX5_isSo_94 kF_X5_16 O_62 rfl (by decide) ?_
  refine ev_aload_n iX5_isSo_97 rfl (by decide) rfl ?_
  refine ev_getR (k1 := 63) 5 0 iX5_isSo_98 kF_X5_9 O_62 rfl (by decide) ?_
  refine ev_SMV iX5_isSo_101 kS_X5_61 (c_md_copyRow e12.2 65 119 63 119 A_65 A_63) rfl rfl (Nat.le_of_ble_eq_true rfl) (sg_fitL (by decide) (Nat.le_of_ble_eq_true rfl)) (fun r13 => ?_)
  refine ev_iload iX5_isSo_104 rfl ?_
  refine ev_nar (fun hn => ?_)
  exact ev_iret iX5_isSo_106 rfl (narG rfl hn)
def md_evening_39_X (σ : sg_S)  (f1 : Int32) : ((Int32 × sg_S) ⊕ sg_S) → sg_X
  | .inl a => .inr (39, [some (.ref 62), some (.int f1), some (.int a.1), none, none], a.2)
  | .inr e => .inr (87, [some (.ref 62), none, none, none, none], e)
def md_evening_39_L (σ : sg_S)  (f1 : Int32) (a : (Int32 × sg_S)) : Option ((Int32 × sg_S) ⊕ sg_S) :=
  (if a.1 < f1 then ((md_drawn a.2).bind fun r4 => sg_leti (jrem r4.1 8) (fun x5 => ((md_drawn r4.2).bind fun r6 => sg_leti (jrem r6.1 8) (fun x7 => ((md_placeNow r6.2).bind fun r8 => (if sg_in r8 119 = true then sg_let (sg_st r6.2 63 r8.toNatClampNeg ((10 * x5) + x7)) (fun s9 => ((md_day s9).bind fun r10 => some (.inl ((a.1 + 1), r10)))) else none)))))) else some (.inr a.2))
set_option maxRecDepth 20000 in
set_option maxHeartbeats 2000000 in
theorem e_md_evening_39_L (σ : sg_S)  (f1 : Int32)  : ∀ a : (Int32 × sg_S), Ev mX5_evening (rmL 6) 39 [some (.ref 62), some (.int f1), some (.int a.1), none, none] [] a.2 (md_evening_39_X σ  f1) (md_evening_39_L σ  f1 a) := by
  intro a
  unfold md_evening_39_L
  refine ev_iload_n iX5_evening_39 rfl rfl ?_
  refine ev_iload_n iX5_evening_40 rfl rfl ?_
  refine ev_icmp_ge iX5_evening_41 ?_ ?_
  · refine ev_aload_n iX5_evening_44 rfl (by decide) rfl ?_
    refine ev_VMI iX5_evening_45 kV_X5_244 (c_md_drawn a.2 ) rc_62 rfl rfl (Nat.le_of_ble_eq_true rfl) (sg_fitL (by decide) (Nat.le_of_ble_eq_true rfl)) (fun r4 => ?_)
    refine ev_bipush iX5_evening_48 kB_8 ?_
    refine ev_iremK iX5_evening_50 (by decide) ?_
    refine ev_leti (fun x5 => ?_)
    refine ev_istore_n (ls2 := [some (.ref 62), some (.int f1), some (.int a.1), some (.int x5), none]) iX5_evening_51 rfl (Nat.le_of_ble_eq_true rfl) (Nat.le_of_ble_eq_true rfl) rfl rfl ?_
    refine ev_aload_n iX5_evening_52 rfl (by decide) rfl ?_
    refine ev_VMI iX5_evening_53 kV_X5_244 (c_md_drawn r4.2 ) rc_62 rfl rfl (Nat.le_of_ble_eq_true rfl) (sg_fitL (by decide) (Nat.le_of_ble_eq_true rfl)) (fun r6 => ?_)
    refine ev_bipush iX5_evening_56 kB_8 ?_
    refine ev_iremK iX5_evening_58 (by decide) ?_
    refine ev_leti (fun x7 => ?_)
    refine ev_istore (ls2 := [some (.ref 62), some (.int f1), some (.int a.1), some (.int x5), some (.int x7)]) iX5_evening_59 (Nat.le_of_ble_eq_true rfl) (Nat.le_of_ble_eq_true rfl) rfl rfl ?_
    refine ev_aload_n iX5_evening_61 rfl (by decide) rfl ?_
    refine ev_getR (k1 := 63) 5 0 iX5_evening_62 kF_X5_9 O_62 rfl (by decide) ?_
    refine ev_aload_n iX5_evening_65 rfl (by decide) rfl ?_
    refine ev_VRI iX5_evening_66 kV_X5_173 (c_md_placeNow r6.2 ) rc_62 rfl rfl (Nat.le_of_ble_eq_true rfl) (sg_fitL (by decide) (Nat.le_of_ble_eq_true rfl)) (fun r8 => ?_)
    refine ev_bipush iX5_evening_69 kB_10 ?_
    refine ev_iload_n iX5_evening_71 rfl rfl ?_
    refine ev_imul iX5_evening_72 ?_
    refine ev_iload iX5_evening_73 rfl ?_
    refine ev_iadd iX5_evening_75 ?_
    refine ev_iast iX5_evening_76 A_63 ?_
    refine ev_let (fun s9 => ?_)
    refine ev_aload_n iX5_evening_77 rfl (by decide) rfl ?_
    refine ev_VMV iX5_evening_78 kV_X5_180 (c_md_day s9 ) rc_62 rfl rfl (Nat.le_of_ble_eq_true rfl) (sg_fitL (by decide) (Nat.le_of_ble_eq_true rfl)) (fun r10 => ?_)
    refine ev_iinc (v := (a.1 + 1)) (ls2 := [some (.ref 62), some (.int f1), some (.int (a.1 + 1)), some (.int x5), some (.int x7)]) iX5_evening_81 rfl (by rw [kI_1]) (Nat.le_of_ble_eq_true rfl) rfl rfl ?_
    refine ev_goto iX5_evening_84 ?_
    exact ev_exit rfl ⟨rfl, rfl, rfl, trivial⟩
  · exact ev_exit rfl ⟨rfl, trivial⟩
def md_evening (σ : sg_S) (a1 : Int32) : Option (Int32 × sg_S) :=
  ((md_within σ a1 1 20).bind fun r1 => (if r1 = 0 then ((md_finding σ (-1000001)).bind fun r2 => some (r2.1, r2.2)) else (if 99999 < ((σ 63 0) + a1) then ((md_finding σ (-1000005)).bind fun r3 => some (r3.1, r3.2)) else ((sg_lp (md_evening_39_L σ  a1) 1000 (0, σ)).bind fun e13 => some ((e13 63 4), e13)))))
set_option maxRecDepth 20000 in
set_option maxHeartbeats 2000000 in
theorem c_md_evening (σ : sg_S) (a1 : Int32)  : sg_Call yX5_evening mX5_evening (rmL 6) [.ref 62, .int a1] σ eMI (md_evening σ a1) := by
  refine sg_call_of (by decide +kernel) rfl (Nat.le_of_ble_eq_true rfl) rfl (fun _ => rfl) ?_
  refine ev_less (ls2 := [some (.ref 62), some (.int a1), none, none, none]) ?_ ⟨rfl, rfl, trivial⟩
  unfold md_evening
  refine ev_iload_n iX5_evening_0 rfl rfl ?_
  refine ev_iconst iX5_evening_1 kI_1 ?_
  refine ev_bipush iX5_evening_2 kB_20 ?_
  refine ev_SRI iX5_evening_4 kS_X5_70 (c_md_within σ a1 1 20) rfl rfl (Nat.le_of_ble_eq_true rfl) (sg_fitL (by decide) (Nat.le_of_ble_eq_true rfl)) (fun r1 => ?_)
  refine ev_if_ne iX5_evening_7 ?_ ?_
  · refine ev_aload_n iX5_evening_10 rfl (by decide) rfl ?_
    refine ev_ldc iX5_evening_11 kC_X5_60 ?_
    refine ev_VMI iX5_evening_13 kV_X5_66 (c_md_finding σ (-1000001)) rc_62 rfl rfl (Nat.le_of_ble_eq_true rfl) (sg_fitL (by decide) (Nat.le_of_ble_eq_true rfl)) (fun r2 => ?_)
    exact ev_iret iX5_evening_16 rfl (narI rfl _)
  · refine ev_aload_n iX5_evening_17 rfl (by decide) rfl ?_
    refine ev_getR (k1 := 63) 5 0 iX5_evening_18 kF_X5_9 O_62 rfl (by decide) ?_
    refine ev_iconst iX5_evening_21 kI_0 ?_
    refine ev_ialdK 0 iX5_evening_22 A_63 rfl rfl ?_
    refine ev_iload_n iX5_evening_23 rfl rfl ?_
    refine ev_iadd iX5_evening_24 ?_
    refine ev_ldc iX5_evening_25 kC_X5_172 ?_
    refine ev_icmp_le iX5_evening_27 ?_ ?_
    · refine ev_aload_n iX5_evening_30 rfl (by decide) rfl ?_
      refine ev_ldc iX5_evening_31 kC_X5_152 ?_
      refine ev_VMI iX5_evening_33 kV_X5_66 (c_md_finding σ (-1000005)) rc_62 rfl rfl (Nat.le_of_ble_eq_true rfl) (sg_fitL (by decide) (Nat.le_of_ble_eq_true rfl)) (fun r3 => ?_)
      exact ev_iret iX5_evening_36 rfl (narI rfl _)
    · refine ev_iconst iX5_evening_37 kI_0 ?_
      refine ev_istore_n (ls2 := [some (.ref 62), some (.int a1), some (.int 0), none, none]) iX5_evening_38 rfl (Nat.le_of_ble_eq_true rfl) (Nat.le_of_ble_eq_true rfl) rfl rfl ?_
      refine ev_less (ls2 := [some (.ref 62), some (.int a1), some (.int 0), none, none]) ?_ ⟨rfl, rfl, rfl, trivial⟩
      refine ev_seq1 87 (fun z12 => [some (.ref 62), none, none, none, none]) (fun z12 => z12) (ev_loop (embB := md_evening_39_X σ  a1) (ex := fun b => md_evening_39_X σ  a1 (.inr b)) 39 (fun z11 => [some (.ref 62), some (.int a1), some (.int z11.1), none, none]) (fun z11 => z11.2) (fun _ => rfl) (fun _ => rfl) (e_md_evening_39_L σ  a1 ) 1000 (0, σ)) (fun _ => rfl) (fun e13 => ?_)
      refine ev_aload_n iX5_evening_87 rfl (by decide) rfl ?_
      refine ev_getR (k1 := 63) 5 0 iX5_evening_88 kF_X5_9 O_62 rfl (by decide) ?_
      refine ev_iconst iX5_evening_91 kI_4 ?_
      refine ev_ialdK 4 iX5_evening_92 A_63 rfl rfl ?_
      exact ev_iret iX5_evening_93 rfl (narI rfl _)
def md_readPerson_J39 (σ : sg_S)   (v1 : Int32) (t0 : Int32) : Option sg_S :=
  ((md_takesWord σ 8).bind fun r3 => (if r3.1 = 0 then ((md_addItem r3.2 v1 t0 0 0).bind fun r4 => sg_let (sg_st r4 62 15 ((r4 62 15) + 1)) (fun s5 => some s5)) else ((md_addItem r3.2 v1 t0 1 0).bind fun r6 => sg_let (sg_st r6 62 15 ((r6 62 15) + 1)) (fun s7 => some s7))))
set_option maxRecDepth 20000 in
set_option maxHeartbeats 2000000 in
theorem e_md_readPerson_J39 (σ : sg_S)   (v1 : Int32) (t0 : Int32)  : Ev mX5_readPerson (rmL 6) 39 [some (.ref 62), some (.int v1), none] [.int t0] σ (fun b => Sum.inl (eMV b)) (md_readPerson_J39 σ   v1 t0) := by
  unfold md_readPerson_J39
  refine ev_istore_n (ls2 := [some (.ref 62), some (.int v1), some (.int t0)]) iX5_readPerson_39 rfl (Nat.le_of_ble_eq_true rfl) (Nat.le_of_ble_eq_true rfl) rfl rfl ?_
  refine ev_aload_n iX5_readPerson_40 rfl (by decide) rfl ?_
  refine ev_iload_n iX5_readPerson_41 rfl rfl ?_
  refine ev_iload_n iX5_readPerson_42 rfl rfl ?_
  refine ev_aload_n iX5_readPerson_43 rfl (by decide) rfl ?_
  refine ev_ldcwS (tx := "quiet") (i := 8) iX5_readPerson_44 (by decide +kernel) (by decide) ?_
  refine ev_VMI iX5_readPerson_47 kV_X5_296 (c_md_takesWord σ 8 (by decide)) rc_62 rfl rfl (Nat.le_of_ble_eq_true rfl) (sg_fitL (by decide) (Nat.le_of_ble_eq_true rfl)) (fun r3 => ?_)
  refine ev_if_eq iX5_readPerson_50 ?_ ?_
  · refine ev_iconst iX5_readPerson_57 kI_0 ?_
    refine ev_iconst iX5_readPerson_58 kI_0 ?_
    refine ev_VMV iX5_readPerson_59 kV_X5_304 (c_md_addItem r3.2 v1 t0 0 0) rc_62 rfl rfl (Nat.le_of_ble_eq_true rfl) (sg_fitL (by decide) (Nat.le_of_ble_eq_true rfl)) (fun r4 => ?_)
    refine ev_aload_n iX5_readPerson_62 rfl (by decide) rfl ?_
    refine ev_dupR iX5_readPerson_63 (by decide) ?_
    refine ev_getI 5 15 iX5_readPerson_64 kF_X5_291 O_62 rfl ?_
    refine ev_iconst iX5_readPerson_67 kI_1 ?_
    refine ev_iadd iX5_readPerson_68 ?_
    refine ev_putI 5 15 iX5_readPerson_69 kF_X5_291 fp_5_15 rfl rfl O_62 rfl ?_
    refine ev_let (fun s5 => ?_)
    exact ev_vret iX5_readPerson_72 rfl
  · refine ev_iconst iX5_readPerson_53 kI_1 ?_
    refine ev_goto iX5_readPerson_54 ?_
    refine ev_iconst iX5_readPerson_58 kI_0 ?_
    refine ev_VMV iX5_readPerson_59 kV_X5_304 (c_md_addItem r3.2 v1 t0 1 0) rc_62 rfl rfl (Nat.le_of_ble_eq_true rfl) (sg_fitL (by decide) (Nat.le_of_ble_eq_true rfl)) (fun r6 => ?_)
    refine ev_aload_n iX5_readPerson_62 rfl (by decide) rfl ?_
    refine ev_dupR iX5_readPerson_63 (by decide) ?_
    refine ev_getI 5 15 iX5_readPerson_64 kF_X5_291 O_62 rfl ?_
    refine ev_iconst iX5_readPerson_67 kI_1 ?_
    refine ev_iadd iX5_readPerson_68 ?_
    refine ev_putI 5 15 iX5_readPerson_69 kF_X5_291 fp_5_15 rfl rfl O_62 rfl ?_
    refine ev_let (fun s7 => ?_)
    exact ev_vret iX5_readPerson_72 rfl
def md_readPerson_J15 (σ : sg_S)   (v1 : Int32) (t0 : Int32) : Option sg_S :=
  ((md_must σ t0).bind fun r1 => ((md_takesWord r1 7).bind fun r2 => (if r2.1 = 0 then md_readPerson_J39 r2.2 v1 5 else ((md_number r2.2 0 9).bind fun r8 => md_readPerson_J39 r8.2 v1 r8.1))))
set_option maxRecDepth 20000 in
set_option maxHeartbeats 2000000 in
theorem e_md_readPerson_J15 (σ : sg_S)   (v1 : Int32) (t0 : Int32)  : Ev mX5_readPerson (rmL 6) 15 [some (.ref 62), some (.int v1), none] [.int t0, .ref 62] σ (fun b => Sum.inl (eMV b)) (md_readPerson_J15 σ   v1 t0) := by
  unfold md_readPerson_J15
  refine ev_VMV iX5_readPerson_15 kV_X5_280 (c_md_must σ t0) rc_62 rfl rfl (Nat.le_of_ble_eq_true rfl) (sg_fitL (by decide) (Nat.le_of_ble_eq_true rfl)) (fun r1 => ?_)
  refine ev_aload_n iX5_readPerson_18 rfl (by decide) rfl ?_
  refine ev_ldcwS (tx := "trust") (i := 7) iX5_readPerson_19 (by decide +kernel) (by decide) ?_
  refine ev_VMI iX5_readPerson_22 kV_X5_296 (c_md_takesWord r1 7 (by decide)) rc_62 rfl rfl (Nat.le_of_ble_eq_true rfl) (sg_fitL (by decide) (Nat.le_of_ble_eq_true rfl)) (fun r2 => ?_)
  refine ev_if_eq iX5_readPerson_25 ?_ ?_
  · refine ev_iconst iX5_readPerson_38 kI_5 ?_
    exact ev_less (e_md_readPerson_J39 r2.2   v1 5 ) ⟨rfl, rfl, trivial⟩
  · refine ev_aload_n iX5_readPerson_28 rfl (by decide) rfl ?_
    refine ev_iconst iX5_readPerson_29 kI_0 ?_
    refine ev_bipush iX5_readPerson_30 kB_9 ?_
    refine ev_VMI iX5_readPerson_32 kV_X5_299 (c_md_number r2.2 0 9) rc_62 rfl rfl (Nat.le_of_ble_eq_true rfl) (sg_fitL (by decide) (Nat.le_of_ble_eq_true rfl)) (fun r8 => ?_)
    refine ev_goto iX5_readPerson_35 ?_
    exact ev_less (e_md_readPerson_J39 r8.2   v1 r8.1 ) ⟨rfl, rfl, trivial⟩
def md_readPerson (σ : sg_S) (a1 : Int32) : Option sg_S :=
  (if (σ 62 15) < 8 then md_readPerson_J15 σ a1 1 else md_readPerson_J15 σ a1 0)
set_option maxRecDepth 20000 in
set_option maxHeartbeats 2000000 in
theorem c_md_readPerson (σ : sg_S) (a1 : Int32)  : sg_Call yX5_readPerson mX5_readPerson (rmL 6) [.ref 62, .int a1] σ eMV (md_readPerson σ a1) := by
  refine sg_call_of (by decide +kernel) rfl (Nat.le_of_ble_eq_true rfl) rfl (fun _ => rfl) ?_
  refine ev_less (ls2 := [some (.ref 62), some (.int a1), none]) ?_ ⟨rfl, rfl, trivial⟩
  unfold md_readPerson
  refine ev_aload_n iX5_readPerson_0 rfl (by decide) rfl ?_
  refine ev_aload_n iX5_readPerson_1 rfl (by decide) rfl ?_
  refine ev_getI 5 15 iX5_readPerson_2 kF_X5_291 O_62 rfl ?_
  refine ev_bipush iX5_readPerson_5 kB_8 ?_
  refine ev_icmp_ge iX5_readPerson_7 ?_ ?_
  · refine ev_iconst iX5_readPerson_10 kI_1 ?_
    refine ev_goto iX5_readPerson_11 ?_
    exact ev_less (e_md_readPerson_J15 σ   a1 1 ) ⟨rfl, rfl, trivial⟩
  · refine ev_iconst iX5_readPerson_14 kI_0 ?_
    exact ev_less (e_md_readPerson_J15 σ   a1 0 ) ⟨rfl, rfl, trivial⟩
def md_go (σ : sg_S) (a1 : Int32) : Option (Int32 × sg_S) :=
  ((md_within σ a1 1 60).bind fun r1 => (if r1 = 0 then ((md_finding σ (-1000001)).bind fun r2 => some (r2.1, r2.2)) else (if 99999 < ((σ 63 0) + a1) then ((md_finding σ (-1000005)).bind fun r3 => some (r3.1, r3.2)) else ((md_daysGo σ a1).bind fun r4 => some ((r4 63 4), r4)))))
set_option maxRecDepth 20000 in
set_option maxHeartbeats 2000000 in
theorem c_md_go (σ : sg_S) (a1 : Int32)  : sg_Call yX5_go mX5_go (rmL 7) [.ref 62, .int a1] σ eMI (md_go σ a1) := by
  refine sg_call_of (by decide +kernel) rfl (Nat.le_of_ble_eq_true rfl) rfl (fun _ => rfl) ?_
  refine ev_less (ls2 := [some (.ref 62), some (.int a1)]) ?_ ⟨rfl, rfl, trivial⟩
  unfold md_go
  refine ev_iload_n iX5_go_0 rfl rfl ?_
  refine ev_iconst iX5_go_1 kI_1 ?_
  refine ev_bipush iX5_go_2 kB_60 ?_
  refine ev_SRI iX5_go_4 kS_X5_70 (c_md_within σ a1 1 60) rfl rfl (Nat.le_of_ble_eq_true rfl) (sg_fitL (by decide) (Nat.le_of_ble_eq_true rfl)) (fun r1 => ?_)
  refine ev_if_ne iX5_go_7 ?_ ?_
  · refine ev_aload_n iX5_go_10 rfl (by decide) rfl ?_
    refine ev_ldc iX5_go_11 kC_X5_60 ?_
    refine ev_VMI iX5_go_13 kV_X5_66 (c_md_finding σ (-1000001)) rc_62 rfl rfl (Nat.le_of_ble_eq_true rfl) (sg_fitL (by decide) (Nat.le_of_ble_eq_true rfl)) (fun r2 => ?_)
    exact ev_iret iX5_go_16 rfl (narI rfl _)
  · refine ev_aload_n iX5_go_17 rfl (by decide) rfl ?_
    refine ev_getR (k1 := 63) 5 0 iX5_go_18 kF_X5_9 O_62 rfl (by decide) ?_
    refine ev_iconst iX5_go_21 kI_0 ?_
    refine ev_ialdK 0 iX5_go_22 A_63 rfl rfl ?_
    refine ev_iload_n iX5_go_23 rfl rfl ?_
    refine ev_iadd iX5_go_24 ?_
    refine ev_ldc iX5_go_25 kC_X5_172 ?_
    refine ev_icmp_le iX5_go_27 ?_ ?_
    · refine ev_aload_n iX5_go_30 rfl (by decide) rfl ?_
      refine ev_ldc iX5_go_31 kC_X5_152 ?_
      refine ev_VMI iX5_go_33 kV_X5_66 (c_md_finding σ (-1000005)) rc_62 rfl rfl (Nat.le_of_ble_eq_true rfl) (sg_fitL (by decide) (Nat.le_of_ble_eq_true rfl)) (fun r3 => ?_)
      exact ev_iret iX5_go_36 rfl (narI rfl _)
    · refine ev_aload_n iX5_go_37 rfl (by decide) rfl ?_
      refine ev_iload_n iX5_go_38 rfl rfl ?_
      refine ev_VMV iX5_go_39 kV_X5_183 (c_md_daysGo σ a1) rc_62 rfl rfl (Nat.le_of_ble_eq_true rfl) (sg_fitL (by decide) (Nat.le_of_ble_eq_true rfl)) (fun r4 => ?_)
      refine ev_aload_n iX5_go_42 rfl (by decide) rfl ?_
      refine ev_getR (k1 := 63) 5 0 iX5_go_43 kF_X5_9 O_62 rfl (by decide) ?_
      refine ev_iconst iX5_go_46 kI_4 ?_
      refine ev_ialdK 4 iX5_go_47 A_63 rfl rfl ?_
      exact ev_iret iX5_go_48 rfl (narI rfl _)
def md_behind (σ : sg_S) (a1 : Int32) (a2 : Int32) : Option (Int32 × sg_S) :=
  ((md_copyRow σ 63 119 65 119).bind fun r1 => ((md_daysGo r1 a2).bind fun r2 => (if sg_in a1 119 = true then ((md_putBack r2 (r2 63 a1.toNatClampNeg)).bind fun r3 => some (r3.1, r3.2)) else none)))
set_option maxRecDepth 20000 in
set_option maxHeartbeats 2000000 in
theorem c_md_behind (σ : sg_S) (a1 : Int32) (a2 : Int32)  : sg_Call yX5_behind mX5_behind (rmL 7) [.ref 62, .int a1, .int a2] σ eMI (md_behind σ a1 a2) := by
  refine sg_call_of (by decide +kernel) rfl (Nat.le_of_ble_eq_true rfl) rfl (fun _ => rfl) ?_
  refine ev_less (ls2 := [some (.ref 62), some (.int a1), some (.int a2)]) ?_ ⟨rfl, rfl, rfl, trivial⟩
  unfold md_behind
  refine ev_aload_n iX5_behind_0 rfl (by decide) rfl ?_
  refine ev_getR (k1 := 63) 5 0 iX5_behind_1 kF_X5_9 O_62 rfl (by decide) ?_
  refine ev_aload_n iX5_behind_4 rfl (by decide) rfl ?_
  refine ev_getR (k1 := 65) 5 2 iX5_behind_5 kF_X5_16 O_62 rfl (by decide) ?_
  refine ev_SMV iX5_behind_8 kS_X5_61 (c_md_copyRow σ 63 119 65 119 A_63 A_65) rfl rfl (Nat.le_of_ble_eq_true rfl) (sg_fitL (by decide) (Nat.le_of_ble_eq_true rfl)) (fun r1 => ?_)
  refine ev_aload_n iX5_behind_11 rfl (by decide) rfl ?_
  refine ev_iload_n iX5_behind_12 rfl rfl ?_
  refine ev_VMV iX5_behind_13 kV_X5_183 (c_md_daysGo r1 a2) rc_62 rfl rfl (Nat.le_of_ble_eq_true rfl) (sg_fitL (by decide) (Nat.le_of_ble_eq_true rfl)) (fun r2 => ?_)
  refine ev_aload_n iX5_behind_16 rfl (by decide) rfl ?_
  refine ev_aload_n iX5_behind_17 rfl (by decide) rfl ?_
  refine ev_getR (k1 := 63) 5 0 iX5_behind_18 kF_X5_9 O_62 rfl (by decide) ?_
  refine ev_iload_n iX5_behind_21 rfl rfl ?_
  refine ev_iald iX5_behind_22 A_63 ?_
  refine ev_VMI iX5_behind_23 kV_X5_210 (c_md_putBack r2 (r2 63 a1.toNatClampNeg)) rc_62 rfl rfl (Nat.le_of_ble_eq_true rfl) (sg_fitL (by decide) (Nat.le_of_ble_eq_true rfl)) (fun r3 => ?_)
  exact ev_iret iX5_behind_26 rfl (narI rfl _)
def md_ahead (σ : sg_S) (a1 : Int32) (a2 : Int32) (a3 : Int32) : Option (Int32 × sg_S) :=
  ((md_isPerson σ a1).bind fun r1 => (if r1 = 0 then ((md_finding σ (-1000001)).bind fun r2 => some (r2.1, r2.2)) else ((md_within σ a2 3 4).bind fun r3 => (if r3 = 0 then ((md_finding σ (-1000001)).bind fun r4 => some (r4.1, r4.2)) else ((md_within σ a3 0 100).bind fun r5 => (if r5 = 0 then ((md_finding σ (-1000001)).bind fun r6 => some (r6.1, r6.2)) else ((md_copyRow σ 63 119 65 119).bind fun r7 => ((md_daysGo r7 a3).bind fun r8 => ((md_told r8 a1 a2).bind fun r9 => ((md_putBack r8 r9).bind fun r10 => some (r10.1, r10.2)))))))))))
set_option maxRecDepth 20000 in
set_option maxHeartbeats 2000000 in
theorem c_md_ahead (σ : sg_S) (a1 : Int32) (a2 : Int32) (a3 : Int32)  : sg_Call yX5_ahead mX5_ahead (rmL 7) [.ref 62, .int a1, .int a2, .int a3] σ eMI (md_ahead σ a1 a2 a3) := by
  refine sg_call_of (by decide +kernel) rfl (Nat.le_of_ble_eq_true rfl) rfl (fun _ => rfl) ?_
  refine ev_less (ls2 := [some (.ref 62), some (.int a1), some (.int a2), some (.int a3)]) ?_ ⟨rfl, rfl, rfl, rfl, trivial⟩
  unfold md_ahead
  refine ev_aload_n iX5_ahead_0 rfl (by decide) rfl ?_
  refine ev_iload_n iX5_ahead_1 rfl rfl ?_
  refine ev_VRI iX5_ahead_2 kV_X5_105 (c_md_isPerson σ a1) rc_62 rfl rfl (Nat.le_of_ble_eq_true rfl) (sg_fitL (by decide) (Nat.le_of_ble_eq_true rfl)) (fun r1 => ?_)
  refine ev_if_eq iX5_ahead_5 ?_ ?_
  · refine ev_aload_n iX5_ahead_27 rfl (by decide) rfl ?_
    refine ev_ldc iX5_ahead_28 kC_X5_60 ?_
    refine ev_VMI iX5_ahead_30 kV_X5_66 (c_md_finding σ (-1000001)) rc_62 rfl rfl (Nat.le_of_ble_eq_true rfl) (sg_fitL (by decide) (Nat.le_of_ble_eq_true rfl)) (fun r2 => ?_)
    exact ev_iret iX5_ahead_33 rfl (narI rfl _)
  · refine ev_iload_n iX5_ahead_8 rfl rfl ?_
    refine ev_iconst iX5_ahead_9 kI_3 ?_
    refine ev_iconst iX5_ahead_10 kI_4 ?_
    refine ev_SRI iX5_ahead_11 kS_X5_70 (c_md_within σ a2 3 4) rfl rfl (Nat.le_of_ble_eq_true rfl) (sg_fitL (by decide) (Nat.le_of_ble_eq_true rfl)) (fun r3 => ?_)
    refine ev_if_eq iX5_ahead_14 ?_ ?_
    · refine ev_aload_n iX5_ahead_27 rfl (by decide) rfl ?_
      refine ev_ldc iX5_ahead_28 kC_X5_60 ?_
      refine ev_VMI iX5_ahead_30 kV_X5_66 (c_md_finding σ (-1000001)) rc_62 rfl rfl (Nat.le_of_ble_eq_true rfl) (sg_fitL (by decide) (Nat.le_of_ble_eq_true rfl)) (fun r4 => ?_)
      exact ev_iret iX5_ahead_33 rfl (narI rfl _)
    · refine ev_iload_n iX5_ahead_17 rfl rfl ?_
      refine ev_iconst iX5_ahead_18 kI_0 ?_
      refine ev_bipush iX5_ahead_19 kB_100 ?_
      refine ev_SRI iX5_ahead_21 kS_X5_70 (c_md_within σ a3 0 100) rfl rfl (Nat.le_of_ble_eq_true rfl) (sg_fitL (by decide) (Nat.le_of_ble_eq_true rfl)) (fun r5 => ?_)
      refine ev_if_ne iX5_ahead_24 ?_ ?_
      · refine ev_aload_n iX5_ahead_27 rfl (by decide) rfl ?_
        refine ev_ldc iX5_ahead_28 kC_X5_60 ?_
        refine ev_VMI iX5_ahead_30 kV_X5_66 (c_md_finding σ (-1000001)) rc_62 rfl rfl (Nat.le_of_ble_eq_true rfl) (sg_fitL (by decide) (Nat.le_of_ble_eq_true rfl)) (fun r6 => ?_)
        exact ev_iret iX5_ahead_33 rfl (narI rfl _)
      · refine ev_aload_n iX5_ahead_34 rfl (by decide) rfl ?_
        refine ev_getR (k1 := 63) 5 0 iX5_ahead_35 kF_X5_9 O_62 rfl (by decide) ?_
        refine ev_aload_n iX5_ahead_38 rfl (by decide) rfl ?_
        refine ev_getR (k1 := 65) 5 2 iX5_ahead_39 kF_X5_16 O_62 rfl (by decide) ?_
        refine ev_SMV iX5_ahead_42 kS_X5_61 (c_md_copyRow σ 63 119 65 119 A_63 A_65) rfl rfl (Nat.le_of_ble_eq_true rfl) (sg_fitL (by decide) (Nat.le_of_ble_eq_true rfl)) (fun r7 => ?_)
        refine ev_aload_n iX5_ahead_45 rfl (by decide) rfl ?_
        refine ev_iload_n iX5_ahead_46 rfl rfl ?_
        refine ev_VMV iX5_ahead_47 kV_X5_183 (c_md_daysGo r7 a3) rc_62 rfl rfl (Nat.le_of_ble_eq_true rfl) (sg_fitL (by decide) (Nat.le_of_ble_eq_true rfl)) (fun r8 => ?_)
        refine ev_aload_n iX5_ahead_50 rfl (by decide) rfl ?_
        refine ev_aload_n iX5_ahead_51 rfl (by decide) rfl ?_
        refine ev_iload_n iX5_ahead_52 rfl rfl ?_
        refine ev_iload_n iX5_ahead_53 rfl rfl ?_
        refine ev_VRI iX5_ahead_54 kV_X5_125 (c_md_told r8 a1 a2) rc_62 rfl rfl (Nat.le_of_ble_eq_true rfl) (sg_fitL (by decide) (Nat.le_of_ble_eq_true rfl)) (fun r9 => ?_)
        refine ev_VMI iX5_ahead_57 kV_X5_210 (c_md_putBack r8 r9) rc_62 rfl rfl (Nat.le_of_ble_eq_true rfl) (sg_fitL (by decide) (Nat.le_of_ble_eq_true rfl)) (fun r10 => ?_)
        exact ev_iret iX5_ahead_60 rfl (narI rfl _)
def md_blamed (σ : sg_S) (a1 : Int32) (a2 : Int32) : Option (Int32 × sg_S) :=
  ((md_isPerson σ a1).bind fun r1 => (if r1 = 0 then ((md_finding σ (-1000001)).bind fun r2 => some (r2.1, r2.2)) else ((md_within σ a2 0 9999).bind fun r3 => (if r3 = 0 then ((md_finding σ (-1000001)).bind fun r4 => some (r4.1, r4.2)) else ((md_personAt σ a1 3).bind fun r5 => ((md_daysTo σ r5 a2).bind fun r6 => ((md_orNone r6.2 r6.1).bind fun r7 => some (r7.1, r7.2))))))))
set_option maxRecDepth 20000 in
set_option maxHeartbeats 2000000 in
theorem c_md_blamed (σ : sg_S) (a1 : Int32) (a2 : Int32)  : sg_Call yX5_blamed mX5_blamed (rmL 7) [.ref 62, .int a1, .int a2] σ eMI (md_blamed σ a1 a2) := by
  refine sg_call_of (by decide +kernel) rfl (Nat.le_of_ble_eq_true rfl) rfl (fun _ => rfl) ?_
  refine ev_less (ls2 := [some (.ref 62), some (.int a1), some (.int a2)]) ?_ ⟨rfl, rfl, rfl, trivial⟩
  unfold md_blamed
  refine ev_aload_n iX5_blamed_0 rfl (by decide) rfl ?_
  refine ev_iload_n iX5_blamed_1 rfl rfl ?_
  refine ev_VRI iX5_blamed_2 kV_X5_105 (c_md_isPerson σ a1) rc_62 rfl rfl (Nat.le_of_ble_eq_true rfl) (sg_fitL (by decide) (Nat.le_of_ble_eq_true rfl)) (fun r1 => ?_)
  refine ev_if_eq iX5_blamed_5 ?_ ?_
  · refine ev_aload_n iX5_blamed_36 rfl (by decide) rfl ?_
    refine ev_ldc iX5_blamed_37 kC_X5_60 ?_
    refine ev_VMI iX5_blamed_39 kV_X5_66 (c_md_finding σ (-1000001)) rc_62 rfl rfl (Nat.le_of_ble_eq_true rfl) (sg_fitL (by decide) (Nat.le_of_ble_eq_true rfl)) (fun r2 => ?_)
    exact ev_iret iX5_blamed_42 rfl (narI rfl _)
  · refine ev_iload_n iX5_blamed_8 rfl rfl ?_
    refine ev_iconst iX5_blamed_9 kI_0 ?_
    refine ev_sipush iX5_blamed_10 kH_9999 ?_
    refine ev_SRI iX5_blamed_13 kS_X5_70 (c_md_within σ a2 0 9999) rfl rfl (Nat.le_of_ble_eq_true rfl) (sg_fitL (by decide) (Nat.le_of_ble_eq_true rfl)) (fun r3 => ?_)
    refine ev_if_eq iX5_blamed_16 ?_ ?_
    · refine ev_aload_n iX5_blamed_36 rfl (by decide) rfl ?_
      refine ev_ldc iX5_blamed_37 kC_X5_60 ?_
      refine ev_VMI iX5_blamed_39 kV_X5_66 (c_md_finding σ (-1000001)) rc_62 rfl rfl (Nat.le_of_ble_eq_true rfl) (sg_fitL (by decide) (Nat.le_of_ble_eq_true rfl)) (fun r4 => ?_)
      exact ev_iret iX5_blamed_42 rfl (narI rfl _)
    · refine ev_aload_n iX5_blamed_19 rfl (by decide) rfl ?_
      refine ev_aload_n iX5_blamed_20 rfl (by decide) rfl ?_
      refine ev_iload_n iX5_blamed_21 rfl rfl ?_
      refine ev_iconst iX5_blamed_22 kI_3 ?_
      refine ev_SRI iX5_blamed_23 kS_X5_85 (c_md_personAt σ a1 3) rfl rfl (Nat.le_of_ble_eq_true rfl) (sg_fitL (by decide) (Nat.le_of_ble_eq_true rfl)) (fun r5 => ?_)
      refine ev_iload_n iX5_blamed_26 rfl rfl ?_
      refine ev_VMI iX5_blamed_27 kV_X5_219 (c_md_daysTo σ r5 a2) rc_62 rfl rfl (Nat.le_of_ble_eq_true rfl) (sg_fitL (by decide) (Nat.le_of_ble_eq_true rfl)) (fun r6 => ?_)
      refine ev_VMI iX5_blamed_30 kV_X5_216 (c_md_orNone r6.2 r6.1) rc_62 rfl rfl (Nat.le_of_ble_eq_true rfl) (sg_fitL (by decide) (Nat.le_of_ble_eq_true rfl)) (fun r7 => ?_)
      refine ev_goto iX5_blamed_33 ?_
      exact ev_iret iX5_blamed_42 rfl (narI rfl _)
def md_fund (σ : sg_S) (a1 : Int32) : Option (Int32 × sg_S) :=
  ((md_within σ a1 0 99999).bind fun r1 => (if r1 = 0 then ((md_finding σ (-1000001)).bind fun r2 => some (r2.1, r2.2)) else ((md_daysTo σ 4 a1).bind fun r3 => ((md_orNone r3.2 r3.1).bind fun r4 => some (r4.1, r4.2)))))
set_option maxRecDepth 20000 in
set_option maxHeartbeats 2000000 in
theorem c_md_fund (σ : sg_S) (a1 : Int32)  : sg_Call yX5_fund mX5_fund (rmL 7) [.ref 62, .int a1] σ eMI (md_fund σ a1) := by
  refine sg_call_of (by decide +kernel) rfl (Nat.le_of_ble_eq_true rfl) rfl (fun _ => rfl) ?_
  refine ev_less (ls2 := [some (.ref 62), some (.int a1)]) ?_ ⟨rfl, rfl, trivial⟩
  unfold md_fund
  refine ev_iload_n iX5_fund_0 rfl rfl ?_
  refine ev_iconst iX5_fund_1 kI_0 ?_
  refine ev_ldc iX5_fund_2 kC_X5_172 ?_
  refine ev_SRI iX5_fund_4 kS_X5_70 (c_md_within σ a1 0 99999) rfl rfl (Nat.le_of_ble_eq_true rfl) (sg_fitL (by decide) (Nat.le_of_ble_eq_true rfl)) (fun r1 => ?_)
  refine ev_if_eq iX5_fund_7 ?_ ?_
  · refine ev_aload_n iX5_fund_23 rfl (by decide) rfl ?_
    refine ev_ldc iX5_fund_24 kC_X5_60 ?_
    refine ev_VMI iX5_fund_26 kV_X5_66 (c_md_finding σ (-1000001)) rc_62 rfl rfl (Nat.le_of_ble_eq_true rfl) (sg_fitL (by decide) (Nat.le_of_ble_eq_true rfl)) (fun r2 => ?_)
    exact ev_iret iX5_fund_29 rfl (narI rfl _)
  · refine ev_aload_n iX5_fund_10 rfl (by decide) rfl ?_
    refine ev_aload_n iX5_fund_11 rfl (by decide) rfl ?_
    refine ev_iconst iX5_fund_12 kI_4 ?_
    refine ev_iload_n iX5_fund_13 rfl rfl ?_
    refine ev_VMI iX5_fund_14 kV_X5_219 (c_md_daysTo σ 4 a1) rc_62 rfl rfl (Nat.le_of_ble_eq_true rfl) (sg_fitL (by decide) (Nat.le_of_ble_eq_true rfl)) (fun r3 => ?_)
    refine ev_VMI iX5_fund_17 kV_X5_216 (c_md_orNone r3.2 r3.1) rc_62 rfl rfl (Nat.le_of_ble_eq_true rfl) (sg_fitL (by decide) (Nat.le_of_ble_eq_true rfl)) (fun r4 => ?_)
    refine ev_goto iX5_fund_20 ?_
    exact ev_iret iX5_fund_29 rfl (narI rfl _)
def md_spreadBy (σ : sg_S) (a1 : Int32) (a2 : Int32) (a3 : Int32) : Option (Int32 × sg_S) :=
  ((md_copyRow σ 63 119 65 119).bind fun r1 => ((md_isBegun r1 a1 a2).bind fun r2 => ((md_daysGo r2 a3).bind fun r3 => ((md_sayingIs r3 a1 2).bind fun r4 => ((md_bits r3 r4).bind fun r5 => ((md_putBack r3 r5).bind fun r6 => some (r6.1, r6.2)))))))
set_option maxRecDepth 20000 in
set_option maxHeartbeats 2000000 in
theorem c_md_spreadBy (σ : sg_S) (a1 : Int32) (a2 : Int32) (a3 : Int32)  : sg_Call yX5_spreadBy mX5_spreadBy (rmL 7) [.ref 62, .int a1, .int a2, .int a3] σ eMI (md_spreadBy σ a1 a2 a3) := by
  refine sg_call_of (by decide +kernel) rfl (Nat.le_of_ble_eq_true rfl) rfl (fun _ => rfl) ?_
  refine ev_less (ls2 := [some (.ref 62), some (.int a1), some (.int a2), some (.int a3)]) ?_ ⟨rfl, rfl, rfl, rfl, trivial⟩
  unfold md_spreadBy
  refine ev_aload_n iX5_spreadBy_0 rfl (by decide) rfl ?_
  refine ev_getR (k1 := 63) 5 0 iX5_spreadBy_1 kF_X5_9 O_62 rfl (by decide) ?_
  refine ev_aload_n iX5_spreadBy_4 rfl (by decide) rfl ?_
  refine ev_getR (k1 := 65) 5 2 iX5_spreadBy_5 kF_X5_16 O_62 rfl (by decide) ?_
  refine ev_SMV iX5_spreadBy_8 kS_X5_61 (c_md_copyRow σ 63 119 65 119 A_63 A_65) rfl rfl (Nat.le_of_ble_eq_true rfl) (sg_fitL (by decide) (Nat.le_of_ble_eq_true rfl)) (fun r1 => ?_)
  refine ev_aload_n iX5_spreadBy_11 rfl (by decide) rfl ?_
  refine ev_iload_n iX5_spreadBy_12 rfl rfl ?_
  refine ev_iload_n iX5_spreadBy_13 rfl rfl ?_
  refine ev_VMV iX5_spreadBy_14 kV_X5_101 (c_md_isBegun r1 a1 a2) rc_62 rfl rfl (Nat.le_of_ble_eq_true rfl) (sg_fitL (by decide) (Nat.le_of_ble_eq_true rfl)) (fun r2 => ?_)
  refine ev_aload_n iX5_spreadBy_17 rfl (by decide) rfl ?_
  refine ev_iload_n iX5_spreadBy_18 rfl rfl ?_
  refine ev_VMV iX5_spreadBy_19 kV_X5_183 (c_md_daysGo r2 a3) rc_62 rfl rfl (Nat.le_of_ble_eq_true rfl) (sg_fitL (by decide) (Nat.le_of_ble_eq_true rfl)) (fun r3 => ?_)
  refine ev_aload_n iX5_spreadBy_22 rfl (by decide) rfl ?_
  refine ev_aload_n iX5_spreadBy_23 rfl (by decide) rfl ?_
  refine ev_iload_n iX5_spreadBy_24 rfl rfl ?_
  refine ev_iconst iX5_spreadBy_25 kI_2 ?_
  refine ev_VRI iX5_spreadBy_26 kV_X5_112 (c_md_sayingIs r3 a1 2) rc_62 rfl rfl (Nat.le_of_ble_eq_true rfl) (sg_fitL (by decide) (Nat.le_of_ble_eq_true rfl)) (fun r4 => ?_)
  refine ev_SRI iX5_spreadBy_29 kS_X5_186 (c_md_bits r3 r4) rfl rfl (Nat.le_of_ble_eq_true rfl) (sg_fitL (by decide) (Nat.le_of_ble_eq_true rfl)) (fun r5 => ?_)
  refine ev_VMI iX5_spreadBy_32 kV_X5_210 (c_md_putBack r3 r5) rc_62 rfl rfl (Nat.le_of_ble_eq_true rfl) (sg_fitL (by decide) (Nat.le_of_ble_eq_true rfl)) (fun r6 => ?_)
  exact ev_iret iX5_spreadBy_35 rfl (narI rfl _)
def md_staysAway_14_X (σ : sg_S)  (f1 : Int32) (f2 : Int32) (f3 : Int32) (f4 : Int32) : ((Int32 × sg_S) ⊕ sg_S) → sg_X
  | .inl a => .inr (14, [some (.ref 62), some (.int f1), some (.int f2), some (.int f3), some (.int f4), some (.int a.1)], a.2)
  | .inr e => .inr (53, [some (.ref 62), none, some (.int f2), some (.int f3), some (.int f4), none], e)
def md_staysAway_14_L (σ : sg_S)  (f1 : Int32) (f2 : Int32) (f3 : Int32) (f4 : Int32) (a : (Int32 × sg_S)) : Option ((Int32 × sg_S) ⊕ sg_S) :=
  (if a.1 < (a.2 63 1) then (if ((jshr f1 a.1) &&& 1) = 1 then ((md_personAt a.2 a.1 2).bind fun r2 => (if sg_in r2 119 = true then sg_let (sg_st a.2 63 r2.toNatClampNeg 1) (fun s3 => some (.inl ((a.1 + 1), s3))) else none)) else some (.inl ((a.1 + 1), a.2))) else some (.inr a.2))
set_option maxRecDepth 20000 in
set_option maxHeartbeats 2000000 in
theorem e_md_staysAway_14_L (σ : sg_S)  (f1 : Int32) (f2 : Int32) (f3 : Int32) (f4 : Int32)  : ∀ a : (Int32 × sg_S), Ev mX5_staysAway (rmL 7) 14 [some (.ref 62), some (.int f1), some (.int f2), some (.int f3), some (.int f4), some (.int a.1)] [] a.2 (md_staysAway_14_X σ  f1 f2 f3 f4) (md_staysAway_14_L σ  f1 f2 f3 f4 a) := by
  intro a
  unfold md_staysAway_14_L
  refine ev_iload iX5_staysAway_14 rfl ?_
  refine ev_aload_n iX5_staysAway_16 rfl (by decide) rfl ?_
  refine ev_getR (k1 := 63) 5 0 iX5_staysAway_17 kF_X5_9 O_62 rfl (by decide) ?_
  refine ev_iconst iX5_staysAway_20 kI_1 ?_
  refine ev_ialdK 1 iX5_staysAway_21 A_63 rfl rfl ?_
  refine ev_icmp_ge iX5_staysAway_22 ?_ ?_
  · refine ev_iload_n iX5_staysAway_25 rfl rfl ?_
    refine ev_iload iX5_staysAway_26 rfl ?_
    refine ev_ishr iX5_staysAway_28 ?_
    refine ev_iconst iX5_staysAway_29 kI_1 ?_
    refine ev_iand iX5_staysAway_30 ?_
    refine ev_iconst iX5_staysAway_31 kI_1 ?_
    refine ev_icmp_ne iX5_staysAway_32 ?_ ?_
    · refine ev_aload_n iX5_staysAway_35 rfl (by decide) rfl ?_
      refine ev_getR (k1 := 63) 5 0 iX5_staysAway_36 kF_X5_9 O_62 rfl (by decide) ?_
      refine ev_iload iX5_staysAway_39 rfl ?_
      refine ev_iconst iX5_staysAway_41 kI_2 ?_
      refine ev_SRI iX5_staysAway_42 kS_X5_85 (c_md_personAt a.2 a.1 2) rfl rfl (Nat.le_of_ble_eq_true rfl) (sg_fitL (by decide) (Nat.le_of_ble_eq_true rfl)) (fun r2 => ?_)
      refine ev_iconst iX5_staysAway_45 kI_1 ?_
      refine ev_iast iX5_staysAway_46 A_63 ?_
      refine ev_let (fun s3 => ?_)
      refine ev_iinc (v := (a.1 + 1)) (ls2 := [some (.ref 62), some (.int f1), some (.int f2), some (.int f3), some (.int f4), some (.int (a.1 + 1))]) iX5_staysAway_47 rfl (by rw [kI_1]) (Nat.le_of_ble_eq_true rfl) rfl rfl ?_
      refine ev_goto iX5_staysAway_50 ?_
      exact ev_exit rfl ⟨rfl, rfl, rfl, rfl, rfl, rfl, trivial⟩
    · refine ev_iinc (v := (a.1 + 1)) (ls2 := [some (.ref 62), some (.int f1), some (.int f2), some (.int f3), some (.int f4), some (.int (a.1 + 1))]) iX5_staysAway_47 rfl (by rw [kI_1]) (Nat.le_of_ble_eq_true rfl) rfl rfl ?_
      refine ev_goto iX5_staysAway_50 ?_
      exact ev_exit rfl ⟨rfl, rfl, rfl, rfl, rfl, rfl, trivial⟩
  · exact ev_exit rfl ⟨rfl, rfl, rfl, rfl, trivial⟩
def md_staysAway (σ : sg_S) (a1 : Int32) (a2 : Int32) (a3 : Int32) (a4 : Int32) : Option (Int32 × sg_S) :=
  ((md_copyRow σ 63 119 65 119).bind fun r1 => ((sg_lp (md_staysAway_14_L r1  a1 a2 a3 a4) 1000 (0, r1)).bind fun e6 => ((md_daysGo e6 a4).bind fun r7 => ((md_hasHeard r7 a2 a3).bind fun r8 => (if r8 = 0 then ((md_copyRow r7 65 119 63 119).bind fun r9 => some (1, r9)) else ((md_copyRow r7 65 119 63 119).bind fun r10 => some (0, r10)))))))
set_option maxRecDepth 20000 in
set_option maxHeartbeats 2000000 in
theorem c_md_staysAway (σ : sg_S) (a1 : Int32) (a2 : Int32) (a3 : Int32) (a4 : Int32)  : sg_Call yX5_staysAway mX5_staysAway (rmL 7) [.ref 62, .int a1, .int a2, .int a3, .int a4] σ eMI (md_staysAway σ a1 a2 a3 a4) := by
  refine sg_call_of (by decide +kernel) rfl (Nat.le_of_ble_eq_true rfl) rfl (fun _ => rfl) ?_
  refine ev_less (ls2 := [some (.ref 62), some (.int a1), some (.int a2), some (.int a3), some (.int a4), none]) ?_ ⟨rfl, rfl, rfl, rfl, rfl, trivial⟩
  unfold md_staysAway
  refine ev_aload_n iX5_staysAway_0 rfl (by decide) rfl ?_
  refine ev_getR (k1 := 63) 5 0 iX5_staysAway_1 kF_X5_9 O_62 rfl (by decide) ?_
  refine ev_aload_n iX5_staysAway_4 rfl (by decide) rfl ?_
  refine ev_getR (k1 := 65) 5 2 iX5_staysAway_5 kF_X5_16 O_62 rfl (by decide) ?_
  refine ev_SMV iX5_staysAway_8 kS_X5_61 (c_md_copyRow σ 63 119 65 119 A_63 A_65) rfl rfl (Nat.le_of_ble_eq_true rfl) (sg_fitL (by decide) (Nat.le_of_ble_eq_true rfl)) (fun r1 => ?_)
  refine ev_iconst iX5_staysAway_11 kI_0 ?_
  refine ev_istore (ls2 := [some (.ref 62), some (.int a1), some (.int a2), some (.int a3), some (.int a4), some (.int 0)]) iX5_staysAway_12 (Nat.le_of_ble_eq_true rfl) (Nat.le_of_ble_eq_true rfl) rfl rfl ?_
  refine ev_less (ls2 := [some (.ref 62), some (.int a1), some (.int a2), some (.int a3), some (.int a4), some (.int 0)]) ?_ ⟨rfl, rfl, rfl, rfl, rfl, rfl, trivial⟩
  refine ev_seq1 53 (fun z5 => [some (.ref 62), none, some (.int a2), some (.int a3), some (.int a4), none]) (fun z5 => z5) (ev_loop (embB := md_staysAway_14_X r1  a1 a2 a3 a4) (ex := fun b => md_staysAway_14_X r1  a1 a2 a3 a4 (.inr b)) 14 (fun z4 => [some (.ref 62), some (.int a1), some (.int a2), some (.int a3), some (.int a4), some (.int z4.1)]) (fun z4 => z4.2) (fun _ => rfl) (fun _ => rfl) (e_md_staysAway_14_L r1  a1 a2 a3 a4 ) 1000 (0, r1)) (fun _ => rfl) (fun e6 => ?_)
  refine ev_aload_n iX5_staysAway_53 rfl (by decide) rfl ?_
  refine ev_iload iX5_staysAway_54 rfl ?_
  refine ev_VMV iX5_staysAway_56 kV_X5_183 (c_md_daysGo e6 a4) rc_62 rfl rfl (Nat.le_of_ble_eq_true rfl) (sg_fitL (by decide) (Nat.le_of_ble_eq_true rfl)) (fun r7 => ?_)
  refine ev_aload_n iX5_staysAway_59 rfl (by decide) rfl ?_
  refine ev_iload_n iX5_staysAway_60 rfl rfl ?_
  refine ev_iload_n iX5_staysAway_61 rfl rfl ?_
  refine ev_VRI iX5_staysAway_62 kV_X5_115 (c_md_hasHeard r7 a2 a3) rc_62 rfl rfl (Nat.le_of_ble_eq_true rfl) (sg_fitL (by decide) (Nat.le_of_ble_eq_true rfl)) (fun r8 => ?_)
  refine ev_if_ne iX5_staysAway_65 ?_ ?_
  · refine ev_iconst iX5_staysAway_68 kI_1 ?_
    refine ev_goto iX5_staysAway_69 ?_
    refine ev_istore (ls2 := [some (.ref 62), none, some (.int a2), some (.int a3), some (.int a4), some (.int 1)]) iX5_staysAway_73 (Nat.le_of_ble_eq_true rfl) (Nat.le_of_ble_eq_true rfl) rfl rfl ?_
    refine ev_aload_n iX5_staysAway_75 rfl (by decide) rfl ?_
    refine ev_getR (k1 := 65) 5 2 iX5_staysAway_76 kF_X5_16 O_62 rfl (by decide) ?_
    refine ev_aload_n iX5_staysAway_79 rfl (by decide) rfl ?_
    refine ev_getR (k1 := 63) 5 0 iX5_staysAway_80 kF_X5_9 O_62 rfl (by decide) ?_
    refine ev_SMV iX5_staysAway_83 kS_X5_61 (c_md_copyRow r7 65 119 63 119 A_65 A_63) rfl rfl (Nat.le_of_ble_eq_true rfl) (sg_fitL (by decide) (Nat.le_of_ble_eq_true rfl)) (fun r9 => ?_)
    refine ev_iload iX5_staysAway_86 rfl ?_
    exact ev_iret iX5_staysAway_88 rfl (fun ty _ => nar1 ty)
  · refine ev_iconst iX5_staysAway_72 kI_0 ?_
    refine ev_istore (ls2 := [some (.ref 62), none, some (.int a2), some (.int a3), some (.int a4), some (.int 0)]) iX5_staysAway_73 (Nat.le_of_ble_eq_true rfl) (Nat.le_of_ble_eq_true rfl) rfl rfl ?_
    refine ev_aload_n iX5_staysAway_75 rfl (by decide) rfl ?_
    refine ev_getR (k1 := 65) 5 2 iX5_staysAway_76 kF_X5_16 O_62 rfl (by decide) ?_
    refine ev_aload_n iX5_staysAway_79 rfl (by decide) rfl ?_
    refine ev_getR (k1 := 63) 5 0 iX5_staysAway_80 kF_X5_9 O_62 rfl (by decide) ?_
    refine ev_SMV iX5_staysAway_83 kS_X5_61 (c_md_copyRow r7 65 119 63 119 A_65 A_63) rfl rfl (Nat.le_of_ble_eq_true rfl) (sg_fitL (by decide) (Nat.le_of_ble_eq_true rfl)) (fun r10 => ?_)
    refine ev_iload iX5_staysAway_86 rfl ?_
    exact ev_iret iX5_staysAway_88 rfl (fun ty _ => nar0 ty)
def md_fits_42_X (σ : sg_S)  (f1 : Int32) (f2 : Int32) (f4 : Int32) (f5 : Int32) : ((Int32 × Int32 × sg_S) ⊕ (Int32 × sg_S)) → sg_X
  | .inl a => .inr (42, [some (.ref 62), some (.int f1), some (.int f2), none, some (.int f4), some (.int f5), some (.int a.1), some (.int a.2.1)], a.2.2)
  | .inr e => .inr (96, [some (.ref 62), none, none, none, some (.int f4), some (.int f5), some (.int e.1), none], e.2)
def md_fits_42_L (σ : sg_S)  (f1 : Int32) (f2 : Int32) (f4 : Int32) (f5 : Int32) (a : (Int32 × Int32 × sg_S)) : Option ((Int32 × Int32 × sg_S) ⊕ (Int32 × sg_S)) :=
  (if a.2.1 < 64 then (if sg_in f4 119 = true then sg_let (sg_st a.2.2 63 f4.toNatClampNeg (((a.2.1 / 8) * 10) + (jrem a.2.1 8))) (fun s5 => ((md_isSo s5 f1 f2 0).bind fun r6 => (if r6.1 = 0 then sg_leti (a.1 + 0) (fun x7 => some (.inl (x7, (a.2.1 + 1), r6.2))) else sg_leti (a.1 + 1) (fun x8 => some (.inl (x8, (a.2.1 + 1), r6.2)))))) else none) else some (.inr (a.1, a.2.2)))
set_option maxRecDepth 20000 in
set_option maxHeartbeats 2000000 in
theorem e_md_fits_42_L (σ : sg_S)  (f1 : Int32) (f2 : Int32) (f4 : Int32) (f5 : Int32)  : ∀ a : (Int32 × Int32 × sg_S), Ev mX5_fits (rmL 7) 42 [some (.ref 62), some (.int f1), some (.int f2), none, some (.int f4), some (.int f5), some (.int a.1), some (.int a.2.1)] [] a.2.2 (md_fits_42_X σ  f1 f2 f4 f5) (md_fits_42_L σ  f1 f2 f4 f5 a) := by
  intro a
  unfold md_fits_42_L
  refine ev_iload iX5_fits_42 rfl ?_
  refine ev_bipush iX5_fits_44 kB_64 ?_
  refine ev_icmp_ge iX5_fits_46 ?_ ?_
  · refine ev_aload_n iX5_fits_49 rfl (by decide) rfl ?_
    refine ev_getR (k1 := 63) 5 0 iX5_fits_50 kF_X5_9 O_62 rfl (by decide) ?_
    refine ev_iload iX5_fits_53 rfl ?_
    refine ev_iload iX5_fits_55 rfl ?_
    refine ev_bipush iX5_fits_57 kB_8 ?_
    refine ev_idivK iX5_fits_59 (by decide) ?_
    refine ev_bipush iX5_fits_60 kB_10 ?_
    refine ev_imul iX5_fits_62 ?_
    refine ev_iload iX5_fits_63 rfl ?_
    refine ev_bipush iX5_fits_65 kB_8 ?_
    refine ev_iremK iX5_fits_67 (by decide) ?_
    refine ev_iadd iX5_fits_68 ?_
    refine ev_iast iX5_fits_69 A_63 ?_
    refine ev_let (fun s5 => ?_)
    refine ev_iload iX5_fits_70 rfl ?_
    refine ev_aload_n iX5_fits_72 rfl (by decide) rfl ?_
    refine ev_iload_n iX5_fits_73 rfl rfl ?_
    refine ev_iload_n iX5_fits_74 rfl rfl ?_
    refine ev_iconst iX5_fits_75 kI_0 ?_
    refine ev_VMI iX5_fits_76 kV_X5_240 (c_md_isSo s5 f1 f2 0) rc_62 rfl rfl (Nat.le_of_ble_eq_true rfl) (sg_fitL (by decide) (Nat.le_of_ble_eq_true rfl)) (fun r6 => ?_)
    refine ev_if_eq iX5_fits_79 ?_ ?_
    · refine ev_iconst iX5_fits_86 kI_0 ?_
      refine ev_iadd iX5_fits_87 ?_
      refine ev_leti (fun x7 => ?_)
      refine ev_istore (ls2 := [some (.ref 62), some (.int f1), some (.int f2), none, some (.int f4), some (.int f5), some (.int x7), some (.int a.2.1)]) iX5_fits_88 (Nat.le_of_ble_eq_true rfl) (Nat.le_of_ble_eq_true rfl) rfl rfl ?_
      refine ev_iinc (v := (a.2.1 + 1)) (ls2 := [some (.ref 62), some (.int f1), some (.int f2), none, some (.int f4), some (.int f5), some (.int x7), some (.int (a.2.1 + 1))]) iX5_fits_90 rfl (by rw [kI_1]) (Nat.le_of_ble_eq_true rfl) rfl rfl ?_
      refine ev_goto iX5_fits_93 ?_
      exact ev_exit rfl ⟨rfl, rfl, rfl, rfl, rfl, rfl, rfl, trivial⟩
    · refine ev_iconst iX5_fits_82 kI_1 ?_
      refine ev_goto iX5_fits_83 ?_
      refine ev_iadd iX5_fits_87 ?_
      refine ev_leti (fun x8 => ?_)
      refine ev_istore (ls2 := [some (.ref 62), some (.int f1), some (.int f2), none, some (.int f4), some (.int f5), some (.int x8), some (.int a.2.1)]) iX5_fits_88 (Nat.le_of_ble_eq_true rfl) (Nat.le_of_ble_eq_true rfl) rfl rfl ?_
      refine ev_iinc (v := (a.2.1 + 1)) (ls2 := [some (.ref 62), some (.int f1), some (.int f2), none, some (.int f4), some (.int f5), some (.int x8), some (.int (a.2.1 + 1))]) iX5_fits_90 rfl (by rw [kI_1]) (Nat.le_of_ble_eq_true rfl) rfl rfl ?_
      refine ev_goto iX5_fits_93 ?_
      exact ev_exit rfl ⟨rfl, rfl, rfl, rfl, rfl, rfl, rfl, trivial⟩
  · exact ev_exit rfl ⟨rfl, rfl, rfl, rfl, trivial⟩
def md_fits (σ : sg_S) (a1 : Int32) (a2 : Int32) : Option (Int32 × sg_S) :=
  ((md_isSaying σ a2).bind fun r1 => ((md_lacks σ a1 r1).bind fun r2 => (if r2 = 0 then ((md_placeNow σ).bind fun r3 => (if sg_in r3 119 = true then sg_leti (σ 63 r3.toNatClampNeg) (fun x4 => ((sg_lp (md_fits_42_L σ  a1 a2 r3 x4) 1000 (0, 0, σ)).bind fun e11 => (if sg_in r3 119 = true then sg_let (sg_st e11.2 63 r3.toNatClampNeg x4) (fun s12 => some (e11.1, s12)) else none))) else none)) else ((md_finding σ r2).bind fun r13 => some (r13.1, r13.2)))))
set_option maxRecDepth 20000 in
set_option maxHeartbeats 2000000 in
theorem c_md_fits (σ : sg_S) (a1 : Int32) (a2 : Int32)  : sg_Call yX5_fits mX5_fits (rmL 7) [.ref 62, .int a1, .int a2] σ eMI (md_fits σ a1 a2) := by
  refine sg_call_of (by decide +kernel) rfl (Nat.le_of_ble_eq_true rfl) rfl (fun _ => rfl) ?_
  refine ev_less (ls2 := [some (.ref 62), some (.int a1), some (.int a2), none, none, none, none, none]) ?_ ⟨rfl, rfl, rfl, trivial⟩
  unfold md_fits
  refine ev_aload_n iX5_fits_0 rfl (by decide) rfl ?_
  refine ev_iload_n iX5_fits_1 rfl rfl ?_
  refine ev_aload_n iX5_fits_2 rfl (by decide) rfl ?_
  refine ev_iload_n iX5_fits_3 rfl rfl ?_
  refine ev_VRI iX5_fits_4 kV_X5_131 (c_md_isSaying σ a2) rc_62 rfl rfl (Nat.le_of_ble_eq_true rfl) (sg_fitL (by decide) (Nat.le_of_ble_eq_true rfl)) (fun r1 => ?_)
  refine ev_VRI iX5_fits_7 kV_X5_236 (c_md_lacks σ a1 r1) rc_62 rfl rfl (Nat.le_of_ble_eq_true rfl) (sg_fitL (by decide) (Nat.le_of_ble_eq_true rfl)) (fun r2 => ?_)
  refine ev_istore_n (ls2 := [some (.ref 62), some (.int a1), some (.int a2), some (.int r2), none, none, none, none]) iX5_fits_10 rfl (Nat.le_of_ble_eq_true rfl) (Nat.le_of_ble_eq_true rfl) rfl rfl ?_
  refine ev_iload_n iX5_fits_11 rfl rfl ?_
  refine ev_if_eq iX5_fits_12 ?_ ?_
  · refine ev_aload_n iX5_fits_21 rfl (by decide) rfl ?_
    refine ev_VRI iX5_fits_22 kV_X5_173 (c_md_placeNow σ ) rc_62 rfl rfl (Nat.le_of_ble_eq_true rfl) (sg_fitL (by decide) (Nat.le_of_ble_eq_true rfl)) (fun r3 => ?_)
    refine ev_istore (ls2 := [some (.ref 62), some (.int a1), some (.int a2), some (.int r2), some (.int r3), none, none, none]) iX5_fits_25 (Nat.le_of_ble_eq_true rfl) (Nat.le_of_ble_eq_true rfl) rfl rfl ?_
    refine ev_aload_n iX5_fits_27 rfl (by decide) rfl ?_
    refine ev_getR (k1 := 63) 5 0 iX5_fits_28 kF_X5_9 O_62 rfl (by decide) ?_
    refine ev_iload iX5_fits_31 rfl ?_
    refine ev_iald iX5_fits_33 A_63 ?_
    refine ev_leti (fun x4 => ?_)
    refine ev_istore (ls2 := [some (.ref 62), some (.int a1), some (.int a2), some (.int r2), some (.int r3), some (.int x4), none, none]) iX5_fits_34 (Nat.le_of_ble_eq_true rfl) (Nat.le_of_ble_eq_true rfl) rfl rfl ?_
    refine ev_iconst iX5_fits_36 kI_0 ?_
    refine ev_istore (ls2 := [some (.ref 62), some (.int a1), some (.int a2), some (.int r2), some (.int r3), some (.int x4), some (.int 0), none]) iX5_fits_37 (Nat.le_of_ble_eq_true rfl) (Nat.le_of_ble_eq_true rfl) rfl rfl ?_
    refine ev_iconst iX5_fits_39 kI_0 ?_
    refine ev_istore (ls2 := [some (.ref 62), some (.int a1), some (.int a2), some (.int r2), some (.int r3), some (.int x4), some (.int 0), some (.int 0)]) iX5_fits_40 (Nat.le_of_ble_eq_true rfl) (Nat.le_of_ble_eq_true rfl) rfl rfl ?_
    refine ev_less (ls2 := [some (.ref 62), some (.int a1), some (.int a2), none, some (.int r3), some (.int x4), some (.int 0), some (.int 0)]) ?_ ⟨rfl, rfl, rfl, rfl, rfl, rfl, rfl, trivial⟩
    refine ev_seq1 96 (fun z10 => [some (.ref 62), none, none, none, some (.int r3), some (.int x4), some (.int z10.1), none]) (fun z10 => z10.2) (ev_loop (embB := md_fits_42_X σ  a1 a2 r3 x4) (ex := fun b => md_fits_42_X σ  a1 a2 r3 x4 (.inr b)) 42 (fun z9 => [some (.ref 62), some (.int a1), some (.int a2), none, some (.int r3), some (.int x4), some (.int z9.1), some (.int z9.2.1)]) (fun z9 => z9.2.2) (fun _ => rfl) (fun _ => rfl) (e_md_fits_42_L σ  a1 a2 r3 x4 ) 1000 (0, 0, σ)) (fun _ => rfl) (fun e11 => ?_)
    refine ev_aload_n iX5_fits_96 rfl (by decide) rfl ?_
    refine ev_getR (k1 := 63) 5 0 iX5_fits_97 kF_X5_9 O_62 rfl (by decide) ?_
    refine ev_iload iX5_fits_100 rfl ?_
    refine ev_iload iX5_fits_102 rfl ?_
    refine ev_iast iX5_fits_104 A_63 ?_
    refine ev_let (fun s12 => ?_)
    refine ev_iload iX5_fits_105 rfl ?_
    exact ev_iret iX5_fits_107 rfl (narI rfl _)
  · refine ev_aload_n iX5_fits_15 rfl (by decide) rfl ?_
    refine ev_iload_n iX5_fits_16 rfl rfl ?_
    refine ev_VMI iX5_fits_17 kV_X5_66 (c_md_finding σ r2) rc_62 rfl rfl (Nat.le_of_ble_eq_true rfl) (sg_fitL (by decide) (Nat.le_of_ble_eq_true rfl)) (fun r13 => ?_)
    exact ev_iret iX5_fits_20 rfl (narI rfl _)
def md_kinds_43_X (σ : sg_S)  (f1 : Int32) (f2 : Int32) (f4 : Int32) (f5 : Int32) : ((Int32 × Int32 × sg_S) ⊕ (Int32 × sg_S)) → sg_X
  | .inl a => .inr (43, [some (.ref 62), some (.int f1), some (.int f2), none, some (.int f4), some (.int f5), some (.int a.1), some (.int a.2.1)], a.2.2)
  | .inr e => .inr (88, [some (.ref 62), none, none, none, some (.int f4), some (.int f5), some (.int e.1), none], e.2)
def md_kinds_43_L (σ : sg_S)  (f1 : Int32) (f2 : Int32) (f4 : Int32) (f5 : Int32) (a : (Int32 × Int32 × sg_S)) : Option ((Int32 × Int32 × sg_S) ⊕ (Int32 × sg_S)) :=
  (if 6 < a.2.1 then some (.inr (a.1, a.2.2)) else (if sg_in f4 119 = true then sg_let (sg_st a.2.2 63 f4.toNatClampNeg a.2.1) (fun s5 => ((md_isSo s5 f1 (-1) f2).bind fun r6 => (if r6.1 = 0 then sg_leti (a.1 ||| 0) (fun x7 => some (.inl (x7, (a.2.1 + 1), r6.2))) else sg_leti (a.1 ||| (jshl 1 a.2.1)) (fun x8 => some (.inl (x8, (a.2.1 + 1), r6.2)))))) else none))
set_option maxRecDepth 20000 in
set_option maxHeartbeats 2000000 in
theorem e_md_kinds_43_L (σ : sg_S)  (f1 : Int32) (f2 : Int32) (f4 : Int32) (f5 : Int32)  : ∀ a : (Int32 × Int32 × sg_S), Ev mX5_kinds (rmL 7) 43 [some (.ref 62), some (.int f1), some (.int f2), none, some (.int f4), some (.int f5), some (.int a.1), some (.int a.2.1)] [] a.2.2 (md_kinds_43_X σ  f1 f2 f4 f5) (md_kinds_43_L σ  f1 f2 f4 f5 a) := by
  intro a
  unfold md_kinds_43_L
  refine ev_iload iX5_kinds_43 rfl ?_
  refine ev_bipush iX5_kinds_45 kB_6 ?_
  refine ev_icmp_gt iX5_kinds_47 ?_ ?_
  · exact ev_exit rfl ⟨rfl, rfl, rfl, rfl, trivial⟩
  · refine ev_aload_n iX5_kinds_50 rfl (by decide) rfl ?_
    refine ev_getR (k1 := 63) 5 0 iX5_kinds_51 kF_X5_9 O_62 rfl (by decide) ?_
    refine ev_iload iX5_kinds_54 rfl ?_
    refine ev_iload iX5_kinds_56 rfl ?_
    refine ev_iast iX5_kinds_58 A_63 ?_
    refine ev_let (fun s5 => ?_)
    refine ev_iload iX5_kinds_59 rfl ?_
    refine ev_aload_n iX5_kinds_61 rfl (by decide) rfl ?_
    refine ev_iload_n iX5_kinds_62 rfl rfl ?_
    refine ev_iconst iX5_kinds_63 kI_m1 ?_
    refine ev_iload_n iX5_kinds_64 rfl rfl ?_
    refine ev_VMI iX5_kinds_65 kV_X5_240 (c_md_isSo s5 f1 (-1) f2) rc_62 rfl rfl (Nat.le_of_ble_eq_true rfl) (sg_fitL (by decide) (Nat.le_of_ble_eq_true rfl)) (fun r6 => ?_)
    refine ev_if_eq iX5_kinds_68 ?_ ?_
    · refine ev_iconst iX5_kinds_78 kI_0 ?_
      refine ev_ior iX5_kinds_79 ?_
      refine ev_leti (fun x7 => ?_)
      refine ev_istore (ls2 := [some (.ref 62), some (.int f1), some (.int f2), none, some (.int f4), some (.int f5), some (.int x7), some (.int a.2.1)]) iX5_kinds_80 (Nat.le_of_ble_eq_true rfl) (Nat.le_of_ble_eq_true rfl) rfl rfl ?_
      refine ev_iinc (v := (a.2.1 + 1)) (ls2 := [some (.ref 62), some (.int f1), some (.int f2), none, some (.int f4), some (.int f5), some (.int x7), some (.int (a.2.1 + 1))]) iX5_kinds_82 rfl (by rw [kI_1]) (Nat.le_of_ble_eq_true rfl) rfl rfl ?_
      refine ev_goto iX5_kinds_85 ?_
      exact ev_exit rfl ⟨rfl, rfl, rfl, rfl, rfl, rfl, rfl, trivial⟩
    · refine ev_iconst iX5_kinds_71 kI_1 ?_
      refine ev_iload iX5_kinds_72 rfl ?_
      refine ev_ishl iX5_kinds_74 ?_
      refine ev_goto iX5_kinds_75 ?_
      refine ev_ior iX5_kinds_79 ?_
      refine ev_leti (fun x8 => ?_)
      refine ev_istore (ls2 := [some (.ref 62), some (.int f1), some (.int f2), none, some (.int f4), some (.int f5), some (.int x8), some (.int a.2.1)]) iX5_kinds_80 (Nat.le_of_ble_eq_true rfl) (Nat.le_of_ble_eq_true rfl) rfl rfl ?_
      refine ev_iinc (v := (a.2.1 + 1)) (ls2 := [some (.ref 62), some (.int f1), some (.int f2), none, some (.int f4), some (.int f5), some (.int x8), some (.int (a.2.1 + 1))]) iX5_kinds_82 rfl (by rw [kI_1]) (Nat.le_of_ble_eq_true rfl) rfl rfl ?_
      refine ev_goto iX5_kinds_85 ?_
      exact ev_exit rfl ⟨rfl, rfl, rfl, rfl, rfl, rfl, rfl, trivial⟩
def md_kinds (σ : sg_S) (a1 : Int32) (a2 : Int32) : Option (Int32 × sg_S) :=
  ((md_isPerson σ a2).bind fun r1 => ((md_lacks σ a1 r1).bind fun r2 => (if r2 = 0 then ((md_personAt σ a2 0).bind fun r3 => (if sg_in r3 119 = true then sg_leti (σ 63 r3.toNatClampNeg) (fun x4 => ((sg_lp (md_kinds_43_L σ  a1 a2 r3 x4) 1000 (0, 0, σ)).bind fun e11 => (if sg_in r3 119 = true then sg_let (sg_st e11.2 63 r3.toNatClampNeg x4) (fun s12 => some (e11.1, s12)) else none))) else none)) else ((md_finding σ r2).bind fun r13 => some (r13.1, r13.2)))))
set_option maxRecDepth 20000 in
set_option maxHeartbeats 2000000 in
theorem c_md_kinds (σ : sg_S) (a1 : Int32) (a2 : Int32)  : sg_Call yX5_kinds mX5_kinds (rmL 7) [.ref 62, .int a1, .int a2] σ eMI (md_kinds σ a1 a2) := by
  refine sg_call_of (by decide +kernel) rfl (Nat.le_of_ble_eq_true rfl) rfl (fun _ => rfl) ?_
  refine ev_less (ls2 := [some (.ref 62), some (.int a1), some (.int a2), none, none, none, none, none]) ?_ ⟨rfl, rfl, rfl, trivial⟩
  unfold md_kinds
  refine ev_aload_n iX5_kinds_0 rfl (by decide) rfl ?_
  refine ev_iload_n iX5_kinds_1 rfl rfl ?_
  refine ev_aload_n iX5_kinds_2 rfl (by decide) rfl ?_
  refine ev_iload_n iX5_kinds_3 rfl rfl ?_
  refine ev_VRI iX5_kinds_4 kV_X5_105 (c_md_isPerson σ a2) rc_62 rfl rfl (Nat.le_of_ble_eq_true rfl) (sg_fitL (by decide) (Nat.le_of_ble_eq_true rfl)) (fun r1 => ?_)
  refine ev_VRI iX5_kinds_7 kV_X5_236 (c_md_lacks σ a1 r1) rc_62 rfl rfl (Nat.le_of_ble_eq_true rfl) (sg_fitL (by decide) (Nat.le_of_ble_eq_true rfl)) (fun r2 => ?_)
  refine ev_istore_n (ls2 := [some (.ref 62), some (.int a1), some (.int a2), some (.int r2), none, none, none, none]) iX5_kinds_10 rfl (Nat.le_of_ble_eq_true rfl) (Nat.le_of_ble_eq_true rfl) rfl rfl ?_
  refine ev_iload_n iX5_kinds_11 rfl rfl ?_
  refine ev_if_eq iX5_kinds_12 ?_ ?_
  · refine ev_iload_n iX5_kinds_21 rfl rfl ?_
    refine ev_iconst iX5_kinds_22 kI_0 ?_
    refine ev_SRI iX5_kinds_23 kS_X5_85 (c_md_personAt σ a2 0) rfl rfl (Nat.le_of_ble_eq_true rfl) (sg_fitL (by decide) (Nat.le_of_ble_eq_true rfl)) (fun r3 => ?_)
    refine ev_istore (ls2 := [some (.ref 62), some (.int a1), some (.int a2), some (.int r2), some (.int r3), none, none, none]) iX5_kinds_26 (Nat.le_of_ble_eq_true rfl) (Nat.le_of_ble_eq_true rfl) rfl rfl ?_
    refine ev_aload_n iX5_kinds_28 rfl (by decide) rfl ?_
    refine ev_getR (k1 := 63) 5 0 iX5_kinds_29 kF_X5_9 O_62 rfl (by decide) ?_
    refine ev_iload iX5_kinds_32 rfl ?_
    refine ev_iald iX5_kinds_34 A_63 ?_
    refine ev_leti (fun x4 => ?_)
    refine ev_istore (ls2 := [some (.ref 62), some (.int a1), some (.int a2), some (.int r2), some (.int r3), some (.int x4), none, none]) iX5_kinds_35 (Nat.le_of_ble_eq_true rfl) (Nat.le_of_ble_eq_true rfl) rfl rfl ?_
    refine ev_iconst iX5_kinds_37 kI_0 ?_
    refine ev_istore (ls2 := [some (.ref 62), some (.int a1), some (.int a2), some (.int r2), some (.int r3), some (.int x4), some (.int 0), none]) iX5_kinds_38 (Nat.le_of_ble_eq_true rfl) (Nat.le_of_ble_eq_true rfl) rfl rfl ?_
    refine ev_iconst iX5_kinds_40 kI_0 ?_
    refine ev_istore (ls2 := [some (.ref 62), some (.int a1), some (.int a2), some (.int r2), some (.int r3), some (.int x4), some (.int 0), some (.int 0)]) iX5_kinds_41 (Nat.le_of_ble_eq_true rfl) (Nat.le_of_ble_eq_true rfl) rfl rfl ?_
    refine ev_less (ls2 := [some (.ref 62), some (.int a1), some (.int a2), none, some (.int r3), some (.int x4), some (.int 0), some (.int 0)]) ?_ ⟨rfl, rfl, rfl, rfl, rfl, rfl, rfl, trivial⟩
    refine ev_seq1 88 (fun z10 => [some (.ref 62), none, none, none, some (.int r3), some (.int x4), some (.int z10.1), none]) (fun z10 => z10.2) (ev_loop (embB := md_kinds_43_X σ  a1 a2 r3 x4) (ex := fun b => md_kinds_43_X σ  a1 a2 r3 x4 (.inr b)) 43 (fun z9 => [some (.ref 62), some (.int a1), some (.int a2), none, some (.int r3), some (.int x4), some (.int z9.1), some (.int z9.2.1)]) (fun z9 => z9.2.2) (fun _ => rfl) (fun _ => rfl) (e_md_kinds_43_L σ  a1 a2 r3 x4 ) 1000 (0, 0, σ)) (fun _ => rfl) (fun e11 => ?_)
    refine ev_aload_n iX5_kinds_88 rfl (by decide) rfl ?_
    refine ev_getR (k1 := 63) 5 0 iX5_kinds_89 kF_X5_9 O_62 rfl (by decide) ?_
    refine ev_iload iX5_kinds_92 rfl ?_
    refine ev_iload iX5_kinds_94 rfl ?_
    refine ev_iast iX5_kinds_96 A_63 ?_
    refine ev_let (fun s12 => ?_)
    refine ev_iload iX5_kinds_97 rfl ?_
    exact ev_iret iX5_kinds_99 rfl (narI rfl _)
  · refine ev_aload_n iX5_kinds_15 rfl (by decide) rfl ?_
    refine ev_iload_n iX5_kinds_16 rfl rfl ?_
    refine ev_VMI iX5_kinds_17 kV_X5_66 (c_md_finding σ r2) rc_62 rfl rfl (Nat.le_of_ble_eq_true rfl) (sg_fitL (by decide) (Nat.le_of_ble_eq_true rfl)) (fun r13 => ?_)
    exact ev_iret iX5_kinds_20 rfl (narI rfl _)
def md_readItem_4_X (σ : sg_S)   : ((Int32 × Int32) ⊕ Int32) → sg_X
  | .inl a => .inr (4, [some (.ref 62), some (.int a.1), some (.int a.2), none], σ)
  | .inr e => .inr (38, [some (.ref 62), some (.int e), none, none], σ)
def md_readItem_4_L (σ : sg_S)   (a : (Int32 × Int32)) : Option ((Int32 × Int32) ⊕ Int32) :=
  (if a.2 < 7 then (if sg_in a.2 7 = true then ((md_isWord σ a.2.toNatClampNeg).bind fun r2 => (if r2 = 0 then some (.inl (a.1, (a.2 + 1))) else some (.inl (a.2, (a.2 + 1))))) else none) else some (.inr a.1))
set_option maxRecDepth 20000 in
set_option maxHeartbeats 2000000 in
theorem e_md_readItem_4_L (σ : sg_S)    : ∀ a : (Int32 × Int32), Ev mX5_readItem (rmL 7) 4 [some (.ref 62), some (.int a.1), some (.int a.2), none] [] σ (md_readItem_4_X σ  ) (md_readItem_4_L σ   a) := by
  intro a
  unfold md_readItem_4_L
  refine ev_iload_n iX5_readItem_4 rfl rfl ?_
  refine ev_aload_n iX5_readItem_5 rfl (by decide) rfl ?_
  refine ev_getR (k1 := 68) 5 12 iX5_readItem_6 kF_X5_41 O_62 rfl (by decide) ?_
  refine ev_alenT (v := 7) iX5_readItem_9 rfl ?_
  refine ev_icmp_ge iX5_readItem_10 ?_ ?_
  · refine ev_aload_n iX5_readItem_13 rfl (by decide) rfl ?_
    refine ev_aload_n iX5_readItem_14 rfl (by decide) rfl ?_
    refine ev_getR (k1 := 68) 5 12 iX5_readItem_15 kF_X5_41 O_62 rfl (by decide) ?_
    refine ev_iload_n iX5_readItem_18 rfl rfl ?_
    refine ev_aaldT iX5_readItem_19 (fun h1 => ?_)
    refine ev_VRI iX5_readItem_20 kV_X5_287 (c_md_isWord σ a.2.toNatClampNeg (sg_lt7 h1)) rc_62 rfl rfl (Nat.le_of_ble_eq_true rfl) (sg_fitL (by decide) (Nat.le_of_ble_eq_true rfl)) (fun r2 => ?_)
    refine ev_if_eq iX5_readItem_23 ?_ ?_
    · refine ev_iload_n iX5_readItem_30 rfl rfl ?_
      refine ev_istore_n (ls2 := [some (.ref 62), some (.int a.1), some (.int a.2), none]) iX5_readItem_31 rfl (Nat.le_of_ble_eq_true rfl) (Nat.le_of_ble_eq_true rfl) rfl rfl ?_
      refine ev_iinc (v := (a.2 + 1)) (ls2 := [some (.ref 62), some (.int a.1), some (.int (a.2 + 1)), none]) iX5_readItem_32 rfl (by rw [kI_1]) (Nat.le_of_ble_eq_true rfl) rfl rfl ?_
      refine ev_goto iX5_readItem_35 ?_
      exact ev_exit rfl ⟨rfl, rfl, rfl, trivial⟩
    · refine ev_iload_n iX5_readItem_26 rfl rfl ?_
      refine ev_goto iX5_readItem_27 ?_
      refine ev_istore_n (ls2 := [some (.ref 62), some (.int a.2), some (.int a.2), none]) iX5_readItem_31 rfl (Nat.le_of_ble_eq_true rfl) (Nat.le_of_ble_eq_true rfl) rfl rfl ?_
      refine ev_iinc (v := (a.2 + 1)) (ls2 := [some (.ref 62), some (.int a.2), some (.int (a.2 + 1)), none]) iX5_readItem_32 rfl (by rw [kI_1]) (Nat.le_of_ble_eq_true rfl) rfl rfl ?_
      refine ev_goto iX5_readItem_35 ?_
      exact ev_exit rfl ⟨rfl, rfl, rfl, trivial⟩
  · exact ev_exit rfl ⟨rfl, rfl, trivial⟩
def md_readItem (σ : sg_S)  : Option sg_S :=
  ((sg_lp (md_readItem_4_L σ  ) 1000 ((-1), 0)).bind fun e5 => (if e5 < 0 then ((md_isWord σ 9).bind fun r6 => (if r6 = 0 then ((md_takesWord σ 10).bind fun r7 => (if r7.1 = 0 then ((md_must r7.2 0).bind fun r8 => some r8) else ((md_number r7.2 0 5).bind fun r9 => ((md_number r9.2 0 7).bind fun r10 => ((md_number r10.2 0 7).bind fun r11 => ((md_addItem r11.2 11 r9.1 r10.1 r11.1).bind fun r12 => some r12)))))) else ((md_readSaying σ).bind fun r13 => some r13))) else ((md_readPerson σ e5).bind fun r14 => some r14)))
set_option maxRecDepth 20000 in
set_option maxHeartbeats 2000000 in
theorem c_md_readItem (σ : sg_S)   : sg_Call yX5_readItem mX5_readItem (rmL 7) [.ref 62] σ eMV (md_readItem σ ) := by
  refine sg_call_of (by decide +kernel) rfl (Nat.le_of_ble_eq_true rfl) rfl (fun _ => rfl) ?_
  refine ev_less (ls2 := [some (.ref 62), none, none, none]) ?_ ⟨rfl, trivial⟩
  unfold md_readItem
  refine ev_iconst iX5_readItem_0 kI_m1 ?_
  refine ev_istore_n (ls2 := [some (.ref 62), some (.int (-1)), none, none]) iX5_readItem_1 rfl (Nat.le_of_ble_eq_true rfl) (Nat.le_of_ble_eq_true rfl) rfl rfl ?_
  refine ev_iconst iX5_readItem_2 kI_0 ?_
  refine ev_istore_n (ls2 := [some (.ref 62), some (.int (-1)), some (.int 0), none]) iX5_readItem_3 rfl (Nat.le_of_ble_eq_true rfl) (Nat.le_of_ble_eq_true rfl) rfl rfl ?_
  refine ev_less (ls2 := [some (.ref 62), some (.int (-1)), some (.int 0), none]) ?_ ⟨rfl, rfl, rfl, trivial⟩
  refine ev_seq1 38 (fun z4 => [some (.ref 62), some (.int z4), none, none]) (fun _ => σ) (ev_loop (embB := md_readItem_4_X σ  ) (ex := fun b => md_readItem_4_X σ   (.inr b)) 4 (fun z3 => [some (.ref 62), some (.int z3.1), some (.int z3.2), none]) (fun _ => σ) (fun _ => rfl) (fun _ => rfl) (e_md_readItem_4_L σ   ) 1000 ((-1), 0)) (fun _ => rfl) (fun e5 => ?_)
  refine ev_iload_n iX5_readItem_38 rfl rfl ?_
  refine ev_if_lt iX5_readItem_39 ?_ ?_
  · refine ev_aload_n iX5_readItem_50 rfl (by decide) rfl ?_
    refine ev_ldcwS (tx := "saying") (i := 9) iX5_readItem_51 (by decide +kernel) (by decide) ?_
    refine ev_VRI iX5_readItem_54 kV_X5_287 (c_md_isWord σ 9 (by decide)) rc_62 rfl rfl (Nat.le_of_ble_eq_true rfl) (sg_fitL (by decide) (Nat.le_of_ble_eq_true rfl)) (fun r6 => ?_)
    refine ev_if_eq iX5_readItem_57 ?_ ?_
    · refine ev_aload_n iX5_readItem_67 rfl (by decide) rfl ?_
      refine ev_ldcwS (tx := "talk") (i := 10) iX5_readItem_68 (by decide +kernel) (by decide) ?_
      refine ev_VMI iX5_readItem_71 kV_X5_296 (c_md_takesWord σ 10 (by decide)) rc_62 rfl rfl (Nat.le_of_ble_eq_true rfl) (sg_fitL (by decide) (Nat.le_of_ble_eq_true rfl)) (fun r7 => ?_)
      refine ev_if_eq iX5_readItem_74 ?_ ?_
      · refine ev_aload_n iX5_readItem_110 rfl (by decide) rfl ?_
        refine ev_iconst iX5_readItem_111 kI_0 ?_
        refine ev_VMV iX5_readItem_112 kV_X5_280 (c_md_must r7.2 0) rc_62 rfl rfl (Nat.le_of_ble_eq_true rfl) (sg_fitL (by decide) (Nat.le_of_ble_eq_true rfl)) (fun r8 => ?_)
        exact ev_vret iX5_readItem_115 rfl
      · refine ev_aload_n iX5_readItem_77 rfl (by decide) rfl ?_
        refine ev_iconst iX5_readItem_78 kI_0 ?_
        refine ev_iconst iX5_readItem_79 kI_5 ?_
        refine ev_VMI iX5_readItem_80 kV_X5_299 (c_md_number r7.2 0 5) rc_62 rfl rfl (Nat.le_of_ble_eq_true rfl) (sg_fitL (by decide) (Nat.le_of_ble_eq_true rfl)) (fun r9 => ?_)
        refine ev_istore_n (ls2 := [some (.ref 62), some (.int e5), some (.int r9.1), none]) iX5_readItem_83 rfl (Nat.le_of_ble_eq_true rfl) (Nat.le_of_ble_eq_true rfl) rfl rfl ?_
        refine ev_aload_n iX5_readItem_84 rfl (by decide) rfl ?_
        refine ev_iconst iX5_readItem_85 kI_0 ?_
        refine ev_bipush iX5_readItem_86 kB_7 ?_
        refine ev_VMI iX5_readItem_88 kV_X5_299 (c_md_number r9.2 0 7) rc_62 rfl rfl (Nat.le_of_ble_eq_true rfl) (sg_fitL (by decide) (Nat.le_of_ble_eq_true rfl)) (fun r10 => ?_)
        refine ev_istore_n (ls2 := [some (.ref 62), some (.int e5), some (.int r9.1), some (.int r10.1)]) iX5_readItem_91 rfl (Nat.le_of_ble_eq_true rfl) (Nat.le_of_ble_eq_true rfl) rfl rfl ?_
        refine ev_aload_n iX5_readItem_92 rfl (by decide) rfl ?_
        refine ev_bipush iX5_readItem_93 kB_11 ?_
        refine ev_iload_n iX5_readItem_95 rfl rfl ?_
        refine ev_iload_n iX5_readItem_96 rfl rfl ?_
        refine ev_aload_n iX5_readItem_97 rfl (by decide) rfl ?_
        refine ev_iconst iX5_readItem_98 kI_0 ?_
        refine ev_bipush iX5_readItem_99 kB_7 ?_
        refine ev_VMI iX5_readItem_101 kV_X5_299 (c_md_number r10.2 0 7) rc_62 rfl rfl (Nat.le_of_ble_eq_true rfl) (sg_fitL (by decide) (Nat.le_of_ble_eq_true rfl)) (fun r11 => ?_)
        refine ev_VMV iX5_readItem_104 kV_X5_304 (c_md_addItem r11.2 11 r9.1 r10.1 r11.1) rc_62 rfl rfl (Nat.le_of_ble_eq_true rfl) (sg_fitL (by decide) (Nat.le_of_ble_eq_true rfl)) (fun r12 => ?_)
        refine ev_goto iX5_readItem_107 ?_
        exact ev_vret iX5_readItem_115 rfl
    · refine ev_aload_n iX5_readItem_60 rfl (by decide) rfl ?_
      refine ev_VMV iX5_readItem_61 kV_X5_316 (c_md_readSaying σ ) rc_62 rfl rfl (Nat.le_of_ble_eq_true rfl) (sg_fitL (by decide) (Nat.le_of_ble_eq_true rfl)) (fun r13 => ?_)
      refine ev_goto iX5_readItem_64 ?_
      exact ev_vret iX5_readItem_115 rfl
  · refine ev_aload_n iX5_readItem_42 rfl (by decide) rfl ?_
    refine ev_iload_n iX5_readItem_43 rfl rfl ?_
    refine ev_VMV iX5_readItem_44 kV_X5_311 (c_md_readPerson σ e5) rc_62 rfl rfl (Nat.le_of_ble_eq_true rfl) (sg_fitL (by decide) (Nat.le_of_ble_eq_true rfl)) (fun r14 => ?_)
    refine ev_goto iX5_readItem_47 ?_
    exact ev_vret iX5_readItem_115 rfl
def md_spread (σ : sg_S) (a1 : Int32) (a2 : Int32) : Option (Int32 × sg_S) :=
  ((md_isSaying σ a1).bind fun r1 => (if r1 = 0 then ((md_finding σ (-1000001)).bind fun r2 => some (r2.1, r2.2)) else ((md_within σ a2 0 100).bind fun r3 => (if r3 = 0 then ((md_finding σ (-1000001)).bind fun r4 => some (r4.1, r4.2)) else ((md_sayingAt σ a1 2).bind fun r5 => ((md_behind σ r5 a2).bind fun r6 => some (r6.1, r6.2)))))))
set_option maxRecDepth 20000 in
set_option maxHeartbeats 2000000 in
theorem c_md_spread (σ : sg_S) (a1 : Int32) (a2 : Int32)  : sg_Call yX5_spread mX5_spread (rmL 8) [.ref 62, .int a1, .int a2] σ eMI (md_spread σ a1 a2) := by
  refine sg_call_of (by decide +kernel) rfl (Nat.le_of_ble_eq_true rfl) rfl (fun _ => rfl) ?_
  refine ev_less (ls2 := [some (.ref 62), some (.int a1), some (.int a2)]) ?_ ⟨rfl, rfl, rfl, trivial⟩
  unfold md_spread
  refine ev_aload_n iX5_spread_0 rfl (by decide) rfl ?_
  refine ev_iload_n iX5_spread_1 rfl rfl ?_
  refine ev_VRI iX5_spread_2 kV_X5_131 (c_md_isSaying σ a1) rc_62 rfl rfl (Nat.le_of_ble_eq_true rfl) (sg_fitL (by decide) (Nat.le_of_ble_eq_true rfl)) (fun r1 => ?_)
  refine ev_if_eq iX5_spread_5 ?_ ?_
  · refine ev_aload_n iX5_spread_31 rfl (by decide) rfl ?_
    refine ev_ldc iX5_spread_32 kC_X5_60 ?_
    refine ev_VMI iX5_spread_34 kV_X5_66 (c_md_finding σ (-1000001)) rc_62 rfl rfl (Nat.le_of_ble_eq_true rfl) (sg_fitL (by decide) (Nat.le_of_ble_eq_true rfl)) (fun r2 => ?_)
    exact ev_iret iX5_spread_37 rfl (narI rfl _)
  · refine ev_iload_n iX5_spread_8 rfl rfl ?_
    refine ev_iconst iX5_spread_9 kI_0 ?_
    refine ev_bipush iX5_spread_10 kB_100 ?_
    refine ev_SRI iX5_spread_12 kS_X5_70 (c_md_within σ a2 0 100) rfl rfl (Nat.le_of_ble_eq_true rfl) (sg_fitL (by decide) (Nat.le_of_ble_eq_true rfl)) (fun r3 => ?_)
    refine ev_if_eq iX5_spread_15 ?_ ?_
    · refine ev_aload_n iX5_spread_31 rfl (by decide) rfl ?_
      refine ev_ldc iX5_spread_32 kC_X5_60 ?_
      refine ev_VMI iX5_spread_34 kV_X5_66 (c_md_finding σ (-1000001)) rc_62 rfl rfl (Nat.le_of_ble_eq_true rfl) (sg_fitL (by decide) (Nat.le_of_ble_eq_true rfl)) (fun r4 => ?_)
      exact ev_iret iX5_spread_37 rfl (narI rfl _)
    · refine ev_aload_n iX5_spread_18 rfl (by decide) rfl ?_
      refine ev_iload_n iX5_spread_19 rfl rfl ?_
      refine ev_iconst iX5_spread_20 kI_2 ?_
      refine ev_SRI iX5_spread_21 kS_X5_88 (c_md_sayingAt σ a1 2) rfl rfl (Nat.le_of_ble_eq_true rfl) (sg_fitL (by decide) (Nat.le_of_ble_eq_true rfl)) (fun r5 => ?_)
      refine ev_iload_n iX5_spread_24 rfl rfl ?_
      refine ev_VMI iX5_spread_25 kV_X5_213 (c_md_behind σ r5 a2) rc_62 rfl rfl (Nat.le_of_ble_eq_true rfl) (sg_fitL (by decide) (Nat.le_of_ble_eq_true rfl)) (fun r6 => ?_)
      refine ev_goto iX5_spread_28 ?_
      exact ev_iret iX5_spread_37 rfl (narI rfl _)
def md_beginner_30_X (σ : sg_S)  (f1 : Int32) (f2 : Int32) : ((Int32 × Int32 × Int32 × sg_S) ⊕ (Int32 × sg_S)) → sg_X
  | .inl a => .inr (30, [some (.ref 62), some (.int f1), some (.int f2), some (.int a.1), some (.int a.2.1), some (.int a.2.2.1), none], a.2.2.2)
  | .inr e => .inr (71, [some (.ref 62), none, none, some (.int e.1), none, none, none], e.2)
def md_beginner_30_L (σ : sg_S)  (f1 : Int32) (f2 : Int32) (a : (Int32 × Int32 × Int32 × sg_S)) : Option ((Int32 × Int32 × Int32 × sg_S) ⊕ (Int32 × sg_S)) :=
  (if a.2.2.1 < (a.2.2.2 63 1) then ((md_spreadBy a.2.2.2 f1 a.2.2.1 f2).bind fun r5 => (if a.2.1 < r5.1 then some (.inl (a.2.2.1, r5.1, (a.2.2.1 + 1), r5.2)) else some (.inl (a.1, a.2.1, (a.2.2.1 + 1), r5.2)))) else some (.inr (a.1, a.2.2.2)))
set_option maxRecDepth 20000 in
set_option maxHeartbeats 2000000 in
theorem e_md_beginner_30_L (σ : sg_S)  (f1 : Int32) (f2 : Int32)  : ∀ a : (Int32 × Int32 × Int32 × sg_S), Ev mX5_beginner (rmL 8) 30 [some (.ref 62), some (.int f1), some (.int f2), some (.int a.1), some (.int a.2.1), some (.int a.2.2.1), none] [] a.2.2.2 (md_beginner_30_X σ  f1 f2) (md_beginner_30_L σ  f1 f2 a) := by
  intro a
  unfold md_beginner_30_L
  refine ev_iload iX5_beginner_30 rfl ?_
  refine ev_aload_n iX5_beginner_32 rfl (by decide) rfl ?_
  refine ev_getR (k1 := 63) 5 0 iX5_beginner_33 kF_X5_9 O_62 rfl (by decide) ?_
  refine ev_iconst iX5_beginner_36 kI_1 ?_
  refine ev_ialdK 1 iX5_beginner_37 A_63 rfl rfl ?_
  refine ev_icmp_ge iX5_beginner_38 ?_ ?_
  · refine ev_aload_n iX5_beginner_41 rfl (by decide) rfl ?_
    refine ev_iload_n iX5_beginner_42 rfl rfl ?_
    refine ev_iload iX5_beginner_43 rfl ?_
    refine ev_iload_n iX5_beginner_45 rfl rfl ?_
    refine ev_VMI iX5_beginner_46 kV_X5_225 (c_md_spreadBy a.2.2.2 f1 a.2.2.1 f2) rc_62 rfl rfl (Nat.le_of_ble_eq_true rfl) (sg_fitL (by decide) (Nat.le_of_ble_eq_true rfl)) (fun r5 => ?_)
    refine ev_istore (ls2 := [some (.ref 62), some (.int f1), some (.int f2), some (.int a.1), some (.int a.2.1), some (.int a.2.2.1), some (.int r5.1)]) iX5_beginner_49 (Nat.le_of_ble_eq_true rfl) (Nat.le_of_ble_eq_true rfl) rfl rfl ?_
    refine ev_iload iX5_beginner_51 rfl ?_
    refine ev_iload iX5_beginner_53 rfl ?_
    refine ev_icmp_le iX5_beginner_55 ?_ ?_
    · refine ev_iload iX5_beginner_58 rfl ?_
      refine ev_istore_n (ls2 := [some (.ref 62), some (.int f1), some (.int f2), some (.int a.2.2.1), some (.int a.2.1), some (.int a.2.2.1), some (.int r5.1)]) iX5_beginner_60 rfl (Nat.le_of_ble_eq_true rfl) (Nat.le_of_ble_eq_true rfl) rfl rfl ?_
      refine ev_iload iX5_beginner_61 rfl ?_
      refine ev_istore (ls2 := [some (.ref 62), some (.int f1), some (.int f2), some (.int a.2.2.1), some (.int r5.1), some (.int a.2.2.1), some (.int r5.1)]) iX5_beginner_63 (Nat.le_of_ble_eq_true rfl) (Nat.le_of_ble_eq_true rfl) rfl rfl ?_
      refine ev_iinc (v := (a.2.2.1 + 1)) (ls2 := [some (.ref 62), some (.int f1), some (.int f2), some (.int a.2.2.1), some (.int r5.1), some (.int (a.2.2.1 + 1)), some (.int r5.1)]) iX5_beginner_65 rfl (by rw [kI_1]) (Nat.le_of_ble_eq_true rfl) rfl rfl ?_
      refine ev_goto iX5_beginner_68 ?_
      exact ev_exit rfl ⟨rfl, rfl, rfl, rfl, rfl, rfl, trivial⟩
    · refine ev_iinc (v := (a.2.2.1 + 1)) (ls2 := [some (.ref 62), some (.int f1), some (.int f2), some (.int a.1), some (.int a.2.1), some (.int (a.2.2.1 + 1)), some (.int r5.1)]) iX5_beginner_65 rfl (by rw [kI_1]) (Nat.le_of_ble_eq_true rfl) rfl rfl ?_
      refine ev_goto iX5_beginner_68 ?_
      exact ev_exit rfl ⟨rfl, rfl, rfl, rfl, rfl, rfl, trivial⟩
  · exact ev_exit rfl ⟨rfl, rfl, trivial⟩
def md_beginner (σ : sg_S) (a1 : Int32) (a2 : Int32) : Option (Int32 × sg_S) :=
  ((md_isSaying σ a1).bind fun r1 => (if r1 = 0 then ((md_finding σ (-1000001)).bind fun r2 => some (r2.1, r2.2)) else ((md_isThought σ a2).bind fun r3 => (if r3 = 0 then ((md_finding σ (-1000001)).bind fun r4 => some (r4.1, r4.2)) else ((sg_lp (md_beginner_30_L σ  a1 a2) 1000 ((-1), (-1), 0, σ)).bind fun e8 => ((md_orNone e8.2 e8.1).bind fun r9 => some (r9.1, r9.2)))))))
set_option maxRecDepth 20000 in
set_option maxHeartbeats 2000000 in
theorem c_md_beginner (σ : sg_S) (a1 : Int32) (a2 : Int32)  : sg_Call yX5_beginner mX5_beginner (rmL 8) [.ref 62, .int a1, .int a2] σ eMI (md_beginner σ a1 a2) := by
  refine sg_call_of (by decide +kernel) rfl (Nat.le_of_ble_eq_true rfl) rfl (fun _ => rfl) ?_
  refine ev_less (ls2 := [some (.ref 62), some (.int a1), some (.int a2), none, none, none, none]) ?_ ⟨rfl, rfl, rfl, trivial⟩
  unfold md_beginner
  refine ev_aload_n iX5_beginner_0 rfl (by decide) rfl ?_
  refine ev_iload_n iX5_beginner_1 rfl rfl ?_
  refine ev_VRI iX5_beginner_2 kV_X5_131 (c_md_isSaying σ a1) rc_62 rfl rfl (Nat.le_of_ble_eq_true rfl) (sg_fitL (by decide) (Nat.le_of_ble_eq_true rfl)) (fun r1 => ?_)
  refine ev_if_eq iX5_beginner_5 ?_ ?_
  · refine ev_aload_n iX5_beginner_15 rfl (by decide) rfl ?_
    refine ev_ldc iX5_beginner_16 kC_X5_60 ?_
    refine ev_VMI iX5_beginner_18 kV_X5_66 (c_md_finding σ (-1000001)) rc_62 rfl rfl (Nat.le_of_ble_eq_true rfl) (sg_fitL (by decide) (Nat.le_of_ble_eq_true rfl)) (fun r2 => ?_)
    exact ev_iret iX5_beginner_21 rfl (narI rfl _)
  · refine ev_iload_n iX5_beginner_8 rfl rfl ?_
    refine ev_SRI iX5_beginner_9 kS_X5_222 (c_md_isThought σ a2) rfl rfl (Nat.le_of_ble_eq_true rfl) (sg_fitL (by decide) (Nat.le_of_ble_eq_true rfl)) (fun r3 => ?_)
    refine ev_if_ne iX5_beginner_12 ?_ ?_
    · refine ev_aload_n iX5_beginner_15 rfl (by decide) rfl ?_
      refine ev_ldc iX5_beginner_16 kC_X5_60 ?_
      refine ev_VMI iX5_beginner_18 kV_X5_66 (c_md_finding σ (-1000001)) rc_62 rfl rfl (Nat.le_of_ble_eq_true rfl) (sg_fitL (by decide) (Nat.le_of_ble_eq_true rfl)) (fun r4 => ?_)
      exact ev_iret iX5_beginner_21 rfl (narI rfl _)
    · refine ev_iconst iX5_beginner_22 kI_m1 ?_
      refine ev_istore_n (ls2 := [some (.ref 62), some (.int a1), some (.int a2), some (.int (-1)), none, none, none]) iX5_beginner_23 rfl (Nat.le_of_ble_eq_true rfl) (Nat.le_of_ble_eq_true rfl) rfl rfl ?_
      refine ev_iconst iX5_beginner_24 kI_m1 ?_
      refine ev_istore (ls2 := [some (.ref 62), some (.int a1), some (.int a2), some (.int (-1)), some (.int (-1)), none, none]) iX5_beginner_25 (Nat.le_of_ble_eq_true rfl) (Nat.le_of_ble_eq_true rfl) rfl rfl ?_
      refine ev_iconst iX5_beginner_27 kI_0 ?_
      refine ev_istore (ls2 := [some (.ref 62), some (.int a1), some (.int a2), some (.int (-1)), some (.int (-1)), some (.int 0), none]) iX5_beginner_28 (Nat.le_of_ble_eq_true rfl) (Nat.le_of_ble_eq_true rfl) rfl rfl ?_
      refine ev_less (ls2 := [some (.ref 62), some (.int a1), some (.int a2), some (.int (-1)), some (.int (-1)), some (.int 0), none]) ?_ ⟨rfl, rfl, rfl, rfl, rfl, rfl, trivial⟩
      refine ev_seq1 71 (fun z7 => [some (.ref 62), none, none, some (.int z7.1), none, none, none]) (fun z7 => z7.2) (ev_loop (embB := md_beginner_30_X σ  a1 a2) (ex := fun b => md_beginner_30_X σ  a1 a2 (.inr b)) 30 (fun z6 => [some (.ref 62), some (.int a1), some (.int a2), some (.int z6.1), some (.int z6.2.1), some (.int z6.2.2.1), none]) (fun z6 => z6.2.2.2) (fun _ => rfl) (fun _ => rfl) (e_md_beginner_30_L σ  a1 a2 ) 1000 ((-1), (-1), 0, σ)) (fun _ => rfl) (fun e8 => ?_)
      refine ev_aload_n iX5_beginner_71 rfl (by decide) rfl ?_
      refine ev_iload_n iX5_beginner_72 rfl rfl ?_
      refine ev_VMI iX5_beginner_73 kV_X5_216 (c_md_orNone e8.2 e8.1) rc_62 rfl rfl (Nat.le_of_ble_eq_true rfl) (sg_fitL (by decide) (Nat.le_of_ble_eq_true rfl)) (fun r9 => ?_)
      exact ev_iret iX5_beginner_76 rfl (narI rfl _)
def md_kindFor_47_X (σ : sg_S)  (f1 : Int32) (f2 : Int32) (f3 : Int32) (f4 : Int32) : ((Int32 × Int32 × Int32 × sg_S) ⊕ (Int32 × sg_S)) → sg_X
  | .inl a => .inr (47, [some (.ref 62), some (.int f1), some (.int f2), some (.int f3), some (.int f4), some (.int a.1), some (.int a.2.1), some (.int a.2.2.1), none], a.2.2.2)
  | .inr e => .inr (95, [some (.ref 62), none, none, some (.int f3), some (.int f4), some (.int e.1), none, none, none], e.2)
def md_kindFor_47_L (σ : sg_S)  (f1 : Int32) (f2 : Int32) (f3 : Int32) (f4 : Int32) (a : (Int32 × Int32 × Int32 × sg_S)) : Option ((Int32 × Int32 × Int32 × sg_S) ⊕ (Int32 × sg_S)) :=
  (if 6 < a.2.2.1 then some (.inr (a.1, a.2.2.2)) else (if sg_in f3 119 = true then sg_let (sg_st a.2.2.2 63 f3.toNatClampNeg a.2.2.1) (fun s7 => ((md_personAt s7 f1 3).bind fun r8 => ((md_behind s7 r8 f2).bind fun r9 => (if r9.1 < a.2.1 then some (.inl (a.2.2.1, r9.1, (a.2.2.1 + 1), r9.2)) else some (.inl (a.1, a.2.1, (a.2.2.1 + 1), r9.2)))))) else none))
set_option maxRecDepth 20000 in
set_option maxHeartbeats 2000000 in
theorem e_md_kindFor_47_L (σ : sg_S)  (f1 : Int32) (f2 : Int32) (f3 : Int32) (f4 : Int32)  : ∀ a : (Int32 × Int32 × Int32 × sg_S), Ev mX5_kindFor (rmL 8) 47 [some (.ref 62), some (.int f1), some (.int f2), some (.int f3), some (.int f4), some (.int a.1), some (.int a.2.1), some (.int a.2.2.1), none] [] a.2.2.2 (md_kindFor_47_X σ  f1 f2 f3 f4) (md_kindFor_47_L σ  f1 f2 f3 f4 a) := by
  intro a
  unfold md_kindFor_47_L
  refine ev_iload iX5_kindFor_47 rfl ?_
  refine ev_bipush iX5_kindFor_49 kB_6 ?_
  refine ev_icmp_gt iX5_kindFor_51 ?_ ?_
  · exact ev_exit rfl ⟨rfl, rfl, rfl, rfl, trivial⟩
  · refine ev_aload_n iX5_kindFor_54 rfl (by decide) rfl ?_
    refine ev_getR (k1 := 63) 5 0 iX5_kindFor_55 kF_X5_9 O_62 rfl (by decide) ?_
    refine ev_iload_n iX5_kindFor_58 rfl rfl ?_
    refine ev_iload iX5_kindFor_59 rfl ?_
    refine ev_iast iX5_kindFor_61 A_63 ?_
    refine ev_let (fun s7 => ?_)
    refine ev_aload_n iX5_kindFor_62 rfl (by decide) rfl ?_
    refine ev_iload_n iX5_kindFor_63 rfl rfl ?_
    refine ev_iconst iX5_kindFor_64 kI_3 ?_
    refine ev_SRI iX5_kindFor_65 kS_X5_85 (c_md_personAt s7 f1 3) rfl rfl (Nat.le_of_ble_eq_true rfl) (sg_fitL (by decide) (Nat.le_of_ble_eq_true rfl)) (fun r8 => ?_)
    refine ev_iload_n iX5_kindFor_68 rfl rfl ?_
    refine ev_VMI iX5_kindFor_69 kV_X5_213 (c_md_behind s7 r8 f2) rc_62 rfl rfl (Nat.le_of_ble_eq_true rfl) (sg_fitL (by decide) (Nat.le_of_ble_eq_true rfl)) (fun r9 => ?_)
    refine ev_istore (ls2 := [some (.ref 62), some (.int f1), some (.int f2), some (.int f3), some (.int f4), some (.int a.1), some (.int a.2.1), some (.int a.2.2.1), some (.int r9.1)]) iX5_kindFor_72 (Nat.le_of_ble_eq_true rfl) (Nat.le_of_ble_eq_true rfl) rfl rfl ?_
    refine ev_iload iX5_kindFor_74 rfl ?_
    refine ev_iload iX5_kindFor_76 rfl ?_
    refine ev_icmp_ge iX5_kindFor_78 ?_ ?_
    · refine ev_iload iX5_kindFor_81 rfl ?_
      refine ev_istore (ls2 := [some (.ref 62), some (.int f1), some (.int f2), some (.int f3), some (.int f4), some (.int a.2.2.1), some (.int a.2.1), some (.int a.2.2.1), some (.int r9.1)]) iX5_kindFor_83 (Nat.le_of_ble_eq_true rfl) (Nat.le_of_ble_eq_true rfl) rfl rfl ?_
      refine ev_iload iX5_kindFor_85 rfl ?_
      refine ev_istore (ls2 := [some (.ref 62), some (.int f1), some (.int f2), some (.int f3), some (.int f4), some (.int a.2.2.1), some (.int r9.1), some (.int a.2.2.1), some (.int r9.1)]) iX5_kindFor_87 (Nat.le_of_ble_eq_true rfl) (Nat.le_of_ble_eq_true rfl) rfl rfl ?_
      refine ev_iinc (v := (a.2.2.1 + 1)) (ls2 := [some (.ref 62), some (.int f1), some (.int f2), some (.int f3), some (.int f4), some (.int a.2.2.1), some (.int r9.1), some (.int (a.2.2.1 + 1)), some (.int r9.1)]) iX5_kindFor_89 rfl (by rw [kI_1]) (Nat.le_of_ble_eq_true rfl) rfl rfl ?_
      refine ev_goto iX5_kindFor_92 ?_
      exact ev_exit rfl ⟨rfl, rfl, rfl, rfl, rfl, rfl, rfl, rfl, trivial⟩
    · refine ev_iinc (v := (a.2.2.1 + 1)) (ls2 := [some (.ref 62), some (.int f1), some (.int f2), some (.int f3), some (.int f4), some (.int a.1), some (.int a.2.1), some (.int (a.2.2.1 + 1)), some (.int r9.1)]) iX5_kindFor_89 rfl (by rw [kI_1]) (Nat.le_of_ble_eq_true rfl) rfl rfl ?_
      refine ev_goto iX5_kindFor_92 ?_
      exact ev_exit rfl ⟨rfl, rfl, rfl, rfl, rfl, rfl, rfl, rfl, trivial⟩
def md_kindFor (σ : sg_S) (a1 : Int32) (a2 : Int32) : Option (Int32 × sg_S) :=
  ((md_isPerson σ a1).bind fun r1 => (if r1 = 0 then ((md_finding σ (-1000001)).bind fun r2 => some (r2.1, r2.2)) else ((md_isThought σ a2).bind fun r3 => (if r3 = 0 then ((md_finding σ (-1000001)).bind fun r4 => some (r4.1, r4.2)) else ((md_personAt σ a1 0).bind fun r5 => (if sg_in r5 119 = true then sg_leti (σ 63 r5.toNatClampNeg) (fun x6 => ((sg_lp (md_kindFor_47_L σ  a1 a2 r5 x6) 1000 (0, 10000, 0, σ)).bind fun e12 => (if sg_in r5 119 = true then sg_let (sg_st e12.2 63 r5.toNatClampNeg x6) (fun s13 => some (e12.1, s13)) else none))) else none))))))
set_option maxRecDepth 20000 in
set_option maxHeartbeats 2000000 in
theorem c_md_kindFor (σ : sg_S) (a1 : Int32) (a2 : Int32)  : sg_Call yX5_kindFor mX5_kindFor (rmL 8) [.ref 62, .int a1, .int a2] σ eMI (md_kindFor σ a1 a2) := by
  refine sg_call_of (by decide +kernel) rfl (Nat.le_of_ble_eq_true rfl) rfl (fun _ => rfl) ?_
  refine ev_less (ls2 := [some (.ref 62), some (.int a1), some (.int a2), none, none, none, none, none, none]) ?_ ⟨rfl, rfl, rfl, trivial⟩
  unfold md_kindFor
  refine ev_aload_n iX5_kindFor_0 rfl (by decide) rfl ?_
  refine ev_iload_n iX5_kindFor_1 rfl rfl ?_
  refine ev_VRI iX5_kindFor_2 kV_X5_105 (c_md_isPerson σ a1) rc_62 rfl rfl (Nat.le_of_ble_eq_true rfl) (sg_fitL (by decide) (Nat.le_of_ble_eq_true rfl)) (fun r1 => ?_)
  refine ev_if_eq iX5_kindFor_5 ?_ ?_
  · refine ev_aload_n iX5_kindFor_15 rfl (by decide) rfl ?_
    refine ev_ldc iX5_kindFor_16 kC_X5_60 ?_
    refine ev_VMI iX5_kindFor_18 kV_X5_66 (c_md_finding σ (-1000001)) rc_62 rfl rfl (Nat.le_of_ble_eq_true rfl) (sg_fitL (by decide) (Nat.le_of_ble_eq_true rfl)) (fun r2 => ?_)
    exact ev_iret iX5_kindFor_21 rfl (narI rfl _)
  · refine ev_iload_n iX5_kindFor_8 rfl rfl ?_
    refine ev_SRI iX5_kindFor_9 kS_X5_222 (c_md_isThought σ a2) rfl rfl (Nat.le_of_ble_eq_true rfl) (sg_fitL (by decide) (Nat.le_of_ble_eq_true rfl)) (fun r3 => ?_)
    refine ev_if_ne iX5_kindFor_12 ?_ ?_
    · refine ev_aload_n iX5_kindFor_15 rfl (by decide) rfl ?_
      refine ev_ldc iX5_kindFor_16 kC_X5_60 ?_
      refine ev_VMI iX5_kindFor_18 kV_X5_66 (c_md_finding σ (-1000001)) rc_62 rfl rfl (Nat.le_of_ble_eq_true rfl) (sg_fitL (by decide) (Nat.le_of_ble_eq_true rfl)) (fun r4 => ?_)
      exact ev_iret iX5_kindFor_21 rfl (narI rfl _)
    · refine ev_iload_n iX5_kindFor_22 rfl rfl ?_
      refine ev_iconst iX5_kindFor_23 kI_0 ?_
      refine ev_SRI iX5_kindFor_24 kS_X5_85 (c_md_personAt σ a1 0) rfl rfl (Nat.le_of_ble_eq_true rfl) (sg_fitL (by decide) (Nat.le_of_ble_eq_true rfl)) (fun r5 => ?_)
      refine ev_istore_n (ls2 := [some (.ref 62), some (.int a1), some (.int a2), some (.int r5), none, none, none, none, none]) iX5_kindFor_27 rfl (Nat.le_of_ble_eq_true rfl) (Nat.le_of_ble_eq_true rfl) rfl rfl ?_
      refine ev_aload_n iX5_kindFor_28 rfl (by decide) rfl ?_
      refine ev_getR (k1 := 63) 5 0 iX5_kindFor_29 kF_X5_9 O_62 rfl (by decide) ?_
      refine ev_iload_n iX5_kindFor_32 rfl rfl ?_
      refine ev_iald iX5_kindFor_33 A_63 ?_
      refine ev_leti (fun x6 => ?_)
      refine ev_istore (ls2 := [some (.ref 62), some (.int a1), some (.int a2), some (.int r5), some (.int x6), none, none, none, none]) iX5_kindFor_34 (Nat.le_of_ble_eq_true rfl) (Nat.le_of_ble_eq_true rfl) rfl rfl ?_
      refine ev_iconst iX5_kindFor_36 kI_0 ?_
      refine ev_istore (ls2 := [some (.ref 62), some (.int a1), some (.int a2), some (.int r5), some (.int x6), some (.int 0), none, none, none]) iX5_kindFor_37 (Nat.le_of_ble_eq_true rfl) (Nat.le_of_ble_eq_true rfl) rfl rfl ?_
      refine ev_sipush iX5_kindFor_39 kH_10000 ?_
      refine ev_istore (ls2 := [some (.ref 62), some (.int a1), some (.int a2), some (.int r5), some (.int x6), some (.int 0), some (.int 10000), none, none]) iX5_kindFor_42 (Nat.le_of_ble_eq_true rfl) (Nat.le_of_ble_eq_true rfl) rfl rfl ?_
      refine ev_iconst iX5_kindFor_44 kI_0 ?_
      refine ev_istore (ls2 := [some (.ref 62), some (.int a1), some (.int a2), some (.int r5), some (.int x6), some (.int 0), some (.int 10000), some (.int 0), none]) iX5_kindFor_45 (Nat.le_of_ble_eq_true rfl) (Nat.le_of_ble_eq_true rfl) rfl rfl ?_
      refine ev_less (ls2 := [some (.ref 62), some (.int a1), some (.int a2), some (.int r5), some (.int x6), some (.int 0), some (.int 10000), some (.int 0), none]) ?_ ⟨rfl, rfl, rfl, rfl, rfl, rfl, rfl, rfl, trivial⟩
      refine ev_seq1 95 (fun z11 => [some (.ref 62), none, none, some (.int r5), some (.int x6), some (.int z11.1), none, none, none]) (fun z11 => z11.2) (ev_loop (embB := md_kindFor_47_X σ  a1 a2 r5 x6) (ex := fun b => md_kindFor_47_X σ  a1 a2 r5 x6 (.inr b)) 47 (fun z10 => [some (.ref 62), some (.int a1), some (.int a2), some (.int r5), some (.int x6), some (.int z10.1), some (.int z10.2.1), some (.int z10.2.2.1), none]) (fun z10 => z10.2.2.2) (fun _ => rfl) (fun _ => rfl) (e_md_kindFor_47_L σ  a1 a2 r5 x6 ) 1000 (0, 10000, 0, σ)) (fun _ => rfl) (fun e12 => ?_)
      refine ev_aload_n iX5_kindFor_95 rfl (by decide) rfl ?_
      refine ev_getR (k1 := 63) 5 0 iX5_kindFor_96 kF_X5_9 O_62 rfl (by decide) ?_
      refine ev_iload_n iX5_kindFor_99 rfl rfl ?_
      refine ev_iload iX5_kindFor_100 rfl ?_
      refine ev_iast iX5_kindFor_102 A_63 ?_
      refine ev_let (fun s13 => ?_)
      refine ev_iload iX5_kindFor_103 rfl ?_
      exact ev_iret iX5_kindFor_105 rfl (narI rfl _)
def md_trustFor_53_X (σ : sg_S)  (f1 : Int32) (f2 : Int32) (f3 : Int32) (f4 : Int32) (f5 : Int32) : ((Int32 × Int32 × sg_S) ⊕ (Int32 × sg_S)) → sg_X
  | .inl a => .inr (53, [some (.ref 62), some (.int f1), some (.int f2), some (.int f3), some (.int f4), some (.int f5), some (.int a.1), some (.int a.2.1)], a.2.2)
  | .inr e => .inr (100, [some (.ref 62), none, none, none, some (.int f4), some (.int f5), some (.int e.1), none], e.2)
def md_trustFor_53_L (σ : sg_S)  (f1 : Int32) (f2 : Int32) (f3 : Int32) (f4 : Int32) (f5 : Int32) (a : (Int32 × Int32 × sg_S)) : Option ((Int32 × Int32 × sg_S) ⊕ (Int32 × sg_S)) :=
  (if a.2.1 < 0 then some (.inr (a.1, a.2.2)) else (if sg_in f4 119 = true then sg_let (sg_st a.2.2 63 f4.toNatClampNeg a.2.1) (fun s9 => ((md_sayingAt s9 f1 2).bind fun r10 => ((md_behind s9 r10 f3).bind fun r11 => (if ((jshr r11.1 f2) &&& 1) = 1 then (sg_leti (a.2.1 + (-1)) (fun x12 => some (.inl (a.2.1, x12, r11.2)))) else (sg_leti (a.2.1 + (-1)) (fun x13 => some (.inl (a.1, x13, r11.2)))))))) else none))
set_option maxRecDepth 20000 in
set_option maxHeartbeats 2000000 in
theorem e_md_trustFor_53_L (σ : sg_S)  (f1 : Int32) (f2 : Int32) (f3 : Int32) (f4 : Int32) (f5 : Int32)  : ∀ a : (Int32 × Int32 × sg_S), Ev mX5_trustFor (rmL 8) 53 [some (.ref 62), some (.int f1), some (.int f2), some (.int f3), some (.int f4), some (.int f5), some (.int a.1), some (.int a.2.1)] [] a.2.2 (md_trustFor_53_X σ  f1 f2 f3 f4 f5) (md_trustFor_53_L σ  f1 f2 f3 f4 f5 a) := by
  intro a
  unfold md_trustFor_53_L
  refine ev_iload iX5_trustFor_53 rfl ?_
  refine ev_if_lt iX5_trustFor_55 ?_ ?_
  · exact ev_exit rfl ⟨rfl, rfl, rfl, rfl, trivial⟩
  · refine ev_aload_n iX5_trustFor_58 rfl (by decide) rfl ?_
    refine ev_getR (k1 := 63) 5 0 iX5_trustFor_59 kF_X5_9 O_62 rfl (by decide) ?_
    refine ev_iload iX5_trustFor_62 rfl ?_
    refine ev_iload iX5_trustFor_64 rfl ?_
    refine ev_iast iX5_trustFor_66 A_63 ?_
    refine ev_let (fun s9 => ?_)
    refine ev_aload_n iX5_trustFor_67 rfl (by decide) rfl ?_
    refine ev_iload_n iX5_trustFor_68 rfl rfl ?_
    refine ev_iconst iX5_trustFor_69 kI_2 ?_
    refine ev_SRI iX5_trustFor_70 kS_X5_88 (c_md_sayingAt s9 f1 2) rfl rfl (Nat.le_of_ble_eq_true rfl) (sg_fitL (by decide) (Nat.le_of_ble_eq_true rfl)) (fun r10 => ?_)
    refine ev_iload_n iX5_trustFor_73 rfl rfl ?_
    refine ev_VMI iX5_trustFor_74 kV_X5_213 (c_md_behind s9 r10 f3) rc_62 rfl rfl (Nat.le_of_ble_eq_true rfl) (sg_fitL (by decide) (Nat.le_of_ble_eq_true rfl)) (fun r11 => ?_)
    refine ev_iload_n iX5_trustFor_77 rfl rfl ?_
    refine ev_ishr iX5_trustFor_78 ?_
    refine ev_iconst iX5_trustFor_79 kI_1 ?_
    refine ev_iand iX5_trustFor_80 ?_
    refine ev_iconst iX5_trustFor_81 kI_1 ?_
    refine ev_icmp_ne iX5_trustFor_82 ?_ ?_
    · refine ev_iload iX5_trustFor_85 rfl ?_
      refine ev_goto iX5_trustFor_87 ?_
      refine ev_istore (ls2 := [some (.ref 62), some (.int f1), some (.int f2), some (.int f3), some (.int f4), some (.int f5), some (.int a.2.1), some (.int a.2.1)]) iX5_trustFor_92 (Nat.le_of_ble_eq_true rfl) (Nat.le_of_ble_eq_true rfl) rfl rfl ?_
      refine ev_iincN (fun x12 => [some (.ref 62), some (.int f1), some (.int f2), some (.int f3), some (.int f4), some (.int f5), some (.int a.2.1), some (.int x12)]) iX5_trustFor_94 rfl kI_m1 (Nat.le_of_ble_eq_true rfl) rfl (fun _ => rfl) (fun x12 => ?_)
      refine ev_goto iX5_trustFor_97 ?_
      exact ev_exit rfl ⟨rfl, rfl, rfl, rfl, rfl, rfl, rfl, rfl, trivial⟩
    · refine ev_iload iX5_trustFor_90 rfl ?_
      refine ev_istore (ls2 := [some (.ref 62), some (.int f1), some (.int f2), some (.int f3), some (.int f4), some (.int f5), some (.int a.1), some (.int a.2.1)]) iX5_trustFor_92 (Nat.le_of_ble_eq_true rfl) (Nat.le_of_ble_eq_true rfl) rfl rfl ?_
      refine ev_iincN (fun x13 => [some (.ref 62), some (.int f1), some (.int f2), some (.int f3), some (.int f4), some (.int f5), some (.int a.1), some (.int x13)]) iX5_trustFor_94 rfl kI_m1 (Nat.le_of_ble_eq_true rfl) rfl (fun _ => rfl) (fun x13 => ?_)
      refine ev_goto iX5_trustFor_97 ?_
      exact ev_exit rfl ⟨rfl, rfl, rfl, rfl, rfl, rfl, rfl, rfl, trivial⟩
def md_trustFor (σ : sg_S) (a1 : Int32) (a2 : Int32) (a3 : Int32) : Option (Int32 × sg_S) :=
  ((md_isSaying σ a1).bind fun r1 => (if r1 = 0 then ((md_finding σ (-1000001)).bind fun r2 => some (r2.1, r2.2)) else ((md_isPerson σ a2).bind fun r3 => (if r3 = 0 then ((md_finding σ (-1000001)).bind fun r4 => some (r4.1, r4.2)) else ((md_isThought σ a3).bind fun r5 => (if r5 = 0 then ((md_finding σ (-1000001)).bind fun r6 => some (r6.1, r6.2)) else ((md_personAt σ a2 1).bind fun r7 => (if sg_in r7 119 = true then sg_leti (σ 63 r7.toNatClampNeg) (fun x8 => ((sg_lp (md_trustFor_53_L σ  a1 a2 a3 r7 x8) 1000 ((-1), 9, σ)).bind fun e16 => (if sg_in r7 119 = true then sg_let (sg_st e16.2 63 r7.toNatClampNeg x8) (fun s17 => ((md_orNone s17 e16.1).bind fun r18 => some (r18.1, r18.2))) else none))) else none))))))))
set_option maxRecDepth 20000 in
set_option maxHeartbeats 2000000 in
theorem c_md_trustFor (σ : sg_S) (a1 : Int32) (a2 : Int32) (a3 : Int32)  : sg_Call yX5_trustFor mX5_trustFor (rmL 8) [.ref 62, .int a1, .int a2, .int a3] σ eMI (md_trustFor σ a1 a2 a3) := by
  refine sg_call_of (by decide +kernel) rfl (Nat.le_of_ble_eq_true rfl) rfl (fun _ => rfl) ?_
  refine ev_less (ls2 := [some (.ref 62), some (.int a1), some (.int a2), some (.int a3), none, none, none, none]) ?_ ⟨rfl, rfl, rfl, rfl, trivial⟩
  unfold md_trustFor
  refine ev_aload_n iX5_trustFor_0 rfl (by decide) rfl ?_
  refine ev_iload_n iX5_trustFor_1 rfl rfl ?_
  refine ev_VRI iX5_trustFor_2 kV_X5_131 (c_md_isSaying σ a1) rc_62 rfl rfl (Nat.le_of_ble_eq_true rfl) (sg_fitL (by decide) (Nat.le_of_ble_eq_true rfl)) (fun r1 => ?_)
  refine ev_if_eq iX5_trustFor_5 ?_ ?_
  · refine ev_aload_n iX5_trustFor_23 rfl (by decide) rfl ?_
    refine ev_ldc iX5_trustFor_24 kC_X5_60 ?_
    refine ev_VMI iX5_trustFor_26 kV_X5_66 (c_md_finding σ (-1000001)) rc_62 rfl rfl (Nat.le_of_ble_eq_true rfl) (sg_fitL (by decide) (Nat.le_of_ble_eq_true rfl)) (fun r2 => ?_)
    exact ev_iret iX5_trustFor_29 rfl (narI rfl _)
  · refine ev_aload_n iX5_trustFor_8 rfl (by decide) rfl ?_
    refine ev_iload_n iX5_trustFor_9 rfl rfl ?_
    refine ev_VRI iX5_trustFor_10 kV_X5_105 (c_md_isPerson σ a2) rc_62 rfl rfl (Nat.le_of_ble_eq_true rfl) (sg_fitL (by decide) (Nat.le_of_ble_eq_true rfl)) (fun r3 => ?_)
    refine ev_if_eq iX5_trustFor_13 ?_ ?_
    · refine ev_aload_n iX5_trustFor_23 rfl (by decide) rfl ?_
      refine ev_ldc iX5_trustFor_24 kC_X5_60 ?_
      refine ev_VMI iX5_trustFor_26 kV_X5_66 (c_md_finding σ (-1000001)) rc_62 rfl rfl (Nat.le_of_ble_eq_true rfl) (sg_fitL (by decide) (Nat.le_of_ble_eq_true rfl)) (fun r4 => ?_)
      exact ev_iret iX5_trustFor_29 rfl (narI rfl _)
    · refine ev_iload_n iX5_trustFor_16 rfl rfl ?_
      refine ev_SRI iX5_trustFor_17 kS_X5_222 (c_md_isThought σ a3) rfl rfl (Nat.le_of_ble_eq_true rfl) (sg_fitL (by decide) (Nat.le_of_ble_eq_true rfl)) (fun r5 => ?_)
      refine ev_if_ne iX5_trustFor_20 ?_ ?_
      · refine ev_aload_n iX5_trustFor_23 rfl (by decide) rfl ?_
        refine ev_ldc iX5_trustFor_24 kC_X5_60 ?_
        refine ev_VMI iX5_trustFor_26 kV_X5_66 (c_md_finding σ (-1000001)) rc_62 rfl rfl (Nat.le_of_ble_eq_true rfl) (sg_fitL (by decide) (Nat.le_of_ble_eq_true rfl)) (fun r6 => ?_)
        exact ev_iret iX5_trustFor_29 rfl (narI rfl _)
      · refine ev_iload_n iX5_trustFor_30 rfl rfl ?_
        refine ev_iconst iX5_trustFor_31 kI_1 ?_
        refine ev_SRI iX5_trustFor_32 kS_X5_85 (c_md_personAt σ a2 1) rfl rfl (Nat.le_of_ble_eq_true rfl) (sg_fitL (by decide) (Nat.le_of_ble_eq_true rfl)) (fun r7 => ?_)
        refine ev_istore (ls2 := [some (.ref 62), some (.int a1), some (.int a2), some (.int a3), some (.int r7), none, none, none]) iX5_trustFor_35 (Nat.le_of_ble_eq_true rfl) (Nat.le_of_ble_eq_true rfl) rfl rfl ?_
        refine ev_aload_n iX5_trustFor_37 rfl (by decide) rfl ?_
        refine ev_getR (k1 := 63) 5 0 iX5_trustFor_38 kF_X5_9 O_62 rfl (by decide) ?_
        refine ev_iload iX5_trustFor_41 rfl ?_
        refine ev_iald iX5_trustFor_43 A_63 ?_
        refine ev_leti (fun x8 => ?_)
        refine ev_istore (ls2 := [some (.ref 62), some (.int a1), some (.int a2), some (.int a3), some (.int r7), some (.int x8), none, none]) iX5_trustFor_44 (Nat.le_of_ble_eq_true rfl) (Nat.le_of_ble_eq_true rfl) rfl rfl ?_
        refine ev_iconst iX5_trustFor_46 kI_m1 ?_
        refine ev_istore (ls2 := [some (.ref 62), some (.int a1), some (.int a2), some (.int a3), some (.int r7), some (.int x8), some (.int (-1)), none]) iX5_trustFor_47 (Nat.le_of_ble_eq_true rfl) (Nat.le_of_ble_eq_true rfl) rfl rfl ?_
        refine ev_bipush iX5_trustFor_49 kB_9 ?_
        refine ev_istore (ls2 := [some (.ref 62), some (.int a1), some (.int a2), some (.int a3), some (.int r7), some (.int x8), some (.int (-1)), some (.int 9)]) iX5_trustFor_51 (Nat.le_of_ble_eq_true rfl) (Nat.le_of_ble_eq_true rfl) rfl rfl ?_
        refine ev_less (ls2 := [some (.ref 62), some (.int a1), some (.int a2), some (.int a3), some (.int r7), some (.int x8), some (.int (-1)), some (.int 9)]) ?_ ⟨rfl, rfl, rfl, rfl, rfl, rfl, rfl, rfl, trivial⟩
        refine ev_seq1 100 (fun z15 => [some (.ref 62), none, none, none, some (.int r7), some (.int x8), some (.int z15.1), none]) (fun z15 => z15.2) (ev_loop (embB := md_trustFor_53_X σ  a1 a2 a3 r7 x8) (ex := fun b => md_trustFor_53_X σ  a1 a2 a3 r7 x8 (.inr b)) 53 (fun z14 => [some (.ref 62), some (.int a1), some (.int a2), some (.int a3), some (.int r7), some (.int x8), some (.int z14.1), some (.int z14.2.1)]) (fun z14 => z14.2.2) (fun _ => rfl) (fun _ => rfl) (e_md_trustFor_53_L σ  a1 a2 a3 r7 x8 ) 1000 ((-1), 9, σ)) (fun _ => rfl) (fun e16 => ?_)
        refine ev_aload_n iX5_trustFor_100 rfl (by decide) rfl ?_
        refine ev_getR (k1 := 63) 5 0 iX5_trustFor_101 kF_X5_9 O_62 rfl (by decide) ?_
        refine ev_iload iX5_trustFor_104 rfl ?_
        refine ev_iload iX5_trustFor_106 rfl ?_
        refine ev_iast iX5_trustFor_108 A_63 ?_
        refine ev_let (fun s17 => ?_)
        refine ev_aload_n iX5_trustFor_109 rfl (by decide) rfl ?_
        refine ev_iload iX5_trustFor_110 rfl ?_
        refine ev_VMI iX5_trustFor_112 kV_X5_216 (c_md_orNone s17 e16.1) rc_62 rfl rfl (Nat.le_of_ble_eq_true rfl) (sg_fitL (by decide) (Nat.le_of_ble_eq_true rfl)) (fun r18 => ?_)
        exact ev_iret iX5_trustFor_115 rfl (narI rfl _)
def md_weightFor_42_X (σ : sg_S)  (f1 : Int32) (f2 : Int32) (f3 : Int32) (f4 : Int32) : ((Int32 × Int32 × sg_S) ⊕ (Int32 × sg_S)) → sg_X
  | .inl a => .inr (42, [some (.ref 62), some (.int f1), some (.int f2), some (.int f3), some (.int f4), some (.int a.1), some (.int a.2.1)], a.2.2)
  | .inr e => .inr (95, [some (.ref 62), none, none, some (.int f3), some (.int f4), some (.int e.1), none], e.2)
def md_weightFor_42_L (σ : sg_S)  (f1 : Int32) (f2 : Int32) (f3 : Int32) (f4 : Int32) (a : (Int32 × Int32 × sg_S)) : Option ((Int32 × Int32 × sg_S) ⊕ (Int32 × sg_S)) :=
  (if 9 < a.2.1 then some (.inr (a.1, a.2.2)) else (if sg_in f3 119 = true then sg_let (sg_st a.2.2 63 f3.toNatClampNeg a.2.1) (fun s7 => ((md_sayingAt s7 f1 2).bind fun r8 => ((md_behind s7 r8 f2).bind fun r9 => (if r9.1 = ((jshl 1 (r9.2 63 1)) - 1) then some (.inl (a.2.1, (a.2.1 + 1), r9.2)) else some (.inl (a.1, (a.2.1 + 1), r9.2)))))) else none))
set_option maxRecDepth 20000 in
set_option maxHeartbeats 2000000 in
theorem e_md_weightFor_42_L (σ : sg_S)  (f1 : Int32) (f2 : Int32) (f3 : Int32) (f4 : Int32)  : ∀ a : (Int32 × Int32 × sg_S), Ev mX5_weightFor (rmL 8) 42 [some (.ref 62), some (.int f1), some (.int f2), some (.int f3), some (.int f4), some (.int a.1), some (.int a.2.1)] [] a.2.2 (md_weightFor_42_X σ  f1 f2 f3 f4) (md_weightFor_42_L σ  f1 f2 f3 f4 a) := by
  intro a
  unfold md_weightFor_42_L
  refine ev_iload iX5_weightFor_42 rfl ?_
  refine ev_bipush iX5_weightFor_44 kB_9 ?_
  refine ev_icmp_gt iX5_weightFor_46 ?_ ?_
  · exact ev_exit rfl ⟨rfl, rfl, rfl, rfl, trivial⟩
  · refine ev_aload_n iX5_weightFor_49 rfl (by decide) rfl ?_
    refine ev_getR (k1 := 63) 5 0 iX5_weightFor_50 kF_X5_9 O_62 rfl (by decide) ?_
    refine ev_iload_n iX5_weightFor_53 rfl rfl ?_
    refine ev_iload iX5_weightFor_54 rfl ?_
    refine ev_iast iX5_weightFor_56 A_63 ?_
    refine ev_let (fun s7 => ?_)
    refine ev_aload_n iX5_weightFor_57 rfl (by decide) rfl ?_
    refine ev_iload_n iX5_weightFor_58 rfl rfl ?_
    refine ev_iconst iX5_weightFor_59 kI_2 ?_
    refine ev_SRI iX5_weightFor_60 kS_X5_88 (c_md_sayingAt s7 f1 2) rfl rfl (Nat.le_of_ble_eq_true rfl) (sg_fitL (by decide) (Nat.le_of_ble_eq_true rfl)) (fun r8 => ?_)
    refine ev_iload_n iX5_weightFor_63 rfl rfl ?_
    refine ev_VMI iX5_weightFor_64 kV_X5_213 (c_md_behind s7 r8 f2) rc_62 rfl rfl (Nat.le_of_ble_eq_true rfl) (sg_fitL (by decide) (Nat.le_of_ble_eq_true rfl)) (fun r9 => ?_)
    refine ev_iconst iX5_weightFor_67 kI_1 ?_
    refine ev_aload_n iX5_weightFor_68 rfl (by decide) rfl ?_
    refine ev_getR (k1 := 63) 5 0 iX5_weightFor_69 kF_X5_9 O_62 rfl (by decide) ?_
    refine ev_iconst iX5_weightFor_72 kI_1 ?_
    refine ev_ialdK 1 iX5_weightFor_73 A_63 rfl rfl ?_
    refine ev_ishl iX5_weightFor_74 ?_
    refine ev_iconst iX5_weightFor_75 kI_1 ?_
    refine ev_isub iX5_weightFor_76 ?_
    refine ev_icmp_ne iX5_weightFor_77 ?_ ?_
    · refine ev_iload iX5_weightFor_80 rfl ?_
      refine ev_goto iX5_weightFor_82 ?_
      refine ev_istore (ls2 := [some (.ref 62), some (.int f1), some (.int f2), some (.int f3), some (.int f4), some (.int a.2.1), some (.int a.2.1)]) iX5_weightFor_87 (Nat.le_of_ble_eq_true rfl) (Nat.le_of_ble_eq_true rfl) rfl rfl ?_
      refine ev_iinc (v := (a.2.1 + 1)) (ls2 := [some (.ref 62), some (.int f1), some (.int f2), some (.int f3), some (.int f4), some (.int a.2.1), some (.int (a.2.1 + 1))]) iX5_weightFor_89 rfl (by rw [kI_1]) (Nat.le_of_ble_eq_true rfl) rfl rfl ?_
      refine ev_goto iX5_weightFor_92 ?_
      exact ev_exit rfl ⟨rfl, rfl, rfl, rfl, rfl, rfl, rfl, trivial⟩
    · refine ev_iload iX5_weightFor_85 rfl ?_
      refine ev_istore (ls2 := [some (.ref 62), some (.int f1), some (.int f2), some (.int f3), some (.int f4), some (.int a.1), some (.int a.2.1)]) iX5_weightFor_87 (Nat.le_of_ble_eq_true rfl) (Nat.le_of_ble_eq_true rfl) rfl rfl ?_
      refine ev_iinc (v := (a.2.1 + 1)) (ls2 := [some (.ref 62), some (.int f1), some (.int f2), some (.int f3), some (.int f4), some (.int a.1), some (.int (a.2.1 + 1))]) iX5_weightFor_89 rfl (by rw [kI_1]) (Nat.le_of_ble_eq_true rfl) rfl rfl ?_
      refine ev_goto iX5_weightFor_92 ?_
      exact ev_exit rfl ⟨rfl, rfl, rfl, rfl, rfl, rfl, rfl, trivial⟩
def md_weightFor (σ : sg_S) (a1 : Int32) (a2 : Int32) : Option (Int32 × sg_S) :=
  ((md_isSaying σ a1).bind fun r1 => (if r1 = 0 then ((md_finding σ (-1000001)).bind fun r2 => some (r2.1, r2.2)) else ((md_isThought σ a2).bind fun r3 => (if r3 = 0 then ((md_finding σ (-1000001)).bind fun r4 => some (r4.1, r4.2)) else ((md_sayingAt σ a1 1).bind fun r5 => (if sg_in r5 119 = true then sg_leti (σ 63 r5.toNatClampNeg) (fun x6 => ((sg_lp (md_weightFor_42_L σ  a1 a2 r5 x6) 1000 ((-1), 0, σ)).bind fun e12 => (if sg_in r5 119 = true then sg_let (sg_st e12.2 63 r5.toNatClampNeg x6) (fun s13 => ((md_orNone s13 e12.1).bind fun r14 => some (r14.1, r14.2))) else none))) else none))))))
set_option maxRecDepth 20000 in
set_option maxHeartbeats 2000000 in
theorem c_md_weightFor (σ : sg_S) (a1 : Int32) (a2 : Int32)  : sg_Call yX5_weightFor mX5_weightFor (rmL 8) [.ref 62, .int a1, .int a2] σ eMI (md_weightFor σ a1 a2) := by
  refine sg_call_of (by decide +kernel) rfl (Nat.le_of_ble_eq_true rfl) rfl (fun _ => rfl) ?_
  refine ev_less (ls2 := [some (.ref 62), some (.int a1), some (.int a2), none, none, none, none]) ?_ ⟨rfl, rfl, rfl, trivial⟩
  unfold md_weightFor
  refine ev_aload_n iX5_weightFor_0 rfl (by decide) rfl ?_
  refine ev_iload_n iX5_weightFor_1 rfl rfl ?_
  refine ev_VRI iX5_weightFor_2 kV_X5_131 (c_md_isSaying σ a1) rc_62 rfl rfl (Nat.le_of_ble_eq_true rfl) (sg_fitL (by decide) (Nat.le_of_ble_eq_true rfl)) (fun r1 => ?_)
  refine ev_if_eq iX5_weightFor_5 ?_ ?_
  · refine ev_aload_n iX5_weightFor_15 rfl (by decide) rfl ?_
    refine ev_ldc iX5_weightFor_16 kC_X5_60 ?_
    refine ev_VMI iX5_weightFor_18 kV_X5_66 (c_md_finding σ (-1000001)) rc_62 rfl rfl (Nat.le_of_ble_eq_true rfl) (sg_fitL (by decide) (Nat.le_of_ble_eq_true rfl)) (fun r2 => ?_)
    exact ev_iret iX5_weightFor_21 rfl (narI rfl _)
  · refine ev_iload_n iX5_weightFor_8 rfl rfl ?_
    refine ev_SRI iX5_weightFor_9 kS_X5_222 (c_md_isThought σ a2) rfl rfl (Nat.le_of_ble_eq_true rfl) (sg_fitL (by decide) (Nat.le_of_ble_eq_true rfl)) (fun r3 => ?_)
    refine ev_if_ne iX5_weightFor_12 ?_ ?_
    · refine ev_aload_n iX5_weightFor_15 rfl (by decide) rfl ?_
      refine ev_ldc iX5_weightFor_16 kC_X5_60 ?_
      refine ev_VMI iX5_weightFor_18 kV_X5_66 (c_md_finding σ (-1000001)) rc_62 rfl rfl (Nat.le_of_ble_eq_true rfl) (sg_fitL (by decide) (Nat.le_of_ble_eq_true rfl)) (fun r4 => ?_)
      exact ev_iret iX5_weightFor_21 rfl (narI rfl _)
    · refine ev_iload_n iX5_weightFor_22 rfl rfl ?_
      refine ev_iconst iX5_weightFor_23 kI_1 ?_
      refine ev_SRI iX5_weightFor_24 kS_X5_88 (c_md_sayingAt σ a1 1) rfl rfl (Nat.le_of_ble_eq_true rfl) (sg_fitL (by decide) (Nat.le_of_ble_eq_true rfl)) (fun r5 => ?_)
      refine ev_istore_n (ls2 := [some (.ref 62), some (.int a1), some (.int a2), some (.int r5), none, none, none]) iX5_weightFor_27 rfl (Nat.le_of_ble_eq_true rfl) (Nat.le_of_ble_eq_true rfl) rfl rfl ?_
      refine ev_aload_n iX5_weightFor_28 rfl (by decide) rfl ?_
      refine ev_getR (k1 := 63) 5 0 iX5_weightFor_29 kF_X5_9 O_62 rfl (by decide) ?_
      refine ev_iload_n iX5_weightFor_32 rfl rfl ?_
      refine ev_iald iX5_weightFor_33 A_63 ?_
      refine ev_leti (fun x6 => ?_)
      refine ev_istore (ls2 := [some (.ref 62), some (.int a1), some (.int a2), some (.int r5), some (.int x6), none, none]) iX5_weightFor_34 (Nat.le_of_ble_eq_true rfl) (Nat.le_of_ble_eq_true rfl) rfl rfl ?_
      refine ev_iconst iX5_weightFor_36 kI_m1 ?_
      refine ev_istore (ls2 := [some (.ref 62), some (.int a1), some (.int a2), some (.int r5), some (.int x6), some (.int (-1)), none]) iX5_weightFor_37 (Nat.le_of_ble_eq_true rfl) (Nat.le_of_ble_eq_true rfl) rfl rfl ?_
      refine ev_iconst iX5_weightFor_39 kI_0 ?_
      refine ev_istore (ls2 := [some (.ref 62), some (.int a1), some (.int a2), some (.int r5), some (.int x6), some (.int (-1)), some (.int 0)]) iX5_weightFor_40 (Nat.le_of_ble_eq_true rfl) (Nat.le_of_ble_eq_true rfl) rfl rfl ?_
      refine ev_less (ls2 := [some (.ref 62), some (.int a1), some (.int a2), some (.int r5), some (.int x6), some (.int (-1)), some (.int 0)]) ?_ ⟨rfl, rfl, rfl, rfl, rfl, rfl, rfl, trivial⟩
      refine ev_seq1 95 (fun z11 => [some (.ref 62), none, none, some (.int r5), some (.int x6), some (.int z11.1), none]) (fun z11 => z11.2) (ev_loop (embB := md_weightFor_42_X σ  a1 a2 r5 x6) (ex := fun b => md_weightFor_42_X σ  a1 a2 r5 x6 (.inr b)) 42 (fun z10 => [some (.ref 62), some (.int a1), some (.int a2), some (.int r5), some (.int x6), some (.int z10.1), some (.int z10.2.1)]) (fun z10 => z10.2.2) (fun _ => rfl) (fun _ => rfl) (e_md_weightFor_42_L σ  a1 a2 r5 x6 ) 1000 ((-1), 0, σ)) (fun _ => rfl) (fun e12 => ?_)
      refine ev_aload_n iX5_weightFor_95 rfl (by decide) rfl ?_
      refine ev_getR (k1 := 63) 5 0 iX5_weightFor_96 kF_X5_9 O_62 rfl (by decide) ?_
      refine ev_iload_n iX5_weightFor_99 rfl rfl ?_
      refine ev_iload iX5_weightFor_100 rfl ?_
      refine ev_iast iX5_weightFor_102 A_63 ?_
      refine ev_let (fun s13 => ?_)
      refine ev_aload_n iX5_weightFor_103 rfl (by decide) rfl ?_
      refine ev_iload iX5_weightFor_104 rfl ?_
      refine ev_VMI iX5_weightFor_106 kV_X5_216 (c_md_orNone s13 e12.1) rc_62 rfl rfl (Nat.le_of_ble_eq_true rfl) (sg_fitL (by decide) (Nat.le_of_ble_eq_true rfl)) (fun r14 => ?_)
      exact ev_iret iX5_weightFor_109 rfl (narI rfl _)
def md_hush_48_X (σ : sg_S)  (f1 : Int32) (f2 : Int32) (f3 : Int32) : ((Int32 × Int32 × sg_S) ⊕ (Int32 × sg_S)) → sg_X
  | .inl a => .inr (48, [some (.ref 62), some (.int f1), some (.int f2), some (.int f3), some (.int a.1), some (.int a.2.1)], a.2.2)
  | .inr e => .inr (98, [some (.ref 62), none, none, none, some (.int e.1), none], e.2)
def md_hush_48_J71 (σ : sg_S)  (f1 : Int32) (f2 : Int32) (f3 : Int32) (v4 : Int32) (v5 : Int32) : Option ((Int32 × Int32 × sg_S) ⊕ (Int32 × sg_S)) :=
  ((md_staysAway σ v5 f1 f2 f3).bind fun r8 => (if r8.1 = 0 then (sg_leti (v5 + (-1)) (fun x9 => some (.inl (v4, x9, r8.2)))) else (sg_leti (v5 + (-1)) (fun x10 => some (.inl (v5, x10, r8.2))))))
set_option maxRecDepth 20000 in
set_option maxHeartbeats 2000000 in
theorem e_md_hush_48_J71 (σ : sg_S)  (f1 : Int32) (f2 : Int32) (f3 : Int32) (v4 : Int32) (v5 : Int32)  : Ev mX5_hush (rmL 8) 71 [some (.ref 62), some (.int f1), some (.int f2), some (.int f3), some (.int v4), some (.int v5)] [] σ (md_hush_48_X σ  f1 f2 f3) (md_hush_48_J71 σ  f1 f2 f3 v4 v5) := by
  unfold md_hush_48_J71
  refine ev_aload_n iX5_hush_71 rfl (by decide) rfl ?_
  refine ev_iload iX5_hush_72 rfl ?_
  refine ev_iload_n iX5_hush_74 rfl rfl ?_
  refine ev_iload_n iX5_hush_75 rfl rfl ?_
  refine ev_iload_n iX5_hush_76 rfl rfl ?_
  refine ev_VMI iX5_hush_77 kV_X5_228 (c_md_staysAway σ v5 f1 f2 f3) rc_62 rfl rfl (Nat.le_of_ble_eq_true rfl) (sg_fitL (by decide) (Nat.le_of_ble_eq_true rfl)) (fun r8 => ?_)
  refine ev_if_eq iX5_hush_80 ?_ ?_
  · refine ev_iload iX5_hush_88 rfl ?_
    refine ev_istore (ls2 := [some (.ref 62), some (.int f1), some (.int f2), some (.int f3), some (.int v4), some (.int v5)]) iX5_hush_90 (Nat.le_of_ble_eq_true rfl) (Nat.le_of_ble_eq_true rfl) rfl rfl ?_
    refine ev_iincN (fun x9 => [some (.ref 62), some (.int f1), some (.int f2), some (.int f3), some (.int v4), some (.int x9)]) iX5_hush_92 rfl kI_m1 (Nat.le_of_ble_eq_true rfl) rfl (fun _ => rfl) (fun x9 => ?_)
    refine ev_goto iX5_hush_95 ?_
    exact ev_exit rfl ⟨rfl, rfl, rfl, rfl, rfl, rfl, trivial⟩
  · refine ev_iload iX5_hush_83 rfl ?_
    refine ev_goto iX5_hush_85 ?_
    refine ev_istore (ls2 := [some (.ref 62), some (.int f1), some (.int f2), some (.int f3), some (.int v5), some (.int v5)]) iX5_hush_90 (Nat.le_of_ble_eq_true rfl) (Nat.le_of_ble_eq_true rfl) rfl rfl ?_
    refine ev_iincN (fun x10 => [some (.ref 62), some (.int f1), some (.int f2), some (.int f3), some (.int v5), some (.int x10)]) iX5_hush_92 rfl kI_m1 (Nat.le_of_ble_eq_true rfl) rfl (fun _ => rfl) (fun x10 => ?_)
    refine ev_goto iX5_hush_95 ?_
    exact ev_exit rfl ⟨rfl, rfl, rfl, rfl, rfl, rfl, trivial⟩
def md_hush_48_L (σ : sg_S)  (f1 : Int32) (f2 : Int32) (f3 : Int32) (a : (Int32 × Int32 × sg_S)) : Option ((Int32 × Int32 × sg_S) ⊕ (Int32 × sg_S)) :=
  (if a.2.1 < 0 then some (.inr (a.1, a.2.2)) else (if a.1 < 0 then md_hush_48_J71 a.2.2 f1 f2 f3 a.1 a.2.1 else ((md_bits a.2.2 a.2.1).bind fun r11 => ((md_bits a.2.2 a.1).bind fun r12 => (if r12 < r11 then (sg_leti (a.2.1 + (-1)) (fun x13 => some (.inl (a.1, x13, a.2.2)))) else md_hush_48_J71 a.2.2 f1 f2 f3 a.1 a.2.1)))))
set_option maxRecDepth 20000 in
set_option maxHeartbeats 2000000 in
theorem e_md_hush_48_L (σ : sg_S)  (f1 : Int32) (f2 : Int32) (f3 : Int32)  : ∀ a : (Int32 × Int32 × sg_S), Ev mX5_hush (rmL 8) 48 [some (.ref 62), some (.int f1), some (.int f2), some (.int f3), some (.int a.1), some (.int a.2.1)] [] a.2.2 (md_hush_48_X σ  f1 f2 f3) (md_hush_48_L σ  f1 f2 f3 a) := by
  intro a
  unfold md_hush_48_L
  refine ev_iload iX5_hush_48 rfl ?_
  refine ev_if_lt iX5_hush_50 ?_ ?_
  · exact ev_exit rfl ⟨rfl, rfl, trivial⟩
  · refine ev_iload iX5_hush_53 rfl ?_
    refine ev_if_lt iX5_hush_55 ?_ ?_
    · exact ev_less (e_md_hush_48_J71 a.2.2  f1 f2 f3 a.1 a.2.1 ) ⟨rfl, rfl, rfl, rfl, rfl, rfl, trivial⟩
    · refine ev_iload iX5_hush_58 rfl ?_
      refine ev_SRI iX5_hush_60 kS_X5_186 (c_md_bits a.2.2 a.2.1) rfl rfl (Nat.le_of_ble_eq_true rfl) (sg_fitL (by decide) (Nat.le_of_ble_eq_true rfl)) (fun r11 => ?_)
      refine ev_iload iX5_hush_63 rfl ?_
      refine ev_SRI iX5_hush_65 kS_X5_186 (c_md_bits a.2.2 a.1) rfl rfl (Nat.le_of_ble_eq_true rfl) (sg_fitL (by decide) (Nat.le_of_ble_eq_true rfl)) (fun r12 => ?_)
      refine ev_icmp_gt iX5_hush_68 ?_ ?_
      · refine ev_iload iX5_hush_88 rfl ?_
        refine ev_istore (ls2 := [some (.ref 62), some (.int f1), some (.int f2), some (.int f3), some (.int a.1), some (.int a.2.1)]) iX5_hush_90 (Nat.le_of_ble_eq_true rfl) (Nat.le_of_ble_eq_true rfl) rfl rfl ?_
        refine ev_iincN (fun x13 => [some (.ref 62), some (.int f1), some (.int f2), some (.int f3), some (.int a.1), some (.int x13)]) iX5_hush_92 rfl kI_m1 (Nat.le_of_ble_eq_true rfl) rfl (fun _ => rfl) (fun x13 => ?_)
        refine ev_goto iX5_hush_95 ?_
        exact ev_exit rfl ⟨rfl, rfl, rfl, rfl, rfl, rfl, trivial⟩
      · exact ev_less (e_md_hush_48_J71 a.2.2  f1 f2 f3 a.1 a.2.1 ) ⟨rfl, rfl, rfl, rfl, rfl, rfl, trivial⟩
def md_hush (σ : sg_S) (a1 : Int32) (a2 : Int32) (a3 : Int32) : Option (Int32 × sg_S) :=
  ((md_isSaying σ a1).bind fun r1 => (if r1 = 0 then ((md_finding σ (-1000001)).bind fun r2 => some (r2.1, r2.2)) else ((md_isPerson σ a2).bind fun r3 => (if r3 = 0 then ((md_finding σ (-1000001)).bind fun r4 => some (r4.1, r4.2)) else ((md_within σ a3 0 20).bind fun r5 => (if r5 = 0 then ((md_finding σ (-1000001)).bind fun r6 => some (r6.1, r6.2)) else sg_leti ((jshl 1 (σ 63 1)) - 1) (fun x7 => ((sg_lp (md_hush_48_L σ  a1 a2 a3) 1000 ((-1), x7, σ)).bind fun e16 => ((md_orNone e16.2 e16.1).bind fun r17 => some (r17.1, r17.2))))))))))
set_option maxRecDepth 20000 in
set_option maxHeartbeats 2000000 in
theorem c_md_hush (σ : sg_S) (a1 : Int32) (a2 : Int32) (a3 : Int32)  : sg_Call yX5_hush mX5_hush (rmL 8) [.ref 62, .int a1, .int a2, .int a3] σ eMI (md_hush σ a1 a2 a3) := by
  refine sg_call_of (by decide +kernel) rfl (Nat.le_of_ble_eq_true rfl) rfl (fun _ => rfl) ?_
  refine ev_less (ls2 := [some (.ref 62), some (.int a1), some (.int a2), some (.int a3), none, none]) ?_ ⟨rfl, rfl, rfl, rfl, trivial⟩
  unfold md_hush
  refine ev_aload_n iX5_hush_0 rfl (by decide) rfl ?_
  refine ev_iload_n iX5_hush_1 rfl rfl ?_
  refine ev_VRI iX5_hush_2 kV_X5_131 (c_md_isSaying σ a1) rc_62 rfl rfl (Nat.le_of_ble_eq_true rfl) (sg_fitL (by decide) (Nat.le_of_ble_eq_true rfl)) (fun r1 => ?_)
  refine ev_if_eq iX5_hush_5 ?_ ?_
  · refine ev_aload_n iX5_hush_26 rfl (by decide) rfl ?_
    refine ev_ldc iX5_hush_27 kC_X5_60 ?_
    refine ev_VMI iX5_hush_29 kV_X5_66 (c_md_finding σ (-1000001)) rc_62 rfl rfl (Nat.le_of_ble_eq_true rfl) (sg_fitL (by decide) (Nat.le_of_ble_eq_true rfl)) (fun r2 => ?_)
    exact ev_iret iX5_hush_32 rfl (narI rfl _)
  · refine ev_aload_n iX5_hush_8 rfl (by decide) rfl ?_
    refine ev_iload_n iX5_hush_9 rfl rfl ?_
    refine ev_VRI iX5_hush_10 kV_X5_105 (c_md_isPerson σ a2) rc_62 rfl rfl (Nat.le_of_ble_eq_true rfl) (sg_fitL (by decide) (Nat.le_of_ble_eq_true rfl)) (fun r3 => ?_)
    refine ev_if_eq iX5_hush_13 ?_ ?_
    · refine ev_aload_n iX5_hush_26 rfl (by decide) rfl ?_
      refine ev_ldc iX5_hush_27 kC_X5_60 ?_
      refine ev_VMI iX5_hush_29 kV_X5_66 (c_md_finding σ (-1000001)) rc_62 rfl rfl (Nat.le_of_ble_eq_true rfl) (sg_fitL (by decide) (Nat.le_of_ble_eq_true rfl)) (fun r4 => ?_)
      exact ev_iret iX5_hush_32 rfl (narI rfl _)
    · refine ev_iload_n iX5_hush_16 rfl rfl ?_
      refine ev_iconst iX5_hush_17 kI_0 ?_
      refine ev_bipush iX5_hush_18 kB_20 ?_
      refine ev_SRI iX5_hush_20 kS_X5_70 (c_md_within σ a3 0 20) rfl rfl (Nat.le_of_ble_eq_true rfl) (sg_fitL (by decide) (Nat.le_of_ble_eq_true rfl)) (fun r5 => ?_)
      refine ev_if_ne iX5_hush_23 ?_ ?_
      · refine ev_aload_n iX5_hush_26 rfl (by decide) rfl ?_
        refine ev_ldc iX5_hush_27 kC_X5_60 ?_
        refine ev_VMI iX5_hush_29 kV_X5_66 (c_md_finding σ (-1000001)) rc_62 rfl rfl (Nat.le_of_ble_eq_true rfl) (sg_fitL (by decide) (Nat.le_of_ble_eq_true rfl)) (fun r6 => ?_)
        exact ev_iret iX5_hush_32 rfl (narI rfl _)
      · refine ev_iconst iX5_hush_33 kI_m1 ?_
        refine ev_istore (ls2 := [some (.ref 62), some (.int a1), some (.int a2), some (.int a3), some (.int (-1)), none]) iX5_hush_34 (Nat.le_of_ble_eq_true rfl) (Nat.le_of_ble_eq_true rfl) rfl rfl ?_
        refine ev_iconst iX5_hush_36 kI_1 ?_
        refine ev_aload_n iX5_hush_37 rfl (by decide) rfl ?_
        refine ev_getR (k1 := 63) 5 0 iX5_hush_38 kF_X5_9 O_62 rfl (by decide) ?_
        refine ev_iconst iX5_hush_41 kI_1 ?_
        refine ev_ialdK 1 iX5_hush_42 A_63 rfl rfl ?_
        refine ev_ishl iX5_hush_43 ?_
        refine ev_iconst iX5_hush_44 kI_1 ?_
        refine ev_isub iX5_hush_45 ?_
        refine ev_leti (fun x7 => ?_)
        refine ev_istore (ls2 := [some (.ref 62), some (.int a1), some (.int a2), some (.int a3), some (.int (-1)), some (.int x7)]) iX5_hush_46 (Nat.le_of_ble_eq_true rfl) (Nat.le_of_ble_eq_true rfl) rfl rfl ?_
        refine ev_less (ls2 := [some (.ref 62), some (.int a1), some (.int a2), some (.int a3), some (.int (-1)), some (.int x7)]) ?_ ⟨rfl, rfl, rfl, rfl, rfl, rfl, trivial⟩
        refine ev_seq1 98 (fun z15 => [some (.ref 62), none, none, none, some (.int z15.1), none]) (fun z15 => z15.2) (ev_loop (embB := md_hush_48_X σ  a1 a2 a3) (ex := fun b => md_hush_48_X σ  a1 a2 a3 (.inr b)) 48 (fun z14 => [some (.ref 62), some (.int a1), some (.int a2), some (.int a3), some (.int z14.1), some (.int z14.2.1)]) (fun z14 => z14.2.2) (fun _ => rfl) (fun _ => rfl) (e_md_hush_48_L σ  a1 a2 a3 ) 1000 ((-1), x7, σ)) (fun _ => rfl) (fun e16 => ?_)
        refine ev_aload_n iX5_hush_98 rfl (by decide) rfl ?_
        refine ev_iload iX5_hush_99 rfl ?_
        refine ev_VMI iX5_hush_101 kV_X5_216 (c_md_orNone e16.2 e16.1) rc_62 rfl rfl (Nat.le_of_ble_eq_true rfl) (sg_fitL (by decide) (Nat.le_of_ble_eq_true rfl)) (fun r17 => ?_)
        exact ev_iret iX5_hush_104 rfl (narI rfl _)
def md_text_43_X (σ : sg_S)   : (sg_S ⊕ sg_S) → sg_X
  | .inl a => .inr (43, [some (.ref 62), none], a)
  | .inr e => .inr (84, [some (.ref 62), none], e)
def md_text_43_L (σ : sg_S)   (a : sg_S) : Option (sg_S ⊕ sg_S) :=
  (if (a 62 11) = 0 then (if (a 62 9) = 3 then (if sg_in (a 62 7) 120 = true then (if (a 67 (a 62 7).toNatClampNeg) = 59 then ((md_must a 1).bind fun r8 => ((md_readItem r8).bind fun r9 => some (.inl r9))) else some (.inr a)) else none) else some (.inr a)) else some (.inr a))
set_option maxRecDepth 20000 in
set_option maxHeartbeats 2000000 in
theorem e_md_text_43_L (σ : sg_S)    : ∀ a : sg_S, Ev mX5_text (rmL 8) 43 [some (.ref 62), none] [] a (md_text_43_X σ  ) (md_text_43_L σ   a) := by
  intro a
  unfold md_text_43_L
  refine ev_aload_n iX5_text_43 rfl (by decide) rfl ?_
  refine ev_getI 5 11 iX5_text_44 kF_X5_273 O_62 rfl ?_
  refine ev_if_ne iX5_text_47 ?_ ?_
  · refine ev_aload_n iX5_text_50 rfl (by decide) rfl ?_
    refine ev_getI 5 9 iX5_text_51 kF_X5_263 O_62 rfl ?_
    refine ev_iconst iX5_text_54 kI_3 ?_
    refine ev_icmp_ne iX5_text_55 ?_ ?_
    · refine ev_aload_n iX5_text_58 rfl (by decide) rfl ?_
      refine ev_getR (k1 := 67) 5 5 iX5_text_59 kF_X5_22 O_62 rfl (by decide) ?_
      refine ev_aload_n iX5_text_62 rfl (by decide) rfl ?_
      refine ev_getI 5 7 iX5_text_63 kF_X5_254 O_62 rfl ?_
      refine ev_iald iX5_text_66 A_67 ?_
      refine ev_bipush iX5_text_67 kB_59 ?_
      refine ev_icmp_ne iX5_text_69 ?_ ?_
      · refine ev_aload_n iX5_text_72 rfl (by decide) rfl ?_
        refine ev_iconst iX5_text_73 kI_1 ?_
        refine ev_VMV iX5_text_74 kV_X5_280 (c_md_must a 1) rc_62 rfl rfl (Nat.le_of_ble_eq_true rfl) (sg_fitL (by decide) (Nat.le_of_ble_eq_true rfl)) (fun r8 => ?_)
        refine ev_aload_n iX5_text_77 rfl (by decide) rfl ?_
        refine ev_VMV iX5_text_78 kV_X5_321 (c_md_readItem r8 ) rc_62 rfl rfl (Nat.le_of_ble_eq_true rfl) (sg_fitL (by decide) (Nat.le_of_ble_eq_true rfl)) (fun r9 => ?_)
        refine ev_goto iX5_text_81 ?_
        exact ev_exit rfl ⟨rfl, trivial⟩
      · exact ev_exit rfl ⟨rfl, trivial⟩
    · exact ev_exit rfl ⟨rfl, trivial⟩
  · exact ev_exit rfl ⟨rfl, trivial⟩
def md_text_121_X (σ : sg_S)   : ((Int32 × sg_S) ⊕ sg_S) → sg_X
  | .inl a => .inr (121, [some (.ref 62), some (.int a.1)], a.2)
  | .inr e => .inr (142, [some (.ref 62), none], e)
def md_text_121_L (σ : sg_S)   (a : (Int32 × sg_S)) : Option ((Int32 × sg_S) ⊕ sg_S) :=
  (if a.1 < (a.2 62 14) then ((md_isToldSo a.2 (4 * a.1)).bind fun r15 => some (.inl ((a.1 + 1), r15))) else some (.inr a.2))
set_option maxRecDepth 20000 in
set_option maxHeartbeats 2000000 in
theorem e_md_text_121_L (σ : sg_S)    : ∀ a : (Int32 × sg_S), Ev mX5_text (rmL 8) 121 [some (.ref 62), some (.int a.1)] [] a.2 (md_text_121_X σ  ) (md_text_121_L σ   a) := by
  intro a
  unfold md_text_121_L
  refine ev_iload_n iX5_text_121 rfl rfl ?_
  refine ev_aload_n iX5_text_122 rfl (by decide) rfl ?_
  refine ev_getI 5 14 iX5_text_123 kF_X5_284 O_62 rfl ?_
  refine ev_icmp_ge iX5_text_126 ?_ ?_
  · refine ev_aload_n iX5_text_129 rfl (by decide) rfl ?_
    refine ev_iconst iX5_text_130 kI_4 ?_
    refine ev_iload_n iX5_text_131 rfl rfl ?_
    refine ev_imul iX5_text_132 ?_
    refine ev_VMV iX5_text_133 kV_X5_324 (c_md_isToldSo a.2 (4 * a.1)) rc_62 rfl rfl (Nat.le_of_ble_eq_true rfl) (sg_fitL (by decide) (Nat.le_of_ble_eq_true rfl)) (fun r15 => ?_)
    refine ev_iinc (v := (a.1 + 1)) (ls2 := [some (.ref 62), some (.int (a.1 + 1))]) iX5_text_136 rfl (by rw [kI_1]) (Nat.le_of_ble_eq_true rfl) rfl rfl ?_
    refine ev_goto iX5_text_139 ?_
    exact ev_exit rfl ⟨rfl, rfl, trivial⟩
  · exact ev_exit rfl ⟨rfl, trivial⟩
def md_text_J97 (σ : sg_S)   (t0 : Int32) : Option (Int32 × sg_S) :=
  ((md_must σ t0).bind fun r13 => sg_let (sg_st r13 62 6 0) (fun s14 => (if (s14 62 11) = 0 then ((sg_lp (md_text_121_L s14  ) 1000 (0, s14)).bind fun e18 => some ((e18 62 14), e18)) else some (((-1) - (s14 62 7)), s14))))
set_option maxRecDepth 20000 in
set_option maxHeartbeats 2000000 in
theorem e_md_text_J97 (σ : sg_S)   (t0 : Int32)  : Ev mX5_text (rmL 8) 97 [some (.ref 62), none] [.int t0, .ref 62] σ (fun b => Sum.inl (eMI b)) (md_text_J97 σ   t0) := by
  unfold md_text_J97
  refine ev_VMV iX5_text_97 kV_X5_280 (c_md_must σ t0) rc_62 rfl rfl (Nat.le_of_ble_eq_true rfl) (sg_fitL (by decide) (Nat.le_of_ble_eq_true rfl)) (fun r13 => ?_)
  refine ev_aload_n iX5_text_100 rfl (by decide) rfl ?_
  refine ev_iconst iX5_text_101 kI_0 ?_
  refine ev_putI 5 6 iX5_text_102 kF_X5_247 fp_5_6 rfl rfl O_62 rfl ?_
  refine ev_let (fun s14 => ?_)
  refine ev_aload_n iX5_text_105 rfl (by decide) rfl ?_
  refine ev_getI 5 11 iX5_text_106 kF_X5_273 O_62 rfl ?_
  refine ev_if_eq iX5_text_109 ?_ ?_
  · refine ev_iconst iX5_text_119 kI_0 ?_
    refine ev_istore_n (ls2 := [some (.ref 62), some (.int 0)]) iX5_text_120 rfl (Nat.le_of_ble_eq_true rfl) (Nat.le_of_ble_eq_true rfl) rfl rfl ?_
    refine ev_less (ls2 := [some (.ref 62), some (.int 0)]) ?_ ⟨rfl, rfl, trivial⟩
    refine ev_seq1 142 (fun z17 => [some (.ref 62), none]) (fun z17 => z17) (ev_loop (embB := md_text_121_X s14  ) (ex := fun b => md_text_121_X s14   (.inr b)) 121 (fun z16 => [some (.ref 62), some (.int z16.1)]) (fun z16 => z16.2) (fun _ => rfl) (fun _ => rfl) (e_md_text_121_L s14   ) 1000 (0, s14)) (fun _ => rfl) (fun e18 => ?_)
    refine ev_aload_n iX5_text_142 rfl (by decide) rfl ?_
    refine ev_getI 5 14 iX5_text_143 kF_X5_284 O_62 rfl ?_
    exact ev_iret iX5_text_146 rfl (narI rfl _)
  · refine ev_iconst iX5_text_112 kI_m1 ?_
    refine ev_aload_n iX5_text_113 rfl (by decide) rfl ?_
    refine ev_getI 5 7 iX5_text_114 kF_X5_254 O_62 rfl ?_
    refine ev_isub iX5_text_117 ?_
    exact ev_iret iX5_text_118 rfl (narI rfl _)
def md_text_J84 (σ : sg_S)    : Option (Int32 × sg_S) :=
  (if (σ 62 9) = 0 then md_text_J97 σ 1 else md_text_J97 σ 0)
set_option maxRecDepth 20000 in
set_option maxHeartbeats 2000000 in
theorem e_md_text_J84 (σ : sg_S)     : Ev mX5_text (rmL 8) 84 [some (.ref 62), none] [] σ (fun b => Sum.inl (eMI b)) (md_text_J84 σ   ) := by
  unfold md_text_J84
  refine ev_aload_n iX5_text_84 rfl (by decide) rfl ?_
  refine ev_aload_n iX5_text_85 rfl (by decide) rfl ?_
  refine ev_getI 5 9 iX5_text_86 kF_X5_263 O_62 rfl ?_
  refine ev_if_ne iX5_text_89 ?_ ?_
  · refine ev_iconst iX5_text_92 kI_1 ?_
    refine ev_goto iX5_text_93 ?_
    exact ev_less (e_md_text_J97 σ   1 ) ⟨rfl, trivial⟩
  · refine ev_iconst iX5_text_96 kI_0 ?_
    exact ev_less (e_md_text_J97 σ   0 ) ⟨rfl, trivial⟩
def md_text (σ : sg_S)  : Option (Int32 × sg_S) :=
  sg_let (sg_st σ 62 8 0) (fun s1 => sg_let (sg_st s1 62 11 0) (fun s2 => sg_let (sg_st s2 62 14 0) (fun s3 => sg_let (sg_st s3 62 15 (s3 63 1)) (fun s4 => sg_let (sg_st s4 62 16 (s4 63 3)) (fun s5 => ((md_token s5).bind fun r6 => ((md_readItem r6).bind fun r7 => ((sg_lp (md_text_43_L r7  ) 1000 r7).bind fun e12 => md_text_J84 e12))))))))
set_option maxRecDepth 20000 in
set_option maxHeartbeats 2000000 in
theorem c_md_text (σ : sg_S)   : sg_Call yX5_text mX5_text (rmL 8) [.ref 62] σ eMI (md_text σ ) := by
  refine sg_call_of (by decide +kernel) rfl (Nat.le_of_ble_eq_true rfl) rfl (fun _ => rfl) ?_
  refine ev_less (ls2 := [some (.ref 62), none]) ?_ ⟨rfl, trivial⟩
  unfold md_text
  refine ev_aload_n iX5_text_0 rfl (by decide) rfl ?_
  refine ev_iconst iX5_text_1 kI_0 ?_
  refine ev_putI 5 8 iX5_text_2 kF_X5_251 fp_5_8 rfl rfl O_62 rfl ?_
  refine ev_let (fun s1 => ?_)
  refine ev_aload_n iX5_text_5 rfl (by decide) rfl ?_
  refine ev_iconst iX5_text_6 kI_0 ?_
  refine ev_putI 5 11 iX5_text_7 kF_X5_273 fp_5_11 rfl rfl O_62 rfl ?_
  refine ev_let (fun s2 => ?_)
  refine ev_aload_n iX5_text_10 rfl (by decide) rfl ?_
  refine ev_iconst iX5_text_11 kI_0 ?_
  refine ev_putI 5 14 iX5_text_12 kF_X5_284 fp_5_14 rfl rfl O_62 rfl ?_
  refine ev_let (fun s3 => ?_)
  refine ev_aload_n iX5_text_15 rfl (by decide) rfl ?_
  refine ev_aload_n iX5_text_16 rfl (by decide) rfl ?_
  refine ev_getR (k1 := 63) 5 0 iX5_text_17 kF_X5_9 O_62 rfl (by decide) ?_
  refine ev_iconst iX5_text_20 kI_1 ?_
  refine ev_ialdK 1 iX5_text_21 A_63 rfl rfl ?_
  refine ev_putI 5 15 iX5_text_22 kF_X5_291 fp_5_15 rfl rfl O_62 rfl ?_
  refine ev_let (fun s4 => ?_)
  refine ev_aload_n iX5_text_25 rfl (by decide) rfl ?_
  refine ev_aload_n iX5_text_26 rfl (by decide) rfl ?_
  refine ev_getR (k1 := 63) 5 0 iX5_text_27 kF_X5_9 O_62 rfl (by decide) ?_
  refine ev_iconst iX5_text_30 kI_3 ?_
  refine ev_ialdK 3 iX5_text_31 A_63 rfl rfl ?_
  refine ev_putI 5 16 iX5_text_32 kF_X5_308 fp_5_16 rfl rfl O_62 rfl ?_
  refine ev_let (fun s5 => ?_)
  refine ev_aload_n iX5_text_35 rfl (by decide) rfl ?_
  refine ev_VMV iX5_text_36 kV_X5_277 (c_md_token s5 ) rc_62 rfl rfl (Nat.le_of_ble_eq_true rfl) (sg_fitL (by decide) (Nat.le_of_ble_eq_true rfl)) (fun r6 => ?_)
  refine ev_aload_n iX5_text_39 rfl (by decide) rfl ?_
  refine ev_VMV iX5_text_40 kV_X5_321 (c_md_readItem r6 ) rc_62 rfl rfl (Nat.le_of_ble_eq_true rfl) (sg_fitL (by decide) (Nat.le_of_ble_eq_true rfl)) (fun r7 => ?_)
  refine ev_less (ls2 := [some (.ref 62), none]) ?_ ⟨rfl, trivial⟩
  refine ev_seq1 84 (fun z11 => [some (.ref 62), none]) (fun z11 => z11) (ev_loop (embB := md_text_43_X r7  ) (ex := fun b => md_text_43_X r7   (.inr b)) 43 (fun z10 => [some (.ref 62), none]) (fun z10 => z10) (fun _ => rfl) (fun _ => rfl) (e_md_text_43_L r7   ) 1000 r7) (fun _ => rfl) (fun e12 => ?_)
  exact ev_less (e_md_text_J84 e12    ) ⟨rfl, trivial⟩
