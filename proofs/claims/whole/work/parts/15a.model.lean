def md_finding (σ : sg_S) (a1 : Int32) : Option (Int32 × sg_S) :=
  (if sg_in (((-1000001) - a1) + 1) 8 = true then (if sg_in (((-1000001) - a1) + 1) 8 = true then sg_let (sg_st σ 66 (((-1000001) - a1) + 1).toNatClampNeg ((σ 66 (((-1000001) - a1) + 1).toNatClampNeg) + 1)) (fun s1 => sg_let (sg_st s1 66 0 ((s1 66 0) + 1)) (fun s2 => some (a1, s2))) else none) else none)
set_option maxRecDepth 20000 in
set_option maxHeartbeats 2000000 in
theorem c_md_finding (σ : sg_S) (a1 : Int32)  : sg_Call yX5_finding mX5_finding (rmL 0) [.ref 62, .int a1] σ eMI (md_finding σ a1) := by
  refine sg_call_of (by decide +kernel) rfl (Nat.le_of_ble_eq_true rfl) rfl (fun _ => rfl) ?_
  refine ev_less (ls2 := [some (.ref 62), some (.int a1)]) ?_ ⟨rfl, rfl, trivial⟩
  unfold md_finding
  refine ev_aload_n iX5_finding_0 rfl (by decide) rfl ?_
  refine ev_getR (k1 := 66) 5 4 iX5_finding_1 kF_X5_19 O_62 rfl (by decide) ?_
  refine ev_ldc iX5_finding_4 kC_X5_60 ?_
  refine ev_iload_n iX5_finding_6 rfl rfl ?_
  refine ev_isub iX5_finding_7 ?_
  refine ev_iconst iX5_finding_8 kI_1 ?_
  refine ev_iadd iX5_finding_9 ?_
  refine ev_dup2 iX5_finding_10 (by decide) ?_
  refine ev_iald iX5_finding_11 A_66 ?_
  refine ev_iconst iX5_finding_12 kI_1 ?_
  refine ev_iadd iX5_finding_13 ?_
  refine ev_iast iX5_finding_14 A_66 ?_
  refine ev_let (fun s1 => ?_)
  refine ev_aload_n iX5_finding_15 rfl (by decide) rfl ?_
  refine ev_getR (k1 := 66) 5 4 iX5_finding_16 kF_X5_19 O_62 rfl (by decide) ?_
  refine ev_iconst iX5_finding_19 kI_0 ?_
  refine ev_dup2 iX5_finding_20 (by decide) ?_
  refine ev_ialdK 0 iX5_finding_21 A_66 rfl rfl ?_
  refine ev_iconst iX5_finding_22 kI_1 ?_
  refine ev_iadd iX5_finding_23 ?_
  refine ev_iastK 0 iX5_finding_24 A_66 rfl rfl ?_
  refine ev_let (fun s2 => ?_)
  refine ev_iload_n iX5_finding_25 rfl rfl ?_
  exact ev_iret iX5_finding_26 rfl (narI rfl _)
def md_within (σ : sg_S) (a0 : Int32) (a1 : Int32) (a2 : Int32) : Option Int32 :=
  (if a0 < a1 then some 0 else (if a2 < a0 then some 0 else some 1))
set_option maxRecDepth 20000 in
set_option maxHeartbeats 2000000 in
theorem c_md_within (σ : sg_S) (a0 : Int32) (a1 : Int32) (a2 : Int32)  : sg_Call yX5_within mX5_within (rmL 0) [.int a0, .int a1, .int a2] σ (eRI σ) (md_within σ a0 a1 a2) := by
  refine sg_call_of (by decide +kernel) rfl (Nat.le_of_ble_eq_true rfl) rfl (fun _ => rfl) ?_
  refine ev_less (ls2 := [some (.int a0), some (.int a1), some (.int a2)]) ?_ ⟨rfl, rfl, rfl, trivial⟩
  unfold md_within
  refine ev_iload_n iX5_within_0 rfl rfl ?_
  refine ev_iload_n iX5_within_1 rfl rfl ?_
  refine ev_icmp_lt iX5_within_2 ?_ ?_
  · refine ev_iconst iX5_within_14 kI_0 ?_
    exact ev_iret iX5_within_15 rfl (fun ty _ => nar0 ty)
  · refine ev_iload_n iX5_within_5 rfl rfl ?_
    refine ev_iload_n iX5_within_6 rfl rfl ?_
    refine ev_icmp_gt iX5_within_7 ?_ ?_
    · refine ev_iconst iX5_within_14 kI_0 ?_
      exact ev_iret iX5_within_15 rfl (fun ty _ => nar0 ty)
    · refine ev_iconst iX5_within_10 kI_1 ?_
      refine ev_goto iX5_within_11 ?_
      exact ev_iret iX5_within_15 rfl (fun ty _ => nar1 ty)
def md_become (σ : sg_S) (a1 : Int32) (a2 : Int32) : Option (Int32 × sg_S) :=
  (if sg_in a1 119 = true then sg_leti (σ 63 a1.toNatClampNeg) (fun x1 => (if sg_in a1 119 = true then sg_let (sg_st σ 63 a1.toNatClampNeg a2) (fun s2 => some (x1, s2)) else none)) else none)
set_option maxRecDepth 20000 in
set_option maxHeartbeats 2000000 in
theorem c_md_become (σ : sg_S) (a1 : Int32) (a2 : Int32)  : sg_Call yX5_become mX5_become (rmL 0) [.ref 62, .int a1, .int a2] σ eMI (md_become σ a1 a2) := by
  refine sg_call_of (by decide +kernel) rfl (Nat.le_of_ble_eq_true rfl) rfl (fun _ => rfl) ?_
  refine ev_less (ls2 := [some (.ref 62), some (.int a1), some (.int a2), none]) ?_ ⟨rfl, rfl, rfl, trivial⟩
  unfold md_become
  refine ev_aload_n iX5_become_0 rfl (by decide) rfl ?_
  refine ev_getR (k1 := 63) 5 0 iX5_become_1 kF_X5_9 O_62 rfl (by decide) ?_
  refine ev_iload_n iX5_become_4 rfl rfl ?_
  refine ev_iald iX5_become_5 A_63 ?_
  refine ev_leti (fun x1 => ?_)
  refine ev_istore_n (ls2 := [some (.ref 62), some (.int a1), some (.int a2), some (.int x1)]) iX5_become_6 rfl (Nat.le_of_ble_eq_true rfl) (Nat.le_of_ble_eq_true rfl) rfl rfl ?_
  refine ev_aload_n iX5_become_7 rfl (by decide) rfl ?_
  refine ev_getR (k1 := 63) 5 0 iX5_become_8 kF_X5_9 O_62 rfl (by decide) ?_
  refine ev_iload_n iX5_become_11 rfl rfl ?_
  refine ev_iload_n iX5_become_12 rfl rfl ?_
  refine ev_iast iX5_become_13 A_63 ?_
  refine ev_let (fun s2 => ?_)
  refine ev_iload_n iX5_become_14 rfl rfl ?_
  exact ev_iret iX5_become_15 rfl (narI rfl _)
def md_copyRow_2_X (σ : sg_S) (k0 n0 : Nat) (k1 n1 : Nat)  : ((Int32 × sg_S) ⊕ sg_S) → sg_X
  | .inl a => .inr (2, [some (.ref k0), some (.ref k1), some (.int a.1)], a.2)
  | .inr e => .inr (20, [none, none, none], e)
def md_copyRow_2_L (σ : sg_S) (k0 n0 : Nat) (k1 n1 : Nat)  (a : (Int32 × sg_S)) : Option ((Int32 × sg_S) ⊕ sg_S) :=
  (if a.1 < 119 then (if sg_in a.1 n0 = true then (if sg_in a.1 n1 = true then sg_let (sg_st a.2 k1 a.1.toNatClampNeg (a.2 k0 a.1.toNatClampNeg)) (fun s1 => some (.inl ((a.1 + 1), s1))) else none) else none) else some (.inr a.2))
set_option maxRecDepth 20000 in
set_option maxHeartbeats 2000000 in
theorem e_md_copyRow_2_L (σ : sg_S) (k0 n0 : Nat) (k1 n1 : Nat)  (hk0 : sg_A k0 = some n0) (hk1 : sg_A k1 = some n1) : ∀ a : (Int32 × sg_S), Ev mX5_copyRow (rmL 0) 2 [some (.ref k0), some (.ref k1), some (.int a.1)] [] a.2 (md_copyRow_2_X σ k0 n0 k1 n1 ) (md_copyRow_2_L σ k0 n0 k1 n1  a) := by
  intro a
  unfold md_copyRow_2_L
  refine ev_iload_n iX5_copyRow_2 rfl rfl ?_
  refine ev_bipush iX5_copyRow_3 kB_119 ?_
  refine ev_icmp_ge iX5_copyRow_5 ?_ ?_
  · refine ev_aload_n iX5_copyRow_8 rfl (sg_A_ne hk1) rfl ?_
    refine ev_iload_n iX5_copyRow_9 rfl rfl ?_
    refine ev_aload_n iX5_copyRow_10 rfl (sg_A_ne hk0) rfl ?_
    refine ev_iload_n iX5_copyRow_11 rfl rfl ?_
    refine ev_iald iX5_copyRow_12 hk0 ?_
    refine ev_iast iX5_copyRow_13 hk1 ?_
    refine ev_let (fun s1 => ?_)
    refine ev_iinc (v := (a.1 + 1)) (ls2 := [some (.ref k0), some (.ref k1), some (.int (a.1 + 1))]) iX5_copyRow_14 rfl (by rw [kI_1]) (Nat.le_of_ble_eq_true rfl) rfl rfl ?_
    refine ev_goto iX5_copyRow_17 ?_
    exact ev_exit rfl ⟨rfl, rfl, rfl, trivial⟩
  · exact ev_exit rfl trivial
def md_copyRow (σ : sg_S) (k0 n0 : Nat) (k1 n1 : Nat) : Option sg_S :=
  ((sg_lp (md_copyRow_2_L σ k0 n0 k1 n1 ) 1000 (0, σ)).bind fun e4 => some e4)
set_option maxRecDepth 20000 in
set_option maxHeartbeats 2000000 in
theorem c_md_copyRow (σ : sg_S) (k0 n0 : Nat) (k1 n1 : Nat) (hk0 : sg_A k0 = some n0) (hk1 : sg_A k1 = some n1) : sg_Call yX5_copyRow mX5_copyRow (rmL 0) [.ref k0, .ref k1] σ eMV (md_copyRow σ k0 n0 k1 n1) := by
  refine sg_call_of (by decide +kernel) rfl (Nat.le_of_ble_eq_true rfl) rfl (fun _ => rfl) ?_
  refine ev_less (ls2 := [some (.ref k0), some (.ref k1), none]) ?_ ⟨rfl, rfl, trivial⟩
  unfold md_copyRow
  refine ev_iconst iX5_copyRow_0 kI_0 ?_
  refine ev_istore_n (ls2 := [some (.ref k0), some (.ref k1), some (.int 0)]) iX5_copyRow_1 rfl (Nat.le_of_ble_eq_true rfl) (Nat.le_of_ble_eq_true rfl) rfl rfl ?_
  refine ev_less (ls2 := [some (.ref k0), some (.ref k1), some (.int 0)]) ?_ ⟨rfl, rfl, rfl, trivial⟩
  refine ev_seq1 20 (fun z3 => [none, none, none]) (fun z3 => z3) (ev_loop (embB := md_copyRow_2_X σ k0 n0 k1 n1 ) (ex := fun b => md_copyRow_2_X σ k0 n0 k1 n1  (.inr b)) 2 (fun z2 => [some (.ref k0), some (.ref k1), some (.int z2.1)]) (fun z2 => z2.2) (fun _ => rfl) (fun _ => rfl) (e_md_copyRow_2_L σ k0 n0 k1 n1  hk0 hk1) 1000 (0, σ)) (fun _ => rfl) (fun e4 => ?_)
  exact ev_vret iX5_copyRow_20 rfl
def md_bits_4_X (σ : sg_S)   : ((Int32 × Int32) ⊕ Int32) → sg_X
  | .inl a => .inr (4, [none, some (.int a.1), some (.int a.2)], σ)
  | .inr e => .inr (20, [none, some (.int e), none], σ)
def md_bits_4_L (σ : sg_S)   (a : (Int32 × Int32)) : Option ((Int32 × Int32) ⊕ Int32) :=
  (if a.2 = 0 then some (.inr a.1) else sg_leti (a.2 &&& (a.2 - 1)) (fun x1 => some (.inl ((a.1 + 1), x1))))
set_option maxRecDepth 20000 in
set_option maxHeartbeats 2000000 in
theorem e_md_bits_4_L (σ : sg_S)    : ∀ a : (Int32 × Int32), Ev mX5_bits (rmL 0) 4 [none, some (.int a.1), some (.int a.2)] [] σ (md_bits_4_X σ  ) (md_bits_4_L σ   a) := by
  intro a
  unfold md_bits_4_L
  refine ev_iload_n iX5_bits_4 rfl rfl ?_
  refine ev_if_eq iX5_bits_5 ?_ ?_
  · exact ev_exit rfl ⟨rfl, trivial⟩
  · refine ev_iinc (v := (a.1 + 1)) (ls2 := [none, some (.int (a.1 + 1)), some (.int a.2)]) iX5_bits_8 rfl (by rw [kI_1]) (Nat.le_of_ble_eq_true rfl) rfl rfl ?_
    refine ev_iload_n iX5_bits_11 rfl rfl ?_
    refine ev_iload_n iX5_bits_12 rfl rfl ?_
    refine ev_iconst iX5_bits_13 kI_1 ?_
    refine ev_isub iX5_bits_14 ?_
    refine ev_iand iX5_bits_15 ?_
    refine ev_leti (fun x1 => ?_)
    refine ev_istore_n (ls2 := [none, some (.int (a.1 + 1)), some (.int x1)]) iX5_bits_16 rfl (Nat.le_of_ble_eq_true rfl) (Nat.le_of_ble_eq_true rfl) rfl rfl ?_
    refine ev_goto iX5_bits_17 ?_
    exact ev_exit rfl ⟨rfl, rfl, trivial⟩
def md_bits (σ : sg_S) (a0 : Int32) : Option Int32 :=
  ((sg_lp (md_bits_4_L σ  ) 1000 (0, a0)).bind fun e4 => some e4)
set_option maxRecDepth 20000 in
set_option maxHeartbeats 2000000 in
theorem c_md_bits (σ : sg_S) (a0 : Int32)  : sg_Call yX5_bits mX5_bits (rmL 0) [.int a0] σ (eRI σ) (md_bits σ a0) := by
  refine sg_call_of (by decide +kernel) rfl (Nat.le_of_ble_eq_true rfl) rfl (fun _ => rfl) ?_
  refine ev_less (ls2 := [some (.int a0), none, none]) ?_ ⟨rfl, trivial⟩
  unfold md_bits
  refine ev_iconst iX5_bits_0 kI_0 ?_
  refine ev_istore_n (ls2 := [some (.int a0), some (.int 0), none]) iX5_bits_1 rfl (Nat.le_of_ble_eq_true rfl) (Nat.le_of_ble_eq_true rfl) rfl rfl ?_
  refine ev_iload_n iX5_bits_2 rfl rfl ?_
  refine ev_istore_n (ls2 := [some (.int a0), some (.int 0), some (.int a0)]) iX5_bits_3 rfl (Nat.le_of_ble_eq_true rfl) (Nat.le_of_ble_eq_true rfl) rfl rfl ?_
  refine ev_less (ls2 := [none, some (.int 0), some (.int a0)]) ?_ ⟨rfl, rfl, trivial⟩
  refine ev_seq1 20 (fun z3 => [none, some (.int z3), none]) (fun _ => σ) (ev_loop (embB := md_bits_4_X σ  ) (ex := fun b => md_bits_4_X σ   (.inr b)) 4 (fun z2 => [none, some (.int z2.1), some (.int z2.2)]) (fun _ => σ) (fun _ => rfl) (fun _ => rfl) (e_md_bits_4_L σ   ) 1000 (0, a0)) (fun _ => rfl) (fun e4 => ?_)
  refine ev_iload_n iX5_bits_20 rfl rfl ?_
  exact ev_iret iX5_bits_21 rfl (narI rfl _)
def md_placeNow (σ : sg_S)  : Option Int32 :=
  some (5 + (jrem (σ 63 0) 6))
set_option maxRecDepth 20000 in
set_option maxHeartbeats 2000000 in
theorem c_md_placeNow (σ : sg_S)   : sg_Call yX5_placeNow mX5_placeNow (rmL 0) [.ref 62] σ (eRI σ) (md_placeNow σ ) := by
  refine sg_call_of (by decide +kernel) rfl (Nat.le_of_ble_eq_true rfl) rfl (fun _ => rfl) ?_
  refine ev_less (ls2 := [some (.ref 62)]) ?_ ⟨rfl, trivial⟩
  unfold md_placeNow
  refine ev_iconst iX5_placeNow_0 kI_5 ?_
  refine ev_aload_n iX5_placeNow_1 rfl (by decide) rfl ?_
  refine ev_getR (k1 := 63) 5 0 iX5_placeNow_2 kF_X5_9 O_62 rfl (by decide) ?_
  refine ev_iconst iX5_placeNow_5 kI_0 ?_
  refine ev_ialdK 0 iX5_placeNow_6 A_63 rfl rfl ?_
  refine ev_bipush iX5_placeNow_7 kB_6 ?_
  refine ev_iremK iX5_placeNow_9 (by decide) ?_
  refine ev_iadd iX5_placeNow_10 ?_
  exact ev_iret iX5_placeNow_11 rfl (narI rfl _)
def md_personAt (σ : sg_S) (a0 : Int32) (a1 : Int32) : Option Int32 :=
  some ((21 + (4 * a0)) + a1)
set_option maxRecDepth 20000 in
set_option maxHeartbeats 2000000 in
theorem c_md_personAt (σ : sg_S) (a0 : Int32) (a1 : Int32)  : sg_Call yX5_personAt mX5_personAt (rmL 0) [.int a0, .int a1] σ (eRI σ) (md_personAt σ a0 a1) := by
  refine sg_call_of (by decide +kernel) rfl (Nat.le_of_ble_eq_true rfl) rfl (fun _ => rfl) ?_
  refine ev_less (ls2 := [some (.int a0), some (.int a1)]) ?_ ⟨rfl, rfl, trivial⟩
  unfold md_personAt
  refine ev_bipush iX5_personAt_0 kB_21 ?_
  refine ev_iconst iX5_personAt_2 kI_4 ?_
  refine ev_iload_n iX5_personAt_3 rfl rfl ?_
  refine ev_imul iX5_personAt_4 ?_
  refine ev_iadd iX5_personAt_5 ?_
  refine ev_iload_n iX5_personAt_6 rfl rfl ?_
  refine ev_iadd iX5_personAt_7 ?_
  exact ev_iret iX5_personAt_8 rfl (narI rfl _)
def md_sayingAt (σ : sg_S) (a0 : Int32) (a1 : Int32) : Option Int32 :=
  some ((53 + (11 * a0)) + a1)
set_option maxRecDepth 20000 in
set_option maxHeartbeats 2000000 in
theorem c_md_sayingAt (σ : sg_S) (a0 : Int32) (a1 : Int32)  : sg_Call yX5_sayingAt mX5_sayingAt (rmL 0) [.int a0, .int a1] σ (eRI σ) (md_sayingAt σ a0 a1) := by
  refine sg_call_of (by decide +kernel) rfl (Nat.le_of_ble_eq_true rfl) rfl (fun _ => rfl) ?_
  refine ev_less (ls2 := [some (.int a0), some (.int a1)]) ?_ ⟨rfl, rfl, trivial⟩
  unfold md_sayingAt
  refine ev_bipush iX5_sayingAt_0 kB_53 ?_
  refine ev_bipush iX5_sayingAt_2 kB_11 ?_
  refine ev_iload_n iX5_sayingAt_4 rfl rfl ?_
  refine ev_imul iX5_sayingAt_5 ?_
  refine ev_iadd iX5_sayingAt_6 ?_
  refine ev_iload_n iX5_sayingAt_7 rfl rfl ?_
  refine ev_iadd iX5_sayingAt_8 ?_
  exact ev_iret iX5_sayingAt_9 rfl (narI rfl _)
def md_greatest_3_X (σ : sg_S)  (f0 : Int32) : (Int32 ⊕ Int32) → sg_X
  | .inl a => .inr (3, [some (.int f0), some (.int a)], σ)
  | .inr e => .inr (21, [none, some (.int e)], σ)
def md_greatest_3_L (σ : sg_S)  (f0 : Int32) (a : Int32) : Option (Int32 ⊕ Int32) :=
  (if a < 0 then some (.inr a) else (if ((jshr f0 a) &&& 1) = 0 then (sg_leti (a + (-1)) (fun x1 => some (.inl x1))) else some (.inr a)))
set_option maxRecDepth 20000 in
set_option maxHeartbeats 2000000 in
theorem e_md_greatest_3_L (σ : sg_S)  (f0 : Int32)  : ∀ a : Int32, Ev mX5_greatest (rmL 0) 3 [some (.int f0), some (.int a)] [] σ (md_greatest_3_X σ  f0) (md_greatest_3_L σ  f0 a) := by
  intro a
  unfold md_greatest_3_L
  refine ev_iload_n iX5_greatest_3 rfl rfl ?_
  refine ev_if_lt iX5_greatest_4 ?_ ?_
  · exact ev_exit rfl ⟨rfl, trivial⟩
  · refine ev_iload_n iX5_greatest_7 rfl rfl ?_
    refine ev_iload_n iX5_greatest_8 rfl rfl ?_
    refine ev_ishr iX5_greatest_9 ?_
    refine ev_iconst iX5_greatest_10 kI_1 ?_
    refine ev_iand iX5_greatest_11 ?_
    refine ev_if_ne iX5_greatest_12 ?_ ?_
    · refine ev_iincN (fun x1 => [some (.int f0), some (.int x1)]) iX5_greatest_15 rfl kI_m1 (Nat.le_of_ble_eq_true rfl) rfl (fun _ => rfl) (fun x1 => ?_)
      refine ev_goto iX5_greatest_18 ?_
      exact ev_exit rfl ⟨rfl, rfl, trivial⟩
    · exact ev_exit rfl ⟨rfl, trivial⟩
def md_greatest (σ : sg_S) (a0 : Int32) : Option Int32 :=
  ((sg_lp (md_greatest_3_L σ  a0) 1000 7).bind fun e4 => some e4)
set_option maxRecDepth 20000 in
set_option maxHeartbeats 2000000 in
theorem c_md_greatest (σ : sg_S) (a0 : Int32)  : sg_Call yX5_greatest mX5_greatest (rmL 0) [.int a0] σ (eRI σ) (md_greatest σ a0) := by
  refine sg_call_of (by decide +kernel) rfl (Nat.le_of_ble_eq_true rfl) rfl (fun _ => rfl) ?_
  refine ev_less (ls2 := [some (.int a0), none]) ?_ ⟨rfl, trivial⟩
  unfold md_greatest
  refine ev_bipush iX5_greatest_0 kB_7 ?_
  refine ev_istore_n (ls2 := [some (.int a0), some (.int 7)]) iX5_greatest_2 rfl (Nat.le_of_ble_eq_true rfl) (Nat.le_of_ble_eq_true rfl) rfl rfl ?_
  refine ev_less (ls2 := [some (.int a0), some (.int 7)]) ?_ ⟨rfl, rfl, trivial⟩
  refine ev_seq1 21 (fun z3 => [none, some (.int z3)]) (fun _ => σ) (ev_loop (embB := md_greatest_3_X σ  a0) (ex := fun b => md_greatest_3_X σ  a0 (.inr b)) 3 (fun z2 => [some (.int a0), some (.int z2)]) (fun _ => σ) (fun _ => rfl) (fun _ => rfl) (e_md_greatest_3_L σ  a0 ) 1000 7) (fun _ => rfl) (fun e4 => ?_)
  refine ev_iload_n iX5_greatest_21 rfl rfl ?_
  exact ev_iret iX5_greatest_22 rfl (narI rfl _)
def md_drawn (σ : sg_S)  : Option (Int32 × sg_S) :=
  sg_let (sg_st σ 63 2 (((σ 63 2) * 1103515245) + 12345)) (fun s1 => some ((jushr (s1 63 2) 8), s1))
set_option maxRecDepth 20000 in
set_option maxHeartbeats 2000000 in
theorem c_md_drawn (σ : sg_S)   : sg_Call yX5_drawn mX5_drawn (rmL 0) [.ref 62] σ eMI (md_drawn σ ) := by
  refine sg_call_of (by decide +kernel) rfl (Nat.le_of_ble_eq_true rfl) rfl (fun _ => rfl) ?_
  refine ev_less (ls2 := [some (.ref 62)]) ?_ ⟨rfl, trivial⟩
  unfold md_drawn
  refine ev_aload_n iX5_drawn_0 rfl (by decide) rfl ?_
  refine ev_getR (k1 := 63) 5 0 iX5_drawn_1 kF_X5_9 O_62 rfl (by decide) ?_
  refine ev_iconst iX5_drawn_4 kI_2 ?_
  refine ev_aload_n iX5_drawn_5 rfl (by decide) rfl ?_
  refine ev_getR (k1 := 63) 5 0 iX5_drawn_6 kF_X5_9 O_62 rfl (by decide) ?_
  refine ev_iconst iX5_drawn_9 kI_2 ?_
  refine ev_ialdK 2 iX5_drawn_10 A_63 rfl rfl ?_
  refine ev_ldc iX5_drawn_11 kC_X5_243 ?_
  refine ev_imul iX5_drawn_13 ?_
  refine ev_sipush iX5_drawn_14 kH_12345 ?_
  refine ev_iadd iX5_drawn_17 ?_
  refine ev_iastK 2 iX5_drawn_18 A_63 rfl rfl ?_
  refine ev_let (fun s1 => ?_)
  refine ev_aload_n iX5_drawn_19 rfl (by decide) rfl ?_
  refine ev_getR (k1 := 63) 5 0 iX5_drawn_20 kF_X5_9 O_62 rfl (by decide) ?_
  refine ev_iconst iX5_drawn_23 kI_2 ?_
  refine ev_ialdK 2 iX5_drawn_24 A_63 rfl rfl ?_
  refine ev_bipush iX5_drawn_25 kB_8 ?_
  refine ev_iushr iX5_drawn_27 ?_
  exact ev_iret iX5_drawn_28 rfl (narI rfl _)
def md_wipe (σ : sg_S)  : Option (Int32 × sg_S) :=
  sg_leti (σ 62 6) (fun x1 => sg_let (sg_st σ 62 6 0) (fun s2 => some (x1, s2)))
set_option maxRecDepth 20000 in
set_option maxHeartbeats 2000000 in
theorem c_md_wipe (σ : sg_S)   : sg_Call yX5_wipe mX5_wipe (rmL 0) [.ref 62] σ eMI (md_wipe σ ) := by
  refine sg_call_of (by decide +kernel) rfl (Nat.le_of_ble_eq_true rfl) rfl (fun _ => rfl) ?_
  refine ev_less (ls2 := [some (.ref 62), none]) ?_ ⟨rfl, trivial⟩
  unfold md_wipe
  refine ev_aload_n iX5_wipe_0 rfl (by decide) rfl ?_
  refine ev_getI 5 6 iX5_wipe_1 kF_X5_247 O_62 rfl ?_
  refine ev_leti (fun x1 => ?_)
  refine ev_istore_n (ls2 := [some (.ref 62), some (.int x1)]) iX5_wipe_4 rfl (Nat.le_of_ble_eq_true rfl) (Nat.le_of_ble_eq_true rfl) rfl rfl ?_
  refine ev_aload_n iX5_wipe_5 rfl (by decide) rfl ?_
  refine ev_iconst iX5_wipe_6 kI_0 ?_
  refine ev_putI 5 6 iX5_wipe_7 kF_X5_247 fp_5_6 rfl rfl O_62 rfl ?_
  refine ev_let (fun s2 => ?_)
  refine ev_iload_n iX5_wipe_10 rfl rfl ?_
  exact ev_iret iX5_wipe_11 rfl (narI rfl _)
def md_byteAt (σ : sg_S) (a1 : Int32) : Option Int32 :=
  (if a1 < (σ 62 6) then (if sg_in a1 120 = true then some (σ 67 a1.toNatClampNeg) else none) else some (-1))
set_option maxRecDepth 20000 in
set_option maxHeartbeats 2000000 in
theorem c_md_byteAt (σ : sg_S) (a1 : Int32)  : sg_Call yX5_byteAt mX5_byteAt (rmL 0) [.ref 62, .int a1] σ (eRI σ) (md_byteAt σ a1) := by
  refine sg_call_of (by decide +kernel) rfl (Nat.le_of_ble_eq_true rfl) rfl (fun _ => rfl) ?_
  refine ev_less (ls2 := [some (.ref 62), some (.int a1)]) ?_ ⟨rfl, rfl, trivial⟩
  unfold md_byteAt
  refine ev_iload_n iX5_byteAt_0 rfl rfl ?_
  refine ev_aload_n iX5_byteAt_1 rfl (by decide) rfl ?_
  refine ev_getI 5 6 iX5_byteAt_2 kF_X5_247 O_62 rfl ?_
  refine ev_icmp_ge iX5_byteAt_5 ?_ ?_
  · refine ev_aload_n iX5_byteAt_8 rfl (by decide) rfl ?_
    refine ev_getR (k1 := 67) 5 5 iX5_byteAt_9 kF_X5_22 O_62 rfl (by decide) ?_
    refine ev_iload_n iX5_byteAt_12 rfl rfl ?_
    refine ev_iald iX5_byteAt_13 A_67 ?_
    refine ev_goto iX5_byteAt_14 ?_
    exact ev_iret iX5_byteAt_18 rfl (narI rfl _)
  · refine ev_iconst iX5_byteAt_17 kI_m1 ?_
    exact ev_iret iX5_byteAt_18 rfl (narI rfl _)
def md_addItem (σ : sg_S) (a1 : Int32) (a2 : Int32) (a3 : Int32) (a4 : Int32) : Option sg_S :=
  sg_leti (4 * (σ 62 14)) (fun x1 => (if sg_in x1 480 = true then sg_let (sg_st σ 69 x1.toNatClampNeg a1) (fun s2 => (if sg_in (x1 + 1) 480 = true then sg_let (sg_st s2 69 (x1 + 1).toNatClampNeg a2) (fun s3 => (if sg_in (x1 + 2) 480 = true then sg_let (sg_st s3 69 (x1 + 2).toNatClampNeg a3) (fun s4 => (if sg_in (x1 + 3) 480 = true then sg_let (sg_st s4 69 (x1 + 3).toNatClampNeg a4) (fun s5 => sg_let (sg_st s5 62 14 ((s5 62 14) + 1)) (fun s6 => some s6)) else none)) else none)) else none)) else none))
set_option maxRecDepth 20000 in
set_option maxHeartbeats 2000000 in
theorem c_md_addItem (σ : sg_S) (a1 : Int32) (a2 : Int32) (a3 : Int32) (a4 : Int32)  : sg_Call yX5_addItem mX5_addItem (rmL 0) [.ref 62, .int a1, .int a2, .int a3, .int a4] σ eMV (md_addItem σ a1 a2 a3 a4) := by
  refine sg_call_of (by decide +kernel) rfl (Nat.le_of_ble_eq_true rfl) rfl (fun _ => rfl) ?_
  refine ev_less (ls2 := [some (.ref 62), some (.int a1), some (.int a2), some (.int a3), some (.int a4), none]) ?_ ⟨rfl, rfl, rfl, rfl, rfl, trivial⟩
  unfold md_addItem
  refine ev_iconst iX5_addItem_0 kI_4 ?_
  refine ev_aload_n iX5_addItem_1 rfl (by decide) rfl ?_
  refine ev_getI 5 14 iX5_addItem_2 kF_X5_284 O_62 rfl ?_
  refine ev_imul iX5_addItem_5 ?_
  refine ev_leti (fun x1 => ?_)
  refine ev_istore (ls2 := [some (.ref 62), some (.int a1), some (.int a2), some (.int a3), some (.int a4), some (.int x1)]) iX5_addItem_6 (Nat.le_of_ble_eq_true rfl) (Nat.le_of_ble_eq_true rfl) rfl rfl ?_
  refine ev_aload_n iX5_addItem_8 rfl (by decide) rfl ?_
  refine ev_getR (k1 := 69) 5 13 iX5_addItem_9 kF_X5_45 O_62 rfl (by decide) ?_
  refine ev_iload iX5_addItem_12 rfl ?_
  refine ev_iload_n iX5_addItem_14 rfl rfl ?_
  refine ev_iast iX5_addItem_15 A_69 ?_
  refine ev_let (fun s2 => ?_)
  refine ev_aload_n iX5_addItem_16 rfl (by decide) rfl ?_
  refine ev_getR (k1 := 69) 5 13 iX5_addItem_17 kF_X5_45 O_62 rfl (by decide) ?_
  refine ev_iload iX5_addItem_20 rfl ?_
  refine ev_iconst iX5_addItem_22 kI_1 ?_
  refine ev_iadd iX5_addItem_23 ?_
  refine ev_iload_n iX5_addItem_24 rfl rfl ?_
  refine ev_iast iX5_addItem_25 A_69 ?_
  refine ev_let (fun s3 => ?_)
  refine ev_aload_n iX5_addItem_26 rfl (by decide) rfl ?_
  refine ev_getR (k1 := 69) 5 13 iX5_addItem_27 kF_X5_45 O_62 rfl (by decide) ?_
  refine ev_iload iX5_addItem_30 rfl ?_
  refine ev_iconst iX5_addItem_32 kI_2 ?_
  refine ev_iadd iX5_addItem_33 ?_
  refine ev_iload_n iX5_addItem_34 rfl rfl ?_
  refine ev_iast iX5_addItem_35 A_69 ?_
  refine ev_let (fun s4 => ?_)
  refine ev_aload_n iX5_addItem_36 rfl (by decide) rfl ?_
  refine ev_getR (k1 := 69) 5 13 iX5_addItem_37 kF_X5_45 O_62 rfl (by decide) ?_
  refine ev_iload iX5_addItem_40 rfl ?_
  refine ev_iconst iX5_addItem_42 kI_3 ?_
  refine ev_iadd iX5_addItem_43 ?_
  refine ev_iload iX5_addItem_44 rfl ?_
  refine ev_iast iX5_addItem_46 A_69 ?_
  refine ev_let (fun s5 => ?_)
  refine ev_aload_n iX5_addItem_47 rfl (by decide) rfl ?_
  refine ev_dupR iX5_addItem_48 (by decide) ?_
  refine ev_getI 5 14 iX5_addItem_49 kF_X5_284 O_62 rfl ?_
  refine ev_iconst iX5_addItem_52 kI_1 ?_
  refine ev_iadd iX5_addItem_53 ?_
  refine ev_putI 5 14 iX5_addItem_54 kF_X5_284 fp_5_14 rfl rfl O_62 rfl ?_
  refine ev_let (fun s6 => ?_)
  exact ev_vret iX5_addItem_57 rfl
def md_cutTo (σ : sg_S) (a0 : Int32) (a1 : Int32) : Option Int32 :=
  (if a1 = 8 then some a0.toInt8.toInt32 else (if a1 = 16 then some a0.toInt16.toInt32 else some a0))
set_option maxRecDepth 20000 in
set_option maxHeartbeats 2000000 in
theorem c_md_cutTo (σ : sg_S) (a0 : Int32) (a1 : Int32)  : sg_Call yX5_cutTo mX5_cutTo (rmL 0) [.int a0, .int a1] σ (eRI σ) (md_cutTo σ a0 a1) := by
  refine sg_call_of (by decide +kernel) rfl (Nat.le_of_ble_eq_true rfl) rfl (fun _ => rfl) ?_
  refine ev_less (ls2 := [some (.int a0), some (.int a1)]) ?_ ⟨rfl, rfl, trivial⟩
  unfold md_cutTo
  refine ev_iload_n iX5_cutTo_0 rfl rfl ?_
  refine ev_bipush iX5_cutTo_1 kB_8 ?_
  refine ev_icmp_ne iX5_cutTo_3 ?_ ?_
  · refine ev_iload_n iX5_cutTo_6 rfl rfl ?_
    refine ev_i2b iX5_cutTo_7 ?_
    refine ev_goto iX5_cutTo_8 ?_
    exact ev_iret iX5_cutTo_23 rfl (narI rfl _)
  · refine ev_iload_n iX5_cutTo_11 rfl rfl ?_
    refine ev_bipush iX5_cutTo_12 kB_16 ?_
    refine ev_icmp_ne iX5_cutTo_14 ?_ ?_
    · refine ev_iload_n iX5_cutTo_17 rfl rfl ?_
      refine ev_i2s iX5_cutTo_18 ?_
      refine ev_goto iX5_cutTo_19 ?_
      exact ev_iret iX5_cutTo_23 rfl (narI rfl _)
    · refine ev_iload_n iX5_cutTo_22 rfl rfl ?_
      exact ev_iret iX5_cutTo_23 rfl (narI rfl _)
def md_above (σ : sg_S) (a0 : Int32) : Option Int32 :=
  (if a0 = 0 then some (-1) else (if a0 = 3 then some 2 else (if a0 = 4 then some 3 else (if a0 = 6 then some 1 else some 0))))
set_option maxRecDepth 20000 in
set_option maxHeartbeats 2000000 in
theorem c_md_above (σ : sg_S) (a0 : Int32)  : sg_Call yX5_above mX5_above (rmL 0) [.int a0] σ (eRI σ) (md_above σ a0) := by
  refine sg_call_of (by decide +kernel) rfl (Nat.le_of_ble_eq_true rfl) rfl (fun _ => rfl) ?_
  refine ev_less (ls2 := [some (.int a0)]) ?_ ⟨rfl, trivial⟩
  unfold md_above
  refine ev_iload_n iX5_above_0 rfl rfl ?_
  refine ev_if_ne iX5_above_1 ?_ ?_
  · refine ev_iconst iX5_above_4 kI_m1 ?_
    refine ev_goto iX5_above_5 ?_
    exact ev_iret iX5_above_37 rfl (narI rfl _)
  · refine ev_iload_n iX5_above_8 rfl rfl ?_
    refine ev_iconst iX5_above_9 kI_3 ?_
    refine ev_icmp_ne iX5_above_10 ?_ ?_
    · refine ev_iconst iX5_above_13 kI_2 ?_
      refine ev_goto iX5_above_14 ?_
      exact ev_iret iX5_above_37 rfl (narI rfl _)
    · refine ev_iload_n iX5_above_17 rfl rfl ?_
      refine ev_iconst iX5_above_18 kI_4 ?_
      refine ev_icmp_ne iX5_above_19 ?_ ?_
      · refine ev_iconst iX5_above_22 kI_3 ?_
        refine ev_goto iX5_above_23 ?_
        exact ev_iret iX5_above_37 rfl (narI rfl _)
      · refine ev_iload_n iX5_above_26 rfl rfl ?_
        refine ev_bipush iX5_above_27 kB_6 ?_
        refine ev_icmp_ne iX5_above_29 ?_ ?_
        · refine ev_iconst iX5_above_32 kI_1 ?_
          refine ev_goto iX5_above_33 ?_
          exact ev_iret iX5_above_37 rfl (fun ty _ => nar1 ty)
        · refine ev_iconst iX5_above_36 kI_0 ?_
          exact ev_iret iX5_above_37 rfl (fun ty _ => nar0 ty)
def md_tear (σ : sg_S)  : Option (Int32 × sg_S) :=
  (if (σ 62 3) = 0 then sg_let (sg_st σ 62 3 0) (fun s1 => some (0, s1)) else sg_let (sg_st σ 62 3 0) (fun s2 => some (1, s2)))
set_option maxRecDepth 20000 in
set_option maxHeartbeats 2000000 in
theorem c_md_tear (σ : sg_S)   : sg_Call yX5_tear mX5_tear (rmL 0) [.ref 62] σ eMI (md_tear σ ) := by
  refine sg_call_of (by decide +kernel) rfl (Nat.le_of_ble_eq_true rfl) rfl (fun _ => rfl) ?_
  refine ev_less (ls2 := [some (.ref 62), none]) ?_ ⟨rfl, trivial⟩
  unfold md_tear
  refine ev_aload_n iX5_tear_0 rfl (by decide) rfl ?_
  refine ev_getI 5 3 iX5_tear_1 kF_X5_341 O_62 rfl ?_
  refine ev_if_eq iX5_tear_4 ?_ ?_
  · refine ev_iconst iX5_tear_11 kI_0 ?_
    refine ev_istore_n (ls2 := [some (.ref 62), some (.int 0)]) iX5_tear_12 rfl (Nat.le_of_ble_eq_true rfl) (Nat.le_of_ble_eq_true rfl) rfl rfl ?_
    refine ev_aload_n iX5_tear_13 rfl (by decide) rfl ?_
    refine ev_iconst iX5_tear_14 kI_0 ?_
    refine ev_putI 5 3 iX5_tear_15 kF_X5_341 fp_5_3 rfl rfl O_62 rfl ?_
    refine ev_let (fun s1 => ?_)
    refine ev_iload_n iX5_tear_18 rfl rfl ?_
    exact ev_iret iX5_tear_19 rfl (fun ty _ => nar0 ty)
  · refine ev_iconst iX5_tear_7 kI_1 ?_
    refine ev_goto iX5_tear_8 ?_
    refine ev_istore_n (ls2 := [some (.ref 62), some (.int 1)]) iX5_tear_12 rfl (Nat.le_of_ble_eq_true rfl) (Nat.le_of_ble_eq_true rfl) rfl rfl ?_
    refine ev_aload_n iX5_tear_13 rfl (by decide) rfl ?_
    refine ev_iconst iX5_tear_14 kI_0 ?_
    refine ev_putI 5 3 iX5_tear_15 kF_X5_341 fp_5_3 rfl rfl O_62 rfl ?_
    refine ev_let (fun s2 => ?_)
    refine ev_iload_n iX5_tear_18 rfl rfl ?_
    exact ev_iret iX5_tear_19 rfl (fun ty _ => nar1 ty)
def md_putBack (σ : sg_S) (a1 : Int32) : Option (Int32 × sg_S) :=
  ((md_copyRow σ 65 119 63 119).bind fun r1 => some (a1, r1))
set_option maxRecDepth 20000 in
set_option maxHeartbeats 2000000 in
theorem c_md_putBack (σ : sg_S) (a1 : Int32)  : sg_Call yX5_putBack mX5_putBack (rmL 1) [.ref 62, .int a1] σ eMI (md_putBack σ a1) := by
  refine sg_call_of (by decide +kernel) rfl (Nat.le_of_ble_eq_true rfl) rfl (fun _ => rfl) ?_
  refine ev_less (ls2 := [some (.ref 62), some (.int a1)]) ?_ ⟨rfl, rfl, trivial⟩
  unfold md_putBack
  refine ev_aload_n iX5_putBack_0 rfl (by decide) rfl ?_
  refine ev_getR (k1 := 65) 5 2 iX5_putBack_1 kF_X5_16 O_62 rfl (by decide) ?_
  refine ev_aload_n iX5_putBack_4 rfl (by decide) rfl ?_
  refine ev_getR (k1 := 63) 5 0 iX5_putBack_5 kF_X5_9 O_62 rfl (by decide) ?_
  refine ev_SMV iX5_putBack_8 kS_X5_61 (c_md_copyRow σ 65 119 63 119 A_65 A_63) rfl rfl (Nat.le_of_ble_eq_true rfl) (sg_fitL (by decide) (Nat.le_of_ble_eq_true rfl)) (fun r1 => ?_)
  refine ev_iload_n iX5_putBack_11 rfl rfl ?_
  exact ev_iret iX5_putBack_12 rfl (narI rfl _)
def md_orNone (σ : sg_S) (a1 : Int32) : Option (Int32 × sg_S) :=
  (if a1 < 0 then ((md_finding σ (-1000004)).bind fun r1 => some (r1.1, r1.2)) else some (a1, σ))
set_option maxRecDepth 20000 in
set_option maxHeartbeats 2000000 in
theorem c_md_orNone (σ : sg_S) (a1 : Int32)  : sg_Call yX5_orNone mX5_orNone (rmL 1) [.ref 62, .int a1] σ eMI (md_orNone σ a1) := by
  refine sg_call_of (by decide +kernel) rfl (Nat.le_of_ble_eq_true rfl) rfl (fun _ => rfl) ?_
  refine ev_less (ls2 := [some (.ref 62), some (.int a1)]) ?_ ⟨rfl, rfl, trivial⟩
  unfold md_orNone
  refine ev_iload_n iX5_orNone_0 rfl rfl ?_
  refine ev_if_ge iX5_orNone_1 ?_ ?_
  · refine ev_aload_n iX5_orNone_4 rfl (by decide) rfl ?_
    refine ev_ldc iX5_orNone_5 kC_X5_65 ?_
    refine ev_VMI iX5_orNone_7 kV_X5_66 (c_md_finding σ (-1000004)) rc_62 rfl rfl (Nat.le_of_ble_eq_true rfl) (sg_fitL (by decide) (Nat.le_of_ble_eq_true rfl)) (fun r1 => ?_)
    refine ev_goto iX5_orNone_10 ?_
    exact ev_iret iX5_orNone_14 rfl (narI rfl _)
  · refine ev_iload_n iX5_orNone_13 rfl rfl ?_
    exact ev_iret iX5_orNone_14 rfl (narI rfl _)
def md_isOne (σ : sg_S) (a0 : Int32) : Option Int32 :=
  ((md_within σ a0 0 7).bind fun r1 => (if vp_nar .boolean r1 = r1 then some r1 else none))
set_option maxRecDepth 20000 in
set_option maxHeartbeats 2000000 in
theorem c_md_isOne (σ : sg_S) (a0 : Int32)  : sg_Call yX5_isOne mX5_isOne (rmL 1) [.int a0] σ (eRI σ) (md_isOne σ a0) := by
  refine sg_call_of (by decide +kernel) rfl (Nat.le_of_ble_eq_true rfl) rfl (fun _ => rfl) ?_
  refine ev_less (ls2 := [some (.int a0)]) ?_ ⟨rfl, trivial⟩
  unfold md_isOne
  refine ev_iload_n iX5_isOne_0 rfl rfl ?_
  refine ev_iconst iX5_isOne_1 kI_0 ?_
  refine ev_bipush iX5_isOne_2 kB_7 ?_
  refine ev_SRI iX5_isOne_4 kS_X5_70 (c_md_within σ a0 0 7) rfl rfl (Nat.le_of_ble_eq_true rfl) (sg_fitL (by decide) (Nat.le_of_ble_eq_true rfl)) (fun r1 => ?_)
  refine ev_nar (fun hn => ?_)
  exact ev_iret iX5_isOne_7 rfl (narG rfl hn)
def md_isNine (σ : sg_S) (a0 : Int32) : Option Int32 :=
  ((md_within σ a0 0 9).bind fun r1 => (if vp_nar .boolean r1 = r1 then some r1 else none))
set_option maxRecDepth 20000 in
set_option maxHeartbeats 2000000 in
theorem c_md_isNine (σ : sg_S) (a0 : Int32)  : sg_Call yX5_isNine mX5_isNine (rmL 1) [.int a0] σ (eRI σ) (md_isNine σ a0) := by
  refine sg_call_of (by decide +kernel) rfl (Nat.le_of_ble_eq_true rfl) rfl (fun _ => rfl) ?_
  refine ev_less (ls2 := [some (.int a0)]) ?_ ⟨rfl, trivial⟩
  unfold md_isNine
  refine ev_iload_n iX5_isNine_0 rfl rfl ?_
  refine ev_iconst iX5_isNine_1 kI_0 ?_
  refine ev_bipush iX5_isNine_2 kB_9 ?_
  refine ev_SRI iX5_isNine_4 kS_X5_70 (c_md_within σ a0 0 9) rfl rfl (Nat.le_of_ble_eq_true rfl) (sg_fitL (by decide) (Nat.le_of_ble_eq_true rfl)) (fun r1 => ?_)
  refine ev_nar (fun hn => ?_)
  exact ev_iret iX5_isNine_7 rfl (narG rfl hn)
def md_isPlace (σ : sg_S) (a0 : Int32) : Option Int32 :=
  ((md_within σ a0 0 5).bind fun r1 => (if vp_nar .boolean r1 = r1 then some r1 else none))
set_option maxRecDepth 20000 in
set_option maxHeartbeats 2000000 in
theorem c_md_isPlace (σ : sg_S) (a0 : Int32)  : sg_Call yX5_isPlace mX5_isPlace (rmL 1) [.int a0] σ (eRI σ) (md_isPlace σ a0) := by
  refine sg_call_of (by decide +kernel) rfl (Nat.le_of_ble_eq_true rfl) rfl (fun _ => rfl) ?_
  refine ev_less (ls2 := [some (.int a0)]) ?_ ⟨rfl, trivial⟩
  unfold md_isPlace
  refine ev_iload_n iX5_isPlace_0 rfl rfl ?_
  refine ev_iconst iX5_isPlace_1 kI_0 ?_
  refine ev_iconst iX5_isPlace_2 kI_5 ?_
  refine ev_SRI iX5_isPlace_3 kS_X5_70 (c_md_within σ a0 0 5) rfl rfl (Nat.le_of_ble_eq_true rfl) (sg_fitL (by decide) (Nat.le_of_ble_eq_true rfl)) (fun r1 => ?_)
  refine ev_nar (fun hn => ?_)
  exact ev_iret iX5_isPlace_6 rfl (narG rfl hn)
def md_personIs (σ : sg_S) (a1 : Int32) (a2 : Int32) : Option Int32 :=
  ((md_personAt σ a1 a2).bind fun r1 => (if sg_in r1 119 = true then some (σ 63 r1.toNatClampNeg) else none))
set_option maxRecDepth 20000 in
set_option maxHeartbeats 2000000 in
theorem c_md_personIs (σ : sg_S) (a1 : Int32) (a2 : Int32)  : sg_Call yX5_personIs mX5_personIs (rmL 1) [.ref 62, .int a1, .int a2] σ (eRI σ) (md_personIs σ a1 a2) := by
  refine sg_call_of (by decide +kernel) rfl (Nat.le_of_ble_eq_true rfl) rfl (fun _ => rfl) ?_
  refine ev_less (ls2 := [some (.ref 62), some (.int a1), some (.int a2)]) ?_ ⟨rfl, rfl, rfl, trivial⟩
  unfold md_personIs
  refine ev_aload_n iX5_personIs_0 rfl (by decide) rfl ?_
  refine ev_getR (k1 := 63) 5 0 iX5_personIs_1 kF_X5_9 O_62 rfl (by decide) ?_
  refine ev_iload_n iX5_personIs_4 rfl rfl ?_
  refine ev_iload_n iX5_personIs_5 rfl rfl ?_
  refine ev_SRI iX5_personIs_6 kS_X5_85 (c_md_personAt σ a1 a2) rfl rfl (Nat.le_of_ble_eq_true rfl) (sg_fitL (by decide) (Nat.le_of_ble_eq_true rfl)) (fun r1 => ?_)
  refine ev_iald iX5_personIs_9 A_63 ?_
  exact ev_iret iX5_personIs_10 rfl (narI rfl _)
def md_isPerson (σ : sg_S) (a1 : Int32) : Option Int32 :=
  ((md_within σ a1 0 ((σ 63 1) - 1)).bind fun r1 => (if vp_nar .boolean r1 = r1 then some r1 else none))
set_option maxRecDepth 20000 in
set_option maxHeartbeats 2000000 in
theorem c_md_isPerson (σ : sg_S) (a1 : Int32)  : sg_Call yX5_isPerson mX5_isPerson (rmL 1) [.ref 62, .int a1] σ (eRI σ) (md_isPerson σ a1) := by
  refine sg_call_of (by decide +kernel) rfl (Nat.le_of_ble_eq_true rfl) rfl (fun _ => rfl) ?_
  refine ev_less (ls2 := [some (.ref 62), some (.int a1)]) ?_ ⟨rfl, rfl, trivial⟩
  unfold md_isPerson
  refine ev_iload_n iX5_isPerson_0 rfl rfl ?_
  refine ev_iconst iX5_isPerson_1 kI_0 ?_
  refine ev_aload_n iX5_isPerson_2 rfl (by decide) rfl ?_
  refine ev_getR (k1 := 63) 5 0 iX5_isPerson_3 kF_X5_9 O_62 rfl (by decide) ?_
  refine ev_iconst iX5_isPerson_6 kI_1 ?_
  refine ev_ialdK 1 iX5_isPerson_7 A_63 rfl rfl ?_
  refine ev_iconst iX5_isPerson_8 kI_1 ?_
  refine ev_isub iX5_isPerson_9 ?_
  refine ev_SRI iX5_isPerson_10 kS_X5_70 (c_md_within σ a1 0 ((σ 63 1) - 1)) rfl rfl (Nat.le_of_ble_eq_true rfl) (sg_fitL (by decide) (Nat.le_of_ble_eq_true rfl)) (fun r1 => ?_)
  refine ev_nar (fun hn => ?_)
  exact ev_iret iX5_isPerson_13 rfl (narG rfl hn)
def md_sayingIs (σ : sg_S) (a1 : Int32) (a2 : Int32) : Option Int32 :=
  ((md_sayingAt σ a1 a2).bind fun r1 => (if sg_in r1 119 = true then some (σ 63 r1.toNatClampNeg) else none))
set_option maxRecDepth 20000 in
set_option maxHeartbeats 2000000 in
theorem c_md_sayingIs (σ : sg_S) (a1 : Int32) (a2 : Int32)  : sg_Call yX5_sayingIs mX5_sayingIs (rmL 1) [.ref 62, .int a1, .int a2] σ (eRI σ) (md_sayingIs σ a1 a2) := by
  refine sg_call_of (by decide +kernel) rfl (Nat.le_of_ble_eq_true rfl) rfl (fun _ => rfl) ?_
  refine ev_less (ls2 := [some (.ref 62), some (.int a1), some (.int a2)]) ?_ ⟨rfl, rfl, rfl, trivial⟩
  unfold md_sayingIs
  refine ev_aload_n iX5_sayingIs_0 rfl (by decide) rfl ?_
  refine ev_getR (k1 := 63) 5 0 iX5_sayingIs_1 kF_X5_9 O_62 rfl (by decide) ?_
  refine ev_iload_n iX5_sayingIs_4 rfl rfl ?_
  refine ev_iload_n iX5_sayingIs_5 rfl rfl ?_
  refine ev_SRI iX5_sayingIs_6 kS_X5_88 (c_md_sayingAt σ a1 a2) rfl rfl (Nat.le_of_ble_eq_true rfl) (sg_fitL (by decide) (Nat.le_of_ble_eq_true rfl)) (fun r1 => ?_)
  refine ev_iald iX5_sayingIs_9 A_63 ?_
  exact ev_iret iX5_sayingIs_10 rfl (narI rfl _)
def md_isSaying (σ : sg_S) (a1 : Int32) : Option Int32 :=
  ((md_within σ a1 0 ((σ 63 3) - 1)).bind fun r1 => (if vp_nar .boolean r1 = r1 then some r1 else none))
set_option maxRecDepth 20000 in
set_option maxHeartbeats 2000000 in
theorem c_md_isSaying (σ : sg_S) (a1 : Int32)  : sg_Call yX5_isSaying mX5_isSaying (rmL 1) [.ref 62, .int a1] σ (eRI σ) (md_isSaying σ a1) := by
  refine sg_call_of (by decide +kernel) rfl (Nat.le_of_ble_eq_true rfl) rfl (fun _ => rfl) ?_
  refine ev_less (ls2 := [some (.ref 62), some (.int a1)]) ?_ ⟨rfl, rfl, trivial⟩
  unfold md_isSaying
  refine ev_iload_n iX5_isSaying_0 rfl rfl ?_
  refine ev_iconst iX5_isSaying_1 kI_0 ?_
  refine ev_aload_n iX5_isSaying_2 rfl (by decide) rfl ?_
  refine ev_getR (k1 := 63) 5 0 iX5_isSaying_3 kF_X5_9 O_62 rfl (by decide) ?_
  refine ev_iconst iX5_isSaying_6 kI_3 ?_
  refine ev_ialdK 3 iX5_isSaying_7 A_63 rfl rfl ?_
  refine ev_iconst iX5_isSaying_8 kI_1 ?_
  refine ev_isub iX5_isSaying_9 ?_
  refine ev_SRI iX5_isSaying_10 kS_X5_70 (c_md_within σ a1 0 ((σ 63 3) - 1)) rfl rfl (Nat.le_of_ble_eq_true rfl) (sg_fitL (by decide) (Nat.le_of_ble_eq_true rfl)) (fun r1 => ?_)
  refine ev_nar (fun hn => ?_)
  exact ev_iret iX5_isSaying_13 rfl (narG rfl hn)
def md_isKind (σ : sg_S) (a0 : Int32) : Option Int32 :=
  ((md_within σ a0 0 6).bind fun r1 => (if vp_nar .boolean r1 = r1 then some r1 else none))
set_option maxRecDepth 20000 in
set_option maxHeartbeats 2000000 in
theorem c_md_isKind (σ : sg_S) (a0 : Int32)  : sg_Call yX5_isKind mX5_isKind (rmL 1) [.int a0] σ (eRI σ) (md_isKind σ a0) := by
  refine sg_call_of (by decide +kernel) rfl (Nat.le_of_ble_eq_true rfl) rfl (fun _ => rfl) ?_
  refine ev_less (ls2 := [some (.int a0)]) ?_ ⟨rfl, trivial⟩
  unfold md_isKind
  refine ev_iload_n iX5_isKind_0 rfl rfl ?_
  refine ev_iconst iX5_isKind_1 kI_0 ?_
  refine ev_bipush iX5_isKind_2 kB_6 ?_
  refine ev_SRI iX5_isKind_4 kS_X5_70 (c_md_within σ a0 0 6) rfl rfl (Nat.le_of_ble_eq_true rfl) (sg_fitL (by decide) (Nat.le_of_ble_eq_true rfl)) (fun r1 => ?_)
  refine ev_nar (fun hn => ?_)
  exact ev_iret iX5_isKind_7 rfl (narG rfl hn)
def md_comes (σ : sg_S) (a1 : Int32) (a2 : Int32) : Option (Int32 × sg_S) :=
  sg_leti (σ 63 1) (fun x1 => ((md_personAt σ x1 0).bind fun r2 => (if sg_in r2 119 = true then sg_let (sg_st σ 63 r2.toNatClampNeg a1) (fun s3 => ((md_personAt s3 x1 1).bind fun r4 => (if sg_in r4 119 = true then sg_let (sg_st s3 63 r4.toNatClampNeg a2) (fun s5 => ((md_personAt s5 x1 2).bind fun r6 => (if sg_in r6 119 = true then sg_let (sg_st s5 63 r6.toNatClampNeg 0) (fun s7 => ((md_personAt s7 x1 3).bind fun r8 => (if sg_in r8 119 = true then sg_let (sg_st s7 63 r8.toNatClampNeg 0) (fun s9 => sg_let (sg_st s9 63 1 ((s9 63 1) + 1)) (fun s10 => some (x1, s10))) else none))) else none))) else none))) else none)))
set_option maxRecDepth 20000 in
set_option maxHeartbeats 2000000 in
theorem c_md_comes (σ : sg_S) (a1 : Int32) (a2 : Int32)  : sg_Call yX5_comes mX5_comes (rmL 1) [.ref 62, .int a1, .int a2] σ eMI (md_comes σ a1 a2) := by
  refine sg_call_of (by decide +kernel) rfl (Nat.le_of_ble_eq_true rfl) rfl (fun _ => rfl) ?_
  refine ev_less (ls2 := [some (.ref 62), some (.int a1), some (.int a2), none]) ?_ ⟨rfl, rfl, rfl, trivial⟩
  unfold md_comes
  refine ev_aload_n iX5_comes_0 rfl (by decide) rfl ?_
  refine ev_getR (k1 := 63) 5 0 iX5_comes_1 kF_X5_9 O_62 rfl (by decide) ?_
  refine ev_iconst iX5_comes_4 kI_1 ?_
  refine ev_ialdK 1 iX5_comes_5 A_63 rfl rfl ?_
  refine ev_leti (fun x1 => ?_)
  refine ev_istore_n (ls2 := [some (.ref 62), some (.int a1), some (.int a2), some (.int x1)]) iX5_comes_6 rfl (Nat.le_of_ble_eq_true rfl) (Nat.le_of_ble_eq_true rfl) rfl rfl ?_
  refine ev_aload_n iX5_comes_7 rfl (by decide) rfl ?_
  refine ev_getR (k1 := 63) 5 0 iX5_comes_8 kF_X5_9 O_62 rfl (by decide) ?_
  refine ev_iload_n iX5_comes_11 rfl rfl ?_
  refine ev_iconst iX5_comes_12 kI_0 ?_
  refine ev_SRI iX5_comes_13 kS_X5_85 (c_md_personAt σ x1 0) rfl rfl (Nat.le_of_ble_eq_true rfl) (sg_fitL (by decide) (Nat.le_of_ble_eq_true rfl)) (fun r2 => ?_)
  refine ev_iload_n iX5_comes_16 rfl rfl ?_
  refine ev_iast iX5_comes_17 A_63 ?_
  refine ev_let (fun s3 => ?_)
  refine ev_aload_n iX5_comes_18 rfl (by decide) rfl ?_
  refine ev_getR (k1 := 63) 5 0 iX5_comes_19 kF_X5_9 O_62 rfl (by decide) ?_
  refine ev_iload_n iX5_comes_22 rfl rfl ?_
  refine ev_iconst iX5_comes_23 kI_1 ?_
  refine ev_SRI iX5_comes_24 kS_X5_85 (c_md_personAt s3 x1 1) rfl rfl (Nat.le_of_ble_eq_true rfl) (sg_fitL (by decide) (Nat.le_of_ble_eq_true rfl)) (fun r4 => ?_)
  refine ev_iload_n iX5_comes_27 rfl rfl ?_
  refine ev_iast iX5_comes_28 A_63 ?_
  refine ev_let (fun s5 => ?_)
  refine ev_aload_n iX5_comes_29 rfl (by decide) rfl ?_
  refine ev_getR (k1 := 63) 5 0 iX5_comes_30 kF_X5_9 O_62 rfl (by decide) ?_
  refine ev_iload_n iX5_comes_33 rfl rfl ?_
  refine ev_iconst iX5_comes_34 kI_2 ?_
  refine ev_SRI iX5_comes_35 kS_X5_85 (c_md_personAt s5 x1 2) rfl rfl (Nat.le_of_ble_eq_true rfl) (sg_fitL (by decide) (Nat.le_of_ble_eq_true rfl)) (fun r6 => ?_)
  refine ev_iconst iX5_comes_38 kI_0 ?_
  refine ev_iast iX5_comes_39 A_63 ?_
  refine ev_let (fun s7 => ?_)
  refine ev_aload_n iX5_comes_40 rfl (by decide) rfl ?_
  refine ev_getR (k1 := 63) 5 0 iX5_comes_41 kF_X5_9 O_62 rfl (by decide) ?_
  refine ev_iload_n iX5_comes_44 rfl rfl ?_
  refine ev_iconst iX5_comes_45 kI_3 ?_
  refine ev_SRI iX5_comes_46 kS_X5_85 (c_md_personAt s7 x1 3) rfl rfl (Nat.le_of_ble_eq_true rfl) (sg_fitL (by decide) (Nat.le_of_ble_eq_true rfl)) (fun r8 => ?_)
  refine ev_iconst iX5_comes_49 kI_0 ?_
  refine ev_iast iX5_comes_50 A_63 ?_
  refine ev_let (fun s9 => ?_)
  refine ev_aload_n iX5_comes_51 rfl (by decide) rfl ?_
  refine ev_getR (k1 := 63) 5 0 iX5_comes_52 kF_X5_9 O_62 rfl (by decide) ?_
  refine ev_iconst iX5_comes_55 kI_1 ?_
  refine ev_dup2 iX5_comes_56 (by decide) ?_
  refine ev_ialdK 1 iX5_comes_57 A_63 rfl rfl ?_
  refine ev_iconst iX5_comes_58 kI_1 ?_
  refine ev_iadd iX5_comes_59 ?_
  refine ev_iastK 1 iX5_comes_60 A_63 rfl rfl ?_
  refine ev_let (fun s10 => ?_)
  refine ev_iload_n iX5_comes_61 rfl rfl ?_
  exact ev_iret iX5_comes_62 rfl (narI rfl _)
def md_isBegun (σ : sg_S) (a1 : Int32) (a2 : Int32) : Option sg_S :=
  ((md_sayingAt σ a1 2).bind fun r1 => (if sg_in r1 119 = true then sg_let (sg_st σ 63 r1.toNatClampNeg (jshl 1 a2)) (fun s2 => ((md_sayingAt s2 a1 (3 + a2)).bind fun r3 => (if sg_in r3 119 = true then sg_let (sg_st s2 63 r3.toNatClampNeg (-1)) (fun s4 => some s4) else none))) else none))
set_option maxRecDepth 20000 in
set_option maxHeartbeats 2000000 in
theorem c_md_isBegun (σ : sg_S) (a1 : Int32) (a2 : Int32)  : sg_Call yX5_isBegun mX5_isBegun (rmL 1) [.ref 62, .int a1, .int a2] σ eMV (md_isBegun σ a1 a2) := by
  refine sg_call_of (by decide +kernel) rfl (Nat.le_of_ble_eq_true rfl) rfl (fun _ => rfl) ?_
  refine ev_less (ls2 := [some (.ref 62), some (.int a1), some (.int a2)]) ?_ ⟨rfl, rfl, rfl, trivial⟩
  unfold md_isBegun
  refine ev_aload_n iX5_isBegun_0 rfl (by decide) rfl ?_
  refine ev_getR (k1 := 63) 5 0 iX5_isBegun_1 kF_X5_9 O_62 rfl (by decide) ?_
  refine ev_iload_n iX5_isBegun_4 rfl rfl ?_
  refine ev_iconst iX5_isBegun_5 kI_2 ?_
  refine ev_SRI iX5_isBegun_6 kS_X5_88 (c_md_sayingAt σ a1 2) rfl rfl (Nat.le_of_ble_eq_true rfl) (sg_fitL (by decide) (Nat.le_of_ble_eq_true rfl)) (fun r1 => ?_)
  refine ev_iconst iX5_isBegun_9 kI_1 ?_
  refine ev_iload_n iX5_isBegun_10 rfl rfl ?_
  refine ev_ishl iX5_isBegun_11 ?_
  refine ev_iast iX5_isBegun_12 A_63 ?_
  refine ev_let (fun s2 => ?_)
  refine ev_aload_n iX5_isBegun_13 rfl (by decide) rfl ?_
  refine ev_getR (k1 := 63) 5 0 iX5_isBegun_14 kF_X5_9 O_62 rfl (by decide) ?_
  refine ev_iload_n iX5_isBegun_17 rfl rfl ?_
  refine ev_iconst iX5_isBegun_18 kI_3 ?_
  refine ev_iload_n iX5_isBegun_19 rfl rfl ?_
  refine ev_iadd iX5_isBegun_20 ?_
  refine ev_SRI iX5_isBegun_21 kS_X5_88 (c_md_sayingAt s2 a1 (3 + a2)) rfl rfl (Nat.le_of_ble_eq_true rfl) (sg_fitL (by decide) (Nat.le_of_ble_eq_true rfl)) (fun r3 => ?_)
  refine ev_iconst iX5_isBegun_24 kI_m1 ?_
  refine ev_iast iX5_isBegun_25 A_63 ?_
  refine ev_let (fun s4 => ?_)
  exact ev_vret iX5_isBegun_26 rfl
def md_more (σ : sg_S) (a1 : Int32) (a2 : Int32) (a3 : Int32) : Option sg_S :=
  (if sg_in a1 119 = true then (if sg_in a1 119 = true then sg_let (sg_st σ 63 a1.toNatClampNeg (jmin a3 ((σ 63 a1.toNatClampNeg) + a2))) (fun s1 => some s1) else none) else none)
set_option maxRecDepth 20000 in
set_option maxHeartbeats 2000000 in
theorem c_md_more (σ : sg_S) (a1 : Int32) (a2 : Int32) (a3 : Int32)  : sg_Call yX5_more mX5_more (rmL 1) [.ref 62, .int a1, .int a2, .int a3] σ eMV (md_more σ a1 a2 a3) := by
  refine sg_call_of (by decide +kernel) rfl (Nat.le_of_ble_eq_true rfl) rfl (fun _ => rfl) ?_
  refine ev_less (ls2 := [some (.ref 62), some (.int a1), some (.int a2), some (.int a3)]) ?_ ⟨rfl, rfl, rfl, rfl, trivial⟩
  unfold md_more
  refine ev_aload_n iX5_more_0 rfl (by decide) rfl ?_
  refine ev_getR (k1 := 63) 5 0 iX5_more_1 kF_X5_9 O_62 rfl (by decide) ?_
  refine ev_iload_n iX5_more_4 rfl rfl ?_
  refine ev_iload_n iX5_more_5 rfl rfl ?_
  refine ev_aload_n iX5_more_6 rfl (by decide) rfl ?_
  refine ev_getR (k1 := 63) 5 0 iX5_more_7 kF_X5_9 O_62 rfl (by decide) ?_
  refine ev_iload_n iX5_more_10 rfl rfl ?_
  refine ev_iald iX5_more_11 A_63 ?_
  refine ev_iload_n iX5_more_12 rfl rfl ?_
  refine ev_iadd iX5_more_13 ?_
  refine ev_min iX5_more_14 kM_X5_153 kM_s kM_i kM_c (Nat.le_of_ble_eq_true rfl) ⟨Nat.le_of_ble_eq_true rfl, Nat.le_of_ble_eq_true rfl⟩ ?_
  refine ev_iast iX5_more_17 A_63 ?_
  refine ev_let (fun s1 => ?_)
  exact ev_vret iX5_more_18 rfl
def md_isThought (σ : sg_S) (a0 : Int32) : Option Int32 :=
  ((md_within σ a0 0 60).bind fun r1 => (if vp_nar .boolean r1 = r1 then some r1 else none))
set_option maxRecDepth 20000 in
set_option maxHeartbeats 2000000 in
theorem c_md_isThought (σ : sg_S) (a0 : Int32)  : sg_Call yX5_isThought mX5_isThought (rmL 1) [.int a0] σ (eRI σ) (md_isThought σ a0) := by
  refine sg_call_of (by decide +kernel) rfl (Nat.le_of_ble_eq_true rfl) rfl (fun _ => rfl) ?_
  refine ev_less (ls2 := [some (.int a0)]) ?_ ⟨rfl, trivial⟩
  unfold md_isThought
  refine ev_iload_n iX5_isThought_0 rfl rfl ?_
  refine ev_iconst iX5_isThought_1 kI_0 ?_
  refine ev_bipush iX5_isThought_2 kB_60 ?_
  refine ev_SRI iX5_isThought_4 kS_X5_70 (c_md_within σ a0 0 60) rfl rfl (Nat.le_of_ble_eq_true rfl) (sg_fitL (by decide) (Nat.le_of_ble_eq_true rfl)) (fun r1 => ?_)
  refine ev_nar (fun hn => ?_)
  exact ev_iret iX5_isThought_7 rfl (narG rfl hn)
def md_seed (σ : sg_S) (a1 : Int32) : Option (Int32 × sg_S) :=
  ((md_become σ 2 a1).bind fun r1 => some (r1.1, r1.2))
set_option maxRecDepth 20000 in
set_option maxHeartbeats 2000000 in
theorem c_md_seed (σ : sg_S) (a1 : Int32)  : sg_Call yX5_seed mX5_seed (rmL 1) [.ref 62, .int a1] σ eMI (md_seed σ a1) := by
  refine sg_call_of (by decide +kernel) rfl (Nat.le_of_ble_eq_true rfl) rfl (fun _ => rfl) ?_
  refine ev_less (ls2 := [some (.ref 62), some (.int a1)]) ?_ ⟨rfl, rfl, trivial⟩
  unfold md_seed
  refine ev_aload_n iX5_seed_0 rfl (by decide) rfl ?_
  refine ev_iconst iX5_seed_1 kI_2 ?_
  refine ev_iload_n iX5_seed_2 rfl rfl ?_
  refine ev_VMI iX5_seed_3 kV_X5_81 (c_md_become σ 2 a1) rc_62 rfl rfl (Nat.le_of_ble_eq_true rfl) (sg_fitL (by decide) (Nat.le_of_ble_eq_true rfl)) (fun r1 => ?_)
  exact ev_iret iX5_seed_6 rfl (narI rfl _)
def md_feed_38_X (σ : sg_S)  (f1 : Int32) : ((Int32 × sg_S) ⊕ sg_S) → sg_X
  | .inl a => .inr (38, [some (.ref 62), some (.int f1), none, some (.int a.1)], a.2)
  | .inr e => .inr (77, [some (.ref 62), none, none, none], e)
def md_feed_38_L (σ : sg_S)  (f1 : Int32) (a : (Int32 × sg_S)) : Option ((Int32 × sg_S) ⊕ sg_S) :=
  (if a.1 < 0 then some (.inr a.2) else (if sg_in (a.2 62 6) 120 = true then sg_let (sg_st a.2 67 (a.2 62 6).toNatClampNeg ((jshr f1 (8 * a.1)) &&& 255)) (fun s5 => sg_let (sg_st s5 62 6 ((s5 62 6) + 1)) (fun s6 => (sg_leti (a.1 + (-1)) (fun x7 => some (.inl (x7, s6)))))) else none))
set_option maxRecDepth 20000 in
set_option maxHeartbeats 2000000 in
theorem e_md_feed_38_L (σ : sg_S)  (f1 : Int32)  : ∀ a : (Int32 × sg_S), Ev mX5_feed (rmL 1) 38 [some (.ref 62), some (.int f1), none, some (.int a.1)] [] a.2 (md_feed_38_X σ  f1) (md_feed_38_L σ  f1 a) := by
  intro a
  unfold md_feed_38_L
  refine ev_iload_n iX5_feed_38 rfl rfl ?_
  refine ev_if_lt iX5_feed_39 ?_ ?_
  · exact ev_exit rfl ⟨rfl, trivial⟩
  · refine ev_aload_n iX5_feed_42 rfl (by decide) rfl ?_
    refine ev_getR (k1 := 67) 5 5 iX5_feed_43 kF_X5_22 O_62 rfl (by decide) ?_
    refine ev_aload_n iX5_feed_46 rfl (by decide) rfl ?_
    refine ev_getI 5 6 iX5_feed_47 kF_X5_247 O_62 rfl ?_
    refine ev_iload_n iX5_feed_50 rfl rfl ?_
    refine ev_bipush iX5_feed_51 kB_8 ?_
    refine ev_iload_n iX5_feed_53 rfl rfl ?_
    refine ev_imul iX5_feed_54 ?_
    refine ev_ishr iX5_feed_55 ?_
    refine ev_sipush iX5_feed_56 kH_255 ?_
    refine ev_iand iX5_feed_59 ?_
    refine ev_iast iX5_feed_60 A_67 ?_
    refine ev_let (fun s5 => ?_)
    refine ev_aload_n iX5_feed_61 rfl (by decide) rfl ?_
    refine ev_dupR iX5_feed_62 (by decide) ?_
    refine ev_getI 5 6 iX5_feed_63 kF_X5_247 O_62 rfl ?_
    refine ev_iconst iX5_feed_66 kI_1 ?_
    refine ev_iadd iX5_feed_67 ?_
    refine ev_putI 5 6 iX5_feed_68 kF_X5_247 fp_5_6 rfl rfl O_62 rfl ?_
    refine ev_let (fun s6 => ?_)
    refine ev_iincN (fun x7 => [some (.ref 62), some (.int f1), none, some (.int x7)]) iX5_feed_71 rfl kI_m1 (Nat.le_of_ble_eq_true rfl) rfl (fun _ => rfl) (fun x7 => ?_)
    refine ev_goto iX5_feed_74 ?_
    exact ev_exit rfl ⟨rfl, rfl, rfl, trivial⟩
def md_feed (σ : sg_S) (a1 : Int32) (a2 : Int32) : Option (Int32 × sg_S) :=
  ((md_within σ a2 1 4).bind fun r1 => (if r1 = 0 then ((md_finding σ (-1000001)).bind fun r2 => some (r2.1, r2.2)) else (if 120 < ((σ 62 6) + a2) then ((md_finding σ (-1000002)).bind fun r3 => some (r3.1, r3.2)) else sg_leti (a2 - 1) (fun x4 => ((sg_lp (md_feed_38_L σ  a1) 1000 (x4, σ)).bind fun e10 => some ((e10 62 6), e10))))))
set_option maxRecDepth 20000 in
set_option maxHeartbeats 2000000 in
theorem c_md_feed (σ : sg_S) (a1 : Int32) (a2 : Int32)  : sg_Call yX5_feed mX5_feed (rmL 1) [.ref 62, .int a1, .int a2] σ eMI (md_feed σ a1 a2) := by
  refine sg_call_of (by decide +kernel) rfl (Nat.le_of_ble_eq_true rfl) rfl (fun _ => rfl) ?_
  refine ev_less (ls2 := [some (.ref 62), some (.int a1), some (.int a2), none]) ?_ ⟨rfl, rfl, rfl, trivial⟩
  unfold md_feed
  refine ev_iload_n iX5_feed_0 rfl rfl ?_
  refine ev_iconst iX5_feed_1 kI_1 ?_
  refine ev_iconst iX5_feed_2 kI_4 ?_
  refine ev_SRI iX5_feed_3 kS_X5_70 (c_md_within σ a2 1 4) rfl rfl (Nat.le_of_ble_eq_true rfl) (sg_fitL (by decide) (Nat.le_of_ble_eq_true rfl)) (fun r1 => ?_)
  refine ev_if_ne iX5_feed_6 ?_ ?_
  · refine ev_aload_n iX5_feed_9 rfl (by decide) rfl ?_
    refine ev_ldc iX5_feed_10 kC_X5_60 ?_
    refine ev_VMI iX5_feed_12 kV_X5_66 (c_md_finding σ (-1000001)) rc_62 rfl rfl (Nat.le_of_ble_eq_true rfl) (sg_fitL (by decide) (Nat.le_of_ble_eq_true rfl)) (fun r2 => ?_)
    exact ev_iret iX5_feed_15 rfl (narI rfl _)
  · refine ev_aload_n iX5_feed_16 rfl (by decide) rfl ?_
    refine ev_getI 5 6 iX5_feed_17 kF_X5_247 O_62 rfl ?_
    refine ev_iload_n iX5_feed_20 rfl rfl ?_
    refine ev_iadd iX5_feed_21 ?_
    refine ev_bipush iX5_feed_22 kB_120 ?_
    refine ev_icmp_le iX5_feed_24 ?_ ?_
    · refine ev_aload_n iX5_feed_27 rfl (by decide) rfl ?_
      refine ev_ldc iX5_feed_28 kC_X5_97 ?_
      refine ev_VMI iX5_feed_30 kV_X5_66 (c_md_finding σ (-1000002)) rc_62 rfl rfl (Nat.le_of_ble_eq_true rfl) (sg_fitL (by decide) (Nat.le_of_ble_eq_true rfl)) (fun r3 => ?_)
      exact ev_iret iX5_feed_33 rfl (narI rfl _)
    · refine ev_iload_n iX5_feed_34 rfl rfl ?_
      refine ev_iconst iX5_feed_35 kI_1 ?_
      refine ev_isub iX5_feed_36 ?_
      refine ev_leti (fun x4 => ?_)
      refine ev_istore_n (ls2 := [some (.ref 62), some (.int a1), some (.int a2), some (.int x4)]) iX5_feed_37 rfl (Nat.le_of_ble_eq_true rfl) (Nat.le_of_ble_eq_true rfl) rfl rfl ?_
      refine ev_less (ls2 := [some (.ref 62), some (.int a1), none, some (.int x4)]) ?_ ⟨rfl, rfl, rfl, trivial⟩
      refine ev_seq1 77 (fun z9 => [some (.ref 62), none, none, none]) (fun z9 => z9) (ev_loop (embB := md_feed_38_X σ  a1) (ex := fun b => md_feed_38_X σ  a1 (.inr b)) 38 (fun z8 => [some (.ref 62), some (.int a1), none, some (.int z8.1)]) (fun z8 => z8.2) (fun _ => rfl) (fun _ => rfl) (e_md_feed_38_L σ  a1 ) 1000 (x4, σ)) (fun _ => rfl) (fun e10 => ?_)
      refine ev_aload_n iX5_feed_77 rfl (by decide) rfl ?_
      refine ev_getI 5 6 iX5_feed_78 kF_X5_247 O_62 rfl ?_
      exact ev_iret iX5_feed_81 rfl (narI rfl _)
def md_token_8_X (σ : sg_S)   : (sg_S ⊕ sg_S) → sg_X
  | .inl a => .inr (8, [some (.ref 62), none], a)
  | .inr e => .inr (34, [some (.ref 62), none], e)
def md_token_8_L (σ : sg_S)   (a : sg_S) : Option (sg_S ⊕ sg_S) :=
  ((md_byteAt a (a 62 7)).bind fun r2 => (if r2 = 32 then sg_let (sg_st a 62 7 ((a 62 7) + 1)) (fun s3 => some (.inl s3)) else some (.inr a)))
set_option maxRecDepth 20000 in
set_option maxHeartbeats 2000000 in
theorem e_md_token_8_L (σ : sg_S)    : ∀ a : sg_S, Ev mX5_token (rmL 1) 8 [some (.ref 62), none] [] a (md_token_8_X σ  ) (md_token_8_L σ   a) := by
  intro a
  unfold md_token_8_L
  refine ev_aload_n iX5_token_8 rfl (by decide) rfl ?_
  refine ev_aload_n iX5_token_9 rfl (by decide) rfl ?_
  refine ev_getI 5 7 iX5_token_10 kF_X5_254 O_62 rfl ?_
  refine ev_VRI iX5_token_13 kV_X5_257 (c_md_byteAt a (a 62 7)) rc_62 rfl rfl (Nat.le_of_ble_eq_true rfl) (sg_fitL (by decide) (Nat.le_of_ble_eq_true rfl)) (fun r2 => ?_)
  refine ev_bipush iX5_token_16 kB_32 ?_
  refine ev_icmp_ne iX5_token_18 ?_ ?_
  · refine ev_aload_n iX5_token_21 rfl (by decide) rfl ?_
    refine ev_dupR iX5_token_22 (by decide) ?_
    refine ev_getI 5 7 iX5_token_23 kF_X5_254 O_62 rfl ?_
    refine ev_iconst iX5_token_26 kI_1 ?_
    refine ev_iadd iX5_token_27 ?_
    refine ev_putI 5 7 iX5_token_28 kF_X5_254 fp_5_7 rfl rfl O_62 rfl ?_
    refine ev_let (fun s3 => ?_)
    refine ev_goto iX5_token_31 ?_
    exact ev_exit rfl ⟨rfl, trivial⟩
  · exact ev_exit rfl ⟨rfl, trivial⟩
def md_token_131_X (σ : sg_S)   : (sg_S ⊕ sg_S) → sg_X
  | .inl a => .inr (131, [some (.ref 62), none], a)
  | .inr e => .inr (206, [none, none], e)
def md_token_131_L (σ : sg_S)   (a : sg_S) : Option (sg_S ⊕ sg_S) :=
  ((md_byteAt a (a 62 8)).bind fun r16 => ((md_within a r16 48 57).bind fun r17 => (if r17 = 0 then some (.inr a) else ((md_byteAt a (a 62 8)).bind fun r18 => sg_let (sg_st a 62 10 (jmin 10000 (((10 * (a 62 10)) + r18) - 48))) (fun s19 => sg_let (sg_st s19 62 8 ((s19 62 8) + 1)) (fun s20 => some (.inl s20)))))))
set_option maxRecDepth 20000 in
set_option maxHeartbeats 2000000 in
theorem e_md_token_131_L (σ : sg_S)    : ∀ a : sg_S, Ev mX5_token (rmL 1) 131 [some (.ref 62), none] [] a (md_token_131_X σ  ) (md_token_131_L σ   a) := by
  intro a
  unfold md_token_131_L
  refine ev_aload_n iX5_token_131 rfl (by decide) rfl ?_
  refine ev_aload_n iX5_token_132 rfl (by decide) rfl ?_
  refine ev_getI 5 8 iX5_token_133 kF_X5_251 O_62 rfl ?_
  refine ev_VRI iX5_token_136 kV_X5_257 (c_md_byteAt a (a 62 8)) rc_62 rfl rfl (Nat.le_of_ble_eq_true rfl) (sg_fitL (by decide) (Nat.le_of_ble_eq_true rfl)) (fun r16 => ?_)
  refine ev_bipush iX5_token_139 kB_48 ?_
  refine ev_bipush iX5_token_141 kB_57 ?_
  refine ev_SRI iX5_token_143 kS_X5_70 (c_md_within a r16 48 57) rfl rfl (Nat.le_of_ble_eq_true rfl) (sg_fitL (by decide) (Nat.le_of_ble_eq_true rfl)) (fun r17 => ?_)
  refine ev_if_eq iX5_token_146 ?_ ?_
  · exact ev_exit rfl trivial
  · refine ev_aload_n iX5_token_149 rfl (by decide) rfl ?_
    refine ev_sipush iX5_token_150 kH_10000 ?_
    refine ev_bipush iX5_token_153 kB_10 ?_
    refine ev_aload_n iX5_token_155 rfl (by decide) rfl ?_
    refine ev_getI 5 10 iX5_token_156 kF_X5_260 O_62 rfl ?_
    refine ev_imul iX5_token_159 ?_
    refine ev_aload_n iX5_token_160 rfl (by decide) rfl ?_
    refine ev_aload_n iX5_token_161 rfl (by decide) rfl ?_
    refine ev_getI 5 8 iX5_token_162 kF_X5_251 O_62 rfl ?_
    refine ev_VRI iX5_token_165 kV_X5_257 (c_md_byteAt a (a 62 8)) rc_62 rfl rfl (Nat.le_of_ble_eq_true rfl) (sg_fitL (by decide) (Nat.le_of_ble_eq_true rfl)) (fun r18 => ?_)
    refine ev_iadd iX5_token_168 ?_
    refine ev_bipush iX5_token_169 kB_48 ?_
    refine ev_isub iX5_token_171 ?_
    refine ev_min iX5_token_172 kM_X5_153 kM_s kM_i kM_c (Nat.le_of_ble_eq_true rfl) ⟨Nat.le_of_ble_eq_true rfl, Nat.le_of_ble_eq_true rfl⟩ ?_
    refine ev_putI 5 10 iX5_token_175 kF_X5_260 fp_5_10 rfl rfl O_62 rfl ?_
    refine ev_let (fun s19 => ?_)
    refine ev_aload_n iX5_token_178 rfl (by decide) rfl ?_
    refine ev_dupR iX5_token_179 (by decide) ?_
    refine ev_getI 5 8 iX5_token_180 kF_X5_251 O_62 rfl ?_
    refine ev_iconst iX5_token_183 kI_1 ?_
    refine ev_iadd iX5_token_184 ?_
    refine ev_putI 5 8 iX5_token_185 kF_X5_251 fp_5_8 rfl rfl O_62 rfl ?_
    refine ev_let (fun s20 => ?_)
    refine ev_goto iX5_token_188 ?_
    exact ev_exit rfl ⟨rfl, trivial⟩
def md_token_84_X (σ : sg_S)   : (sg_S ⊕ sg_S) → sg_X
  | .inl a => .inr (84, [some (.ref 62), none], a)
  | .inr e => .inr (206, [none, none], e)
def md_token_84_L (σ : sg_S)   (a : sg_S) : Option (sg_S ⊕ sg_S) :=
  ((md_byteAt a (a 62 8)).bind fun r25 => ((md_within a r25 97 122).bind fun r26 => (if r26 = 0 then some (.inr a) else sg_let (sg_st a 62 8 ((a 62 8) + 1)) (fun s27 => some (.inl s27)))))
set_option maxRecDepth 20000 in
set_option maxHeartbeats 2000000 in
theorem e_md_token_84_L (σ : sg_S)    : ∀ a : sg_S, Ev mX5_token (rmL 1) 84 [some (.ref 62), none] [] a (md_token_84_X σ  ) (md_token_84_L σ   a) := by
  intro a
  unfold md_token_84_L
  refine ev_aload_n iX5_token_84 rfl (by decide) rfl ?_
  refine ev_aload_n iX5_token_85 rfl (by decide) rfl ?_
  refine ev_getI 5 8 iX5_token_86 kF_X5_251 O_62 rfl ?_
  refine ev_VRI iX5_token_89 kV_X5_257 (c_md_byteAt a (a 62 8)) rc_62 rfl rfl (Nat.le_of_ble_eq_true rfl) (sg_fitL (by decide) (Nat.le_of_ble_eq_true rfl)) (fun r25 => ?_)
  refine ev_bipush iX5_token_92 kB_97 ?_
  refine ev_bipush iX5_token_94 kB_122 ?_
  refine ev_SRI iX5_token_96 kS_X5_70 (c_md_within a r25 97 122) rfl rfl (Nat.le_of_ble_eq_true rfl) (sg_fitL (by decide) (Nat.le_of_ble_eq_true rfl)) (fun r26 => ?_)
  refine ev_if_eq iX5_token_99 ?_ ?_
  · exact ev_exit rfl trivial
  · refine ev_aload_n iX5_token_102 rfl (by decide) rfl ?_
    refine ev_dupR iX5_token_103 (by decide) ?_
    refine ev_getI 5 8 iX5_token_104 kF_X5_251 O_62 rfl ?_
    refine ev_iconst iX5_token_107 kI_1 ?_
    refine ev_iadd iX5_token_108 ?_
    refine ev_putI 5 8 iX5_token_109 kF_X5_251 fp_5_8 rfl rfl O_62 rfl ?_
    refine ev_let (fun s27 => ?_)
    refine ev_goto iX5_token_112 ?_
    exact ev_exit rfl ⟨rfl, trivial⟩
def md_token (σ : sg_S)  : Option sg_S :=
  sg_let (sg_st σ 62 7 (σ 62 8)) (fun s1 => ((sg_lp (md_token_8_L s1  ) 1000 s1).bind fun e6 => ((md_byteAt e6 (e6 62 7)).bind fun r7 => sg_let (sg_st e6 62 8 (e6 62 7)) (fun s8 => sg_let (sg_st s8 62 10 0) (fun s9 => (if r7 < 0 then sg_let (sg_st s9 62 9 0) (fun s10 => some s10) else ((md_within s9 r7 97 122).bind fun r11 => (if r11 = 0 then ((md_within s9 r7 48 57).bind fun r12 => (if r12 = 0 then sg_let (sg_st s9 62 9 3) (fun s13 => sg_let (sg_st s13 62 8 ((s13 62 8) + 1)) (fun s14 => some s14)) else sg_let (sg_st s9 62 9 2) (fun s15 => ((sg_lp (md_token_131_L s15  ) 1000 s15).bind fun e23 => some e23)))) else sg_let (sg_st s9 62 9 1) (fun s24 => ((sg_lp (md_token_84_L s24  ) 1000 s24).bind fun e30 => some e30))))))))))
set_option maxRecDepth 20000 in
set_option maxHeartbeats 2000000 in
theorem c_md_token (σ : sg_S)   : sg_Call yX5_token mX5_token (rmL 1) [.ref 62] σ eMV (md_token σ ) := by
  refine sg_call_of (by decide +kernel) rfl (Nat.le_of_ble_eq_true rfl) rfl (fun _ => rfl) ?_
  refine ev_less (ls2 := [some (.ref 62), none]) ?_ ⟨rfl, trivial⟩
  unfold md_token
  refine ev_aload_n iX5_token_0 rfl (by decide) rfl ?_
  refine ev_aload_n iX5_token_1 rfl (by decide) rfl ?_
  refine ev_getI 5 8 iX5_token_2 kF_X5_251 O_62 rfl ?_
  refine ev_putI 5 7 iX5_token_5 kF_X5_254 fp_5_7 rfl rfl O_62 rfl ?_
  refine ev_let (fun s1 => ?_)
  refine ev_less (ls2 := [some (.ref 62), none]) ?_ ⟨rfl, trivial⟩
  refine ev_seq1 34 (fun z5 => [some (.ref 62), none]) (fun z5 => z5) (ev_loop (embB := md_token_8_X s1  ) (ex := fun b => md_token_8_X s1   (.inr b)) 8 (fun z4 => [some (.ref 62), none]) (fun z4 => z4) (fun _ => rfl) (fun _ => rfl) (e_md_token_8_L s1   ) 1000 s1) (fun _ => rfl) (fun e6 => ?_)
  refine ev_aload_n iX5_token_34 rfl (by decide) rfl ?_
  refine ev_aload_n iX5_token_35 rfl (by decide) rfl ?_
  refine ev_getI 5 7 iX5_token_36 kF_X5_254 O_62 rfl ?_
  refine ev_VRI iX5_token_39 kV_X5_257 (c_md_byteAt e6 (e6 62 7)) rc_62 rfl rfl (Nat.le_of_ble_eq_true rfl) (sg_fitL (by decide) (Nat.le_of_ble_eq_true rfl)) (fun r7 => ?_)
  refine ev_istore_n (ls2 := [some (.ref 62), some (.int r7)]) iX5_token_42 rfl (Nat.le_of_ble_eq_true rfl) (Nat.le_of_ble_eq_true rfl) rfl rfl ?_
  refine ev_aload_n iX5_token_43 rfl (by decide) rfl ?_
  refine ev_aload_n iX5_token_44 rfl (by decide) rfl ?_
  refine ev_getI 5 7 iX5_token_45 kF_X5_254 O_62 rfl ?_
  refine ev_putI 5 8 iX5_token_48 kF_X5_251 fp_5_8 rfl rfl O_62 rfl ?_
  refine ev_let (fun s8 => ?_)
  refine ev_aload_n iX5_token_51 rfl (by decide) rfl ?_
  refine ev_iconst iX5_token_52 kI_0 ?_
  refine ev_putI 5 10 iX5_token_53 kF_X5_260 fp_5_10 rfl rfl O_62 rfl ?_
  refine ev_let (fun s9 => ?_)
  refine ev_iload_n iX5_token_56 rfl rfl ?_
  refine ev_if_ge iX5_token_57 ?_ ?_
  · refine ev_aload_n iX5_token_60 rfl (by decide) rfl ?_
    refine ev_iconst iX5_token_61 kI_0 ?_
    refine ev_putI 5 9 iX5_token_62 kF_X5_263 fp_5_9 rfl rfl O_62 rfl ?_
    refine ev_let (fun s10 => ?_)
    refine ev_goto iX5_token_65 ?_
    exact ev_vret iX5_token_206 rfl
  · refine ev_iload_n iX5_token_68 rfl rfl ?_
    refine ev_bipush iX5_token_69 kB_97 ?_
    refine ev_bipush iX5_token_71 kB_122 ?_
    refine ev_SRI iX5_token_73 kS_X5_70 (c_md_within s9 r7 97 122) rfl rfl (Nat.le_of_ble_eq_true rfl) (sg_fitL (by decide) (Nat.le_of_ble_eq_true rfl)) (fun r11 => ?_)
    refine ev_if_eq iX5_token_76 ?_ ?_
    · refine ev_iload_n iX5_token_115 rfl rfl ?_
      refine ev_bipush iX5_token_116 kB_48 ?_
      refine ev_bipush iX5_token_118 kB_57 ?_
      refine ev_SRI iX5_token_120 kS_X5_70 (c_md_within s9 r7 48 57) rfl rfl (Nat.le_of_ble_eq_true rfl) (sg_fitL (by decide) (Nat.le_of_ble_eq_true rfl)) (fun r12 => ?_)
      refine ev_if_eq iX5_token_123 ?_ ?_
      · refine ev_aload_n iX5_token_191 rfl (by decide) rfl ?_
        refine ev_iconst iX5_token_192 kI_3 ?_
        refine ev_putI 5 9 iX5_token_193 kF_X5_263 fp_5_9 rfl rfl O_62 rfl ?_
        refine ev_let (fun s13 => ?_)
        refine ev_aload_n iX5_token_196 rfl (by decide) rfl ?_
        refine ev_dupR iX5_token_197 (by decide) ?_
        refine ev_getI 5 8 iX5_token_198 kF_X5_251 O_62 rfl ?_
        refine ev_iconst iX5_token_201 kI_1 ?_
        refine ev_iadd iX5_token_202 ?_
        refine ev_putI 5 8 iX5_token_203 kF_X5_251 fp_5_8 rfl rfl O_62 rfl ?_
        refine ev_let (fun s14 => ?_)
        exact ev_vret iX5_token_206 rfl
      · refine ev_aload_n iX5_token_126 rfl (by decide) rfl ?_
        refine ev_iconst iX5_token_127 kI_2 ?_
        refine ev_putI 5 9 iX5_token_128 kF_X5_263 fp_5_9 rfl rfl O_62 rfl ?_
        refine ev_let (fun s15 => ?_)
        refine ev_less (ls2 := [some (.ref 62), none]) ?_ ⟨rfl, trivial⟩
        refine ev_seq1 206 (fun z22 => [none, none]) (fun z22 => z22) (ev_loop (embB := md_token_131_X s15  ) (ex := fun b => md_token_131_X s15   (.inr b)) 131 (fun z21 => [some (.ref 62), none]) (fun z21 => z21) (fun _ => rfl) (fun _ => rfl) (e_md_token_131_L s15   ) 1000 s15) (fun _ => rfl) (fun e23 => ?_)
        exact ev_vret iX5_token_206 rfl
    · refine ev_aload_n iX5_token_79 rfl (by decide) rfl ?_
      refine ev_iconst iX5_token_80 kI_1 ?_
      refine ev_putI 5 9 iX5_token_81 kF_X5_263 fp_5_9 rfl rfl O_62 rfl ?_
      refine ev_let (fun s24 => ?_)
      refine ev_less (ls2 := [some (.ref 62), none]) ?_ ⟨rfl, trivial⟩
      refine ev_seq1 206 (fun z29 => [none, none]) (fun z29 => z29) (ev_loop (embB := md_token_84_X s24  ) (ex := fun b => md_token_84_X s24   (.inr b)) 84 (fun z28 => [some (.ref 62), none]) (fun z28 => z28) (fun _ => rfl) (fun _ => rfl) (e_md_token_84_L s24   ) 1000 s24) (fun _ => rfl) (fun e30 => ?_)
      exact ev_vret iX5_token_206 rfl
def md_isSpot (σ : sg_S) (a0 : Int32) : Option Int32 :=
  ((md_within σ a0 0 9).bind fun r1 => (if vp_nar .boolean r1 = r1 then some r1 else none))
set_option maxRecDepth 20000 in
set_option maxHeartbeats 2000000 in
theorem c_md_isSpot (σ : sg_S) (a0 : Int32)  : sg_Call yX5_isSpot mX5_isSpot (rmL 1) [.int a0] σ (eRI σ) (md_isSpot σ a0) := by
  refine sg_call_of (by decide +kernel) rfl (Nat.le_of_ble_eq_true rfl) rfl (fun _ => rfl) ?_
  refine ev_less (ls2 := [some (.int a0)]) ?_ ⟨rfl, trivial⟩
  unfold md_isSpot
  refine ev_iload_n iX5_isSpot_0 rfl rfl ?_
  refine ev_iconst iX5_isSpot_1 kI_0 ?_
  refine ev_bipush iX5_isSpot_2 kB_9 ?_
  refine ev_SRI iX5_isSpot_4 kS_X5_70 (c_md_within σ a0 0 9) rfl rfl (Nat.le_of_ble_eq_true rfl) (sg_fitL (by decide) (Nat.le_of_ble_eq_true rfl)) (fun r1 => ?_)
  refine ev_nar (fun hn => ?_)
  exact ev_iret iX5_isSpot_7 rfl (narG rfl hn)
def md_isSheet (σ : sg_S) (a0 : Int32) : Option Int32 :=
  ((md_within σ a0 0 3).bind fun r1 => (if vp_nar .boolean r1 = r1 then some r1 else none))
set_option maxRecDepth 20000 in
set_option maxHeartbeats 2000000 in
theorem c_md_isSheet (σ : sg_S) (a0 : Int32)  : sg_Call yX5_isSheet mX5_isSheet (rmL 1) [.int a0] σ (eRI σ) (md_isSheet σ a0) := by
  refine sg_call_of (by decide +kernel) rfl (Nat.le_of_ble_eq_true rfl) rfl (fun _ => rfl) ?_
  refine ev_less (ls2 := [some (.int a0)]) ?_ ⟨rfl, trivial⟩
  unfold md_isSheet
  refine ev_iload_n iX5_isSheet_0 rfl rfl ?_
  refine ev_iconst iX5_isSheet_1 kI_0 ?_
  refine ev_iconst iX5_isSheet_2 kI_3 ?_
  refine ev_SRI iX5_isSheet_3 kS_X5_70 (c_md_within σ a0 0 3) rfl rfl (Nat.le_of_ble_eq_true rfl) (sg_fitL (by decide) (Nat.le_of_ble_eq_true rfl)) (fun r1 => ?_)
  refine ev_nar (fun hn => ?_)
  exact ev_iret iX5_isSheet_6 rfl (narG rfl hn)
def md_isUnder_2_X (σ : sg_S)  (f1 : Int32) : (Int32 ⊕ Int32) → sg_X
  | .inl a => .inr (2, [none, some (.int f1), some (.int a)], σ)
  | .inr e => .inr (19, [none, none, some (.int e)], σ)
def md_isUnder_2_L (σ : sg_S)  (f1 : Int32) (a : Int32) : Option (Int32 ⊕ Int32) :=
  (if a < 0 then some (.inr a) else (if a = f1 then some (.inr a) else ((md_above σ a).bind fun r1 => some (.inl r1))))
set_option maxRecDepth 20000 in
set_option maxHeartbeats 2000000 in
theorem e_md_isUnder_2_L (σ : sg_S)  (f1 : Int32)  : ∀ a : Int32, Ev mX5_isUnder (rmL 1) 2 [none, some (.int f1), some (.int a)] [] σ (md_isUnder_2_X σ  f1) (md_isUnder_2_L σ  f1 a) := by
  intro a
  unfold md_isUnder_2_L
  refine ev_iload_n iX5_isUnder_2 rfl rfl ?_
  refine ev_if_lt iX5_isUnder_3 ?_ ?_
  · exact ev_exit rfl ⟨rfl, trivial⟩
  · refine ev_iload_n iX5_isUnder_6 rfl rfl ?_
    refine ev_iload_n iX5_isUnder_7 rfl rfl ?_
    refine ev_icmp_eq iX5_isUnder_8 ?_ ?_
    · exact ev_exit rfl ⟨rfl, trivial⟩
    · refine ev_iload_n iX5_isUnder_11 rfl rfl ?_
      refine ev_SRI iX5_isUnder_12 kS_X5_338 (c_md_above σ a) rfl rfl (Nat.le_of_ble_eq_true rfl) (sg_fitL (by decide) (Nat.le_of_ble_eq_true rfl)) (fun r1 => ?_)
      refine ev_istore_n (ls2 := [none, some (.int f1), some (.int r1)]) iX5_isUnder_15 rfl (Nat.le_of_ble_eq_true rfl) (Nat.le_of_ble_eq_true rfl) rfl rfl ?_
      refine ev_goto iX5_isUnder_16 ?_
      exact ev_exit rfl ⟨rfl, rfl, trivial⟩
def md_isUnder (σ : sg_S) (a0 : Int32) (a1 : Int32) : Option Int32 :=
  ((sg_lp (md_isUnder_2_L σ  a1) 1000 a0).bind fun e4 => (if e4 < 0 then some 0 else some 1))
set_option maxRecDepth 20000 in
set_option maxHeartbeats 2000000 in
theorem c_md_isUnder (σ : sg_S) (a0 : Int32) (a1 : Int32)  : sg_Call yX5_isUnder mX5_isUnder (rmL 1) [.int a0, .int a1] σ (eRI σ) (md_isUnder σ a0 a1) := by
  refine sg_call_of (by decide +kernel) rfl (Nat.le_of_ble_eq_true rfl) rfl (fun _ => rfl) ?_
  refine ev_less (ls2 := [some (.int a0), some (.int a1), none]) ?_ ⟨rfl, rfl, trivial⟩
  unfold md_isUnder
  refine ev_iload_n iX5_isUnder_0 rfl rfl ?_
  refine ev_istore_n (ls2 := [some (.int a0), some (.int a1), some (.int a0)]) iX5_isUnder_1 rfl (Nat.le_of_ble_eq_true rfl) (Nat.le_of_ble_eq_true rfl) rfl rfl ?_
  refine ev_less (ls2 := [none, some (.int a1), some (.int a0)]) ?_ ⟨rfl, rfl, trivial⟩
  refine ev_seq1 19 (fun z3 => [none, none, some (.int z3)]) (fun _ => σ) (ev_loop (embB := md_isUnder_2_X σ  a1) (ex := fun b => md_isUnder_2_X σ  a1 (.inr b)) 2 (fun z2 => [none, some (.int a1), some (.int z2)]) (fun _ => σ) (fun _ => rfl) (fun _ => rfl) (e_md_isUnder_2_L σ  a1 ) 1000 a0) (fun _ => rfl) (fun e4 => ?_)
  refine ev_iload_n iX5_isUnder_19 rfl rfl ?_
  refine ev_if_lt iX5_isUnder_20 ?_ ?_
  · refine ev_iconst iX5_isUnder_27 kI_0 ?_
    exact ev_iret iX5_isUnder_28 rfl (fun ty _ => nar0 ty)
  · refine ev_iconst iX5_isUnder_23 kI_1 ?_
    refine ev_goto iX5_isUnder_24 ?_
    exact ev_iret iX5_isUnder_28 rfl (fun ty _ => nar1 ty)
def md_image (σ : sg_S)  : Option (Int32 × sg_S) :=
  ((md_copyRow σ 63 119 64 119).bind fun r1 => sg_let (sg_st r1 62 3 1) (fun s2 => some (1, s2)))
set_option maxRecDepth 20000 in
set_option maxHeartbeats 2000000 in
theorem c_md_image (σ : sg_S)   : sg_Call yX5_image mX5_image (rmL 1) [.ref 62] σ eMI (md_image σ ) := by
  refine sg_call_of (by decide +kernel) rfl (Nat.le_of_ble_eq_true rfl) rfl (fun _ => rfl) ?_
  refine ev_less (ls2 := [some (.ref 62)]) ?_ ⟨rfl, trivial⟩
  unfold md_image
  refine ev_aload_n iX5_image_0 rfl (by decide) rfl ?_
  refine ev_getR (k1 := 63) 5 0 iX5_image_1 kF_X5_9 O_62 rfl (by decide) ?_
  refine ev_aload_n iX5_image_4 rfl (by decide) rfl ?_
  refine ev_getR (k1 := 64) 5 1 iX5_image_5 kF_X5_13 O_62 rfl (by decide) ?_
  refine ev_SMV iX5_image_8 kS_X5_61 (c_md_copyRow σ 63 119 64 119 A_63 A_64) rfl rfl (Nat.le_of_ble_eq_true rfl) (sg_fitL (by decide) (Nat.le_of_ble_eq_true rfl)) (fun r1 => ?_)
  refine ev_aload_n iX5_image_11 rfl (by decide) rfl ?_
  refine ev_iconst iX5_image_12 kI_1 ?_
  refine ev_putI 5 3 iX5_image_13 kF_X5_341 fp_5_3 rfl rfl O_62 rfl ?_
  refine ev_let (fun s2 => ?_)
  refine ev_iconst iX5_image_16 kI_1 ?_
  exact ev_iret iX5_image_17 rfl (fun ty _ => nar1 ty)
def md_undo (σ : sg_S)  : Option (Int32 × sg_S) :=
  (if (σ 62 3) = 0 then ((md_finding σ (-1000004)).bind fun r1 => some (r1.1, r1.2)) else ((md_copyRow σ 64 119 63 119).bind fun r2 => some ((r2 63 0), r2)))
set_option maxRecDepth 20000 in
set_option maxHeartbeats 2000000 in
theorem c_md_undo (σ : sg_S)   : sg_Call yX5_undo mX5_undo (rmL 1) [.ref 62] σ eMI (md_undo σ ) := by
  refine sg_call_of (by decide +kernel) rfl (Nat.le_of_ble_eq_true rfl) rfl (fun _ => rfl) ?_
  refine ev_less (ls2 := [some (.ref 62)]) ?_ ⟨rfl, trivial⟩
  unfold md_undo
  refine ev_aload_n iX5_undo_0 rfl (by decide) rfl ?_
  refine ev_getI 5 3 iX5_undo_1 kF_X5_341 O_62 rfl ?_
  refine ev_if_ne iX5_undo_4 ?_ ?_
  · refine ev_aload_n iX5_undo_7 rfl (by decide) rfl ?_
    refine ev_ldc iX5_undo_8 kC_X5_65 ?_
    refine ev_VMI iX5_undo_10 kV_X5_66 (c_md_finding σ (-1000004)) rc_62 rfl rfl (Nat.le_of_ble_eq_true rfl) (sg_fitL (by decide) (Nat.le_of_ble_eq_true rfl)) (fun r1 => ?_)
    exact ev_iret iX5_undo_13 rfl (narI rfl _)
  · refine ev_aload_n iX5_undo_14 rfl (by decide) rfl ?_
    refine ev_getR (k1 := 64) 5 1 iX5_undo_15 kF_X5_13 O_62 rfl (by decide) ?_
    refine ev_aload_n iX5_undo_18 rfl (by decide) rfl ?_
    refine ev_getR (k1 := 63) 5 0 iX5_undo_19 kF_X5_9 O_62 rfl (by decide) ?_
    refine ev_SMV iX5_undo_22 kS_X5_61 (c_md_copyRow σ 64 119 63 119 A_64 A_63) rfl rfl (Nat.le_of_ble_eq_true rfl) (sg_fitL (by decide) (Nat.le_of_ble_eq_true rfl)) (fun r2 => ?_)
    refine ev_aload_n iX5_undo_25 rfl (by decide) rfl ?_
    refine ev_getR (k1 := 63) 5 0 iX5_undo_26 kF_X5_9 O_62 rfl (by decide) ?_
    refine ev_iconst iX5_undo_29 kI_0 ?_
    refine ev_ialdK 0 iX5_undo_30 A_63 rfl rfl ?_
    exact ev_iret iX5_undo_31 rfl (narI rfl _)
def md_status (σ : sg_S) (a1 : Int32) : Option (Int32 × sg_S) :=
  ((md_within σ a1 (-1) 6).bind fun r1 => (if r1 = 0 then ((md_finding σ (-1000001)).bind fun r2 => some (r2.1, r2.2)) else (if sg_in (a1 + 1) 8 = true then some ((σ 66 (a1 + 1).toNatClampNeg), σ) else none)))
set_option maxRecDepth 20000 in
set_option maxHeartbeats 2000000 in
theorem c_md_status (σ : sg_S) (a1 : Int32)  : sg_Call yX5_status mX5_status (rmL 1) [.ref 62, .int a1] σ eMI (md_status σ a1) := by
  refine sg_call_of (by decide +kernel) rfl (Nat.le_of_ble_eq_true rfl) rfl (fun _ => rfl) ?_
  refine ev_less (ls2 := [some (.ref 62), some (.int a1)]) ?_ ⟨rfl, rfl, trivial⟩
  unfold md_status
  refine ev_iload_n iX5_status_0 rfl rfl ?_
  refine ev_iconst iX5_status_1 kI_m1 ?_
  refine ev_bipush iX5_status_2 kB_6 ?_
  refine ev_SRI iX5_status_4 kS_X5_70 (c_md_within σ a1 (-1) 6) rfl rfl (Nat.le_of_ble_eq_true rfl) (sg_fitL (by decide) (Nat.le_of_ble_eq_true rfl)) (fun r1 => ?_)
  refine ev_if_eq iX5_status_7 ?_ ?_
  · refine ev_aload_n iX5_status_21 rfl (by decide) rfl ?_
    refine ev_ldc iX5_status_22 kC_X5_60 ?_
    refine ev_VMI iX5_status_24 kV_X5_66 (c_md_finding σ (-1000001)) rc_62 rfl rfl (Nat.le_of_ble_eq_true rfl) (sg_fitL (by decide) (Nat.le_of_ble_eq_true rfl)) (fun r2 => ?_)
    exact ev_iret iX5_status_27 rfl (narI rfl _)
  · refine ev_aload_n iX5_status_10 rfl (by decide) rfl ?_
    refine ev_getR (k1 := 66) 5 4 iX5_status_11 kF_X5_19 O_62 rfl (by decide) ?_
    refine ev_iload_n iX5_status_14 rfl rfl ?_
    refine ev_iconst iX5_status_15 kI_1 ?_
    refine ev_iadd iX5_status_16 ?_
    refine ev_iald iX5_status_17 A_66 ?_
    refine ev_goto iX5_status_18 ?_
    exact ev_iret iX5_status_27 rfl (narI rfl _)
def md_list (σ : sg_S) (a1 : Int32) (a2 : Int32) (a3 : Int32) : Option (Int32 × sg_S) :=
  ((md_isPlace σ a1).bind fun r1 => (if r1 = 0 then ((md_finding σ (-1000001)).bind fun r2 => some (r2.1, r2.2)) else ((md_isOne σ a2).bind fun r3 => (if r3 = 0 then ((md_finding σ (-1000001)).bind fun r4 => some (r4.1, r4.2)) else ((md_isOne σ a3).bind fun r5 => (if r5 = 0 then ((md_finding σ (-1000001)).bind fun r6 => some (r6.1, r6.2)) else ((md_become σ (5 + a1) ((10 * a2) + a3)).bind fun r7 => some (r7.1, r7.2))))))))
set_option maxRecDepth 20000 in
set_option maxHeartbeats 2000000 in
theorem c_md_list (σ : sg_S) (a1 : Int32) (a2 : Int32) (a3 : Int32)  : sg_Call yX5_list mX5_list (rmL 2) [.ref 62, .int a1, .int a2, .int a3] σ eMI (md_list σ a1 a2 a3) := by
  refine sg_call_of (by decide +kernel) rfl (Nat.le_of_ble_eq_true rfl) rfl (fun _ => rfl) ?_
  refine ev_less (ls2 := [some (.ref 62), some (.int a1), some (.int a2), some (.int a3)]) ?_ ⟨rfl, rfl, rfl, rfl, trivial⟩
  unfold md_list
  refine ev_iload_n iX5_list_0 rfl rfl ?_
  refine ev_SRI iX5_list_1 kS_X5_74 (c_md_isPlace σ a1) rfl rfl (Nat.le_of_ble_eq_true rfl) (sg_fitL (by decide) (Nat.le_of_ble_eq_true rfl)) (fun r1 => ?_)
  refine ev_if_eq iX5_list_4 ?_ ?_
  · refine ev_aload_n iX5_list_37 rfl (by decide) rfl ?_
    refine ev_ldc iX5_list_38 kC_X5_60 ?_
    refine ev_VMI iX5_list_40 kV_X5_66 (c_md_finding σ (-1000001)) rc_62 rfl rfl (Nat.le_of_ble_eq_true rfl) (sg_fitL (by decide) (Nat.le_of_ble_eq_true rfl)) (fun r2 => ?_)
    exact ev_iret iX5_list_43 rfl (narI rfl _)
  · refine ev_iload_n iX5_list_7 rfl rfl ?_
    refine ev_SRI iX5_list_8 kS_X5_78 (c_md_isOne σ a2) rfl rfl (Nat.le_of_ble_eq_true rfl) (sg_fitL (by decide) (Nat.le_of_ble_eq_true rfl)) (fun r3 => ?_)
    refine ev_if_eq iX5_list_11 ?_ ?_
    · refine ev_aload_n iX5_list_37 rfl (by decide) rfl ?_
      refine ev_ldc iX5_list_38 kC_X5_60 ?_
      refine ev_VMI iX5_list_40 kV_X5_66 (c_md_finding σ (-1000001)) rc_62 rfl rfl (Nat.le_of_ble_eq_true rfl) (sg_fitL (by decide) (Nat.le_of_ble_eq_true rfl)) (fun r4 => ?_)
      exact ev_iret iX5_list_43 rfl (narI rfl _)
    · refine ev_iload_n iX5_list_14 rfl rfl ?_
      refine ev_SRI iX5_list_15 kS_X5_78 (c_md_isOne σ a3) rfl rfl (Nat.le_of_ble_eq_true rfl) (sg_fitL (by decide) (Nat.le_of_ble_eq_true rfl)) (fun r5 => ?_)
      refine ev_if_eq iX5_list_18 ?_ ?_
      · refine ev_aload_n iX5_list_37 rfl (by decide) rfl ?_
        refine ev_ldc iX5_list_38 kC_X5_60 ?_
        refine ev_VMI iX5_list_40 kV_X5_66 (c_md_finding σ (-1000001)) rc_62 rfl rfl (Nat.le_of_ble_eq_true rfl) (sg_fitL (by decide) (Nat.le_of_ble_eq_true rfl)) (fun r6 => ?_)
        exact ev_iret iX5_list_43 rfl (narI rfl _)
      · refine ev_aload_n iX5_list_21 rfl (by decide) rfl ?_
        refine ev_iconst iX5_list_22 kI_5 ?_
        refine ev_iload_n iX5_list_23 rfl rfl ?_
        refine ev_iadd iX5_list_24 ?_
        refine ev_bipush iX5_list_25 kB_10 ?_
        refine ev_iload_n iX5_list_27 rfl rfl ?_
        refine ev_imul iX5_list_28 ?_
        refine ev_iload_n iX5_list_29 rfl rfl ?_
        refine ev_iadd iX5_list_30 ?_
        refine ev_VMI iX5_list_31 kV_X5_81 (c_md_become σ (5 + a1) ((10 * a2) + a3)) rc_62 rfl rfl (Nat.le_of_ble_eq_true rfl) (sg_fitL (by decide) (Nat.le_of_ble_eq_true rfl)) (fun r7 => ?_)
        refine ev_goto iX5_list_34 ?_
        exact ev_iret iX5_list_43 rfl (narI rfl _)
