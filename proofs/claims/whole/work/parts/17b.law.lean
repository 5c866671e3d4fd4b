def lw_fun_18_L (σ : sg_S) (L : Nat) (xs : Nat → Int32)  (a : (Int32 × sg_S)) : Option ((Int32 × sg_S) ⊕ (sg_S ⊕ (Int32 × sg_S))) :=
  (if ((Int32.ofNat L) - 6) < a.1 then some (.inr (.inl a.2)) else (if sg_in a.1 L = true then (sg_sw ((xs a.1.toNatClampNeg) &&& 63) [(0, lw_fun_18_J220 a.2 L xs a.1), (1, lw_fun_18_J263 a.2 L xs a.1), (2, lw_fun_18_J286 a.2 L xs a.1), (3, lw_fun_18_J319 a.2 L xs a.1), (4, lw_fun_18_J362 a.2 L xs a.1), (5, lw_fun_18_J395 a.2 L xs a.1), (6, lw_fun_18_J438 a.2 L xs a.1), (7, lw_fun_18_J471 a.2 L xs a.1), (8, lw_fun_18_J514 a.2 L xs a.1), (9, lw_fun_18_J547 a.2 L xs a.1), (10, lw_fun_18_J580 a.2 L xs a.1), (11, lw_fun_18_J613 a.2 L xs a.1), (12, lw_fun_18_J636 a.2 L xs a.1), (13, lw_fun_18_J659 a.2 L xs a.1), (14, lw_fun_18_J702 a.2 L xs a.1), (15, lw_fun_18_J735 a.2 L xs a.1), (16, lw_fun_18_J768 a.2 L xs a.1), (17, lw_fun_18_J801 a.2 L xs a.1), (18, lw_fun_18_J824 a.2 L xs a.1), (19, lw_fun_18_J857 a.2 L xs a.1), (20, lw_fun_18_J890 a.2 L xs a.1), (21, lw_fun_18_J933 a.2 L xs a.1), (22, lw_fun_18_J966 a.2 L xs a.1), (23, lw_fun_18_J1009 a.2 L xs a.1), (24, lw_fun_18_J1042 a.2 L xs a.1), (25, lw_fun_18_J1075 a.2 L xs a.1), (26, lw_fun_18_J1098 a.2 L xs a.1), (27, lw_fun_18_J1152 a.2 L xs a.1), (28, lw_fun_18_J1175 a.2 L xs a.1), (29, lw_fun_18_J1208 a.2 L xs a.1), (30, lw_fun_18_J1221 a.2 L xs a.1), (31, lw_fun_18_J1234 a.2 L xs a.1), (32, lw_fun_18_J1267 a.2 L xs a.1), (33, lw_fun_18_J1300 a.2 L xs a.1), (34, lw_fun_18_J1343 a.2 L xs a.1), (35, lw_fun_18_J1386 a.2 L xs a.1), (36, lw_fun_18_J1449 a.2 L xs a.1), (37, lw_fun_18_J1472 a.2 L xs a.1), (38, lw_fun_18_J1495 a.2 L xs a.1), (39, lw_fun_18_J1508 a.2 L xs a.1), (40, lw_fun_18_J1521 a.2 L xs a.1), (41, lw_fun_18_J1534 a.2 L xs a.1), (42, lw_fun_18_J1557 a.2 L xs a.1)] (some (.inl ((a.1 + 6), a.2)))) else none))
set_option maxRecDepth 100000 in
set_option maxHeartbeats 20000000 in
theorem e_lw_fun_18_L (σ : sg_S) (L : Nat) (xs : Nat → Int32)   : ∀ a : (Int32 × sg_S), EvZ (L, xs) mL_law room_1 18 [some (.ref 99), some (.ref 0), some (.ref 62), some (.int a.1)] [] a.2 (lw_fun_18_X σ L xs ) (lw_fun_18_L σ L xs  a) := by
  intro a
  unfold lw_fun_18_L
  refine evz_iload_n iL_law_18 rfl rfl ?_
  refine evz_aload_n iL_law_19 rfl (by decide) rfl ?_
  refine evz_slen iL_law_20 ?_
  refine evz_bipush iL_law_21 kB_6 ?_
  refine evz_isub iL_law_23 ?_
  refine evz_icmp_gt iL_law_24 ?_ ?_
  · exact evz_exit rfl trivial
  · refine evz_aload_n iL_law_27 rfl (by decide) rfl ?_
    refine evz_iload_n iL_law_28 rfl rfl ?_
    refine evz_sald iL_law_29 ?_
    refine evz_bipush iL_law_30 kB_63 ?_
    refine evz_iand iL_law_32 ?_
    refine evz_table (dt := 1580) [220, 263, 286, 319, 362, 395, 438, 471, 514, 547, 580, 613, 636, 659, 702, 735, 768, 801, 824, 857, 890, 933, 966, 1009, 1042, 1075, 1098, 1152, 1175, 1208, 1221, 1234, 1267, 1300, 1343, 1386, 1449, 1472, 1495, 1508, 1521, 1534, 1557] iL_law_33 rfl rfl ?_ ?_ ?_
    · refine sg_tab_b _ _ 0 ?_
      simp only [List.map_cons, List.map_nil]
      decide +kernel
    · refine evz_iinc (v := (a.1 + 6)) (ls2 := [some (.ref 99), some (.ref 0), some (.ref 62), some (.int (a.1 + 6))]) iL_law_1580 rfl (by rw [kI_6]) (Nat.le_of_ble_eq_true rfl) rfl rfl ?_
      refine evz_goto iL_law_1583 ?_
      exact evz_exit rfl ⟨rfl, rfl, rfl, rfl, trivial⟩
    · refine evl_cons (evz_less (e_lw_fun_18_J220 a.2 L xs  a.1 ) ⟨rfl, rfl, rfl, rfl, trivial⟩) ?_
      refine evl_cons (evz_less (e_lw_fun_18_J263 a.2 L xs  a.1 ) ⟨rfl, rfl, rfl, rfl, trivial⟩) ?_
      refine evl_cons (evz_less (e_lw_fun_18_J286 a.2 L xs  a.1 ) ⟨rfl, rfl, rfl, rfl, trivial⟩) ?_
      refine evl_cons (evz_less (e_lw_fun_18_J319 a.2 L xs  a.1 ) ⟨rfl, rfl, rfl, rfl, trivial⟩) ?_
      refine evl_cons (evz_less (e_lw_fun_18_J362 a.2 L xs  a.1 ) ⟨rfl, rfl, rfl, rfl, trivial⟩) ?_
      refine evl_cons (evz_less (e_lw_fun_18_J395 a.2 L xs  a.1 ) ⟨rfl, rfl, rfl, rfl, trivial⟩) ?_
      refine evl_cons (evz_less (e_lw_fun_18_J438 a.2 L xs  a.1 ) ⟨rfl, rfl, rfl, rfl, trivial⟩) ?_
      refine evl_cons (evz_less (e_lw_fun_18_J471 a.2 L xs  a.1 ) ⟨rfl, rfl, rfl, rfl, trivial⟩) ?_
      refine evl_cons (evz_less (e_lw_fun_18_J514 a.2 L xs  a.1 ) ⟨rfl, rfl, rfl, rfl, trivial⟩) ?_
      refine evl_cons (evz_less (e_lw_fun_18_J547 a.2 L xs  a.1 ) ⟨rfl, rfl, rfl, rfl, trivial⟩) ?_
      refine evl_cons (evz_less (e_lw_fun_18_J580 a.2 L xs  a.1 ) ⟨rfl, rfl, rfl, rfl, trivial⟩) ?_
      refine evl_cons (evz_less (e_lw_fun_18_J613 a.2 L xs  a.1 ) ⟨rfl, rfl, rfl, rfl, trivial⟩) ?_
      refine evl_cons (evz_less (e_lw_fun_18_J636 a.2 L xs  a.1 ) ⟨rfl, rfl, rfl, rfl, trivial⟩) ?_
      refine evl_cons (evz_less (e_lw_fun_18_J659 a.2 L xs  a.1 ) ⟨rfl, rfl, rfl, rfl, trivial⟩) ?_
      refine evl_cons (evz_less (e_lw_fun_18_J702 a.2 L xs  a.1 ) ⟨rfl, rfl, rfl, rfl, trivial⟩) ?_
      refine evl_cons (evz_less (e_lw_fun_18_J735 a.2 L xs  a.1 ) ⟨rfl, rfl, rfl, rfl, trivial⟩) ?_
      refine evl_cons (evz_less (e_lw_fun_18_J768 a.2 L xs  a.1 ) ⟨rfl, rfl, rfl, rfl, trivial⟩) ?_
      refine evl_cons (evz_less (e_lw_fun_18_J801 a.2 L xs  a.1 ) ⟨rfl, rfl, rfl, rfl, trivial⟩) ?_
      refine evl_cons (evz_less (e_lw_fun_18_J824 a.2 L xs  a.1 ) ⟨rfl, rfl, rfl, rfl, trivial⟩) ?_
      refine evl_cons (evz_less (e_lw_fun_18_J857 a.2 L xs  a.1 ) ⟨rfl, rfl, rfl, rfl, trivial⟩) ?_
      refine evl_cons (evz_less (e_lw_fun_18_J890 a.2 L xs  a.1 ) ⟨rfl, rfl, rfl, rfl, trivial⟩) ?_
      refine evl_cons (evz_less (e_lw_fun_18_J933 a.2 L xs  a.1 ) ⟨rfl, rfl, rfl, rfl, trivial⟩) ?_
      refine evl_cons (evz_less (e_lw_fun_18_J966 a.2 L xs  a.1 ) ⟨rfl, rfl, rfl, rfl, trivial⟩) ?_
      refine evl_cons (evz_less (e_lw_fun_18_J1009 a.2 L xs  a.1 ) ⟨rfl, rfl, rfl, rfl, trivial⟩) ?_
      refine evl_cons (evz_less (e_lw_fun_18_J1042 a.2 L xs  a.1 ) ⟨rfl, rfl, rfl, rfl, trivial⟩) ?_
      refine evl_cons (evz_less (e_lw_fun_18_J1075 a.2 L xs  a.1 ) ⟨rfl, rfl, rfl, rfl, trivial⟩) ?_
      refine evl_cons (evz_less (e_lw_fun_18_J1098 a.2 L xs  a.1 ) ⟨rfl, rfl, rfl, rfl, trivial⟩) ?_
      refine evl_cons (evz_less (e_lw_fun_18_J1152 a.2 L xs  a.1 ) ⟨rfl, rfl, rfl, rfl, trivial⟩) ?_
      refine evl_cons (evz_less (e_lw_fun_18_J1175 a.2 L xs  a.1 ) ⟨rfl, rfl, rfl, rfl, trivial⟩) ?_
      refine evl_cons (evz_less (e_lw_fun_18_J1208 a.2 L xs  a.1 ) ⟨rfl, rfl, rfl, rfl, trivial⟩) ?_
      refine evl_cons (evz_less (e_lw_fun_18_J1221 a.2 L xs  a.1 ) ⟨rfl, rfl, rfl, rfl, trivial⟩) ?_
      refine evl_cons (evz_less (e_lw_fun_18_J1234 a.2 L xs  a.1 ) ⟨rfl, rfl, rfl, rfl, trivial⟩) ?_
      refine evl_cons (evz_less (e_lw_fun_18_J1267 a.2 L xs  a.1 ) ⟨rfl, rfl, rfl, rfl, trivial⟩) ?_
      refine evl_cons (evz_less (e_lw_fun_18_J1300 a.2 L xs  a.1 ) ⟨rfl, rfl, rfl, rfl, trivial⟩) ?_
      refine evl_cons (evz_less (e_lw_fun_18_J1343 a.2 L xs  a.1 ) ⟨rfl, rfl, rfl, rfl, trivial⟩) ?_
      refine evl_cons (evz_less (e_lw_fun_18_J1386 a.2 L xs  a.1 ) ⟨rfl, rfl, rfl, rfl, trivial⟩) ?_
      refine evl_cons (evz_less (e_lw_fun_18_J1449 a.2 L xs  a.1 ) ⟨rfl, rfl, rfl, rfl, trivial⟩) ?_
      refine evl_cons (evz_less (e_lw_fun_18_J1472 a.2 L xs  a.1 ) ⟨rfl, rfl, rfl, rfl, trivial⟩) ?_
      refine evl_cons (evz_less (e_lw_fun_18_J1495 a.2 L xs  a.1 ) ⟨rfl, rfl, rfl, rfl, trivial⟩) ?_
      refine evl_cons (evz_less (e_lw_fun_18_J1508 a.2 L xs  a.1 ) ⟨rfl, rfl, rfl, rfl, trivial⟩) ?_
      refine evl_cons (evz_less (e_lw_fun_18_J1521 a.2 L xs  a.1 ) ⟨rfl, rfl, rfl, rfl, trivial⟩) ?_
      refine evl_cons (evz_less (e_lw_fun_18_J1534 a.2 L xs  a.1 ) ⟨rfl, rfl, rfl, rfl, trivial⟩) ?_
      refine evl_cons (evz_less (e_lw_fun_18_J1557 a.2 L xs  a.1 ) ⟨rfl, rfl, rfl, rfl, trivial⟩) ?_
      exact evl_nil
def lw_fun (σ : sg_S) (L : Nat) (xs : Nat → Int32) : Option (Int32 × sg_S) :=
  ((sg_lp (lw_fun_18_L σ L xs ) 1000 (0, σ)).bind (Sum.elim (fun e89 => some (1, e89)) (fun rr => some rr)))
set_option maxRecDepth 100000 in
set_option maxHeartbeats 20000000 in
theorem e_lw_fun (σ : sg_S) (L : Nat) (xs : Nat → Int32) : EvZ (L, xs) mL_law room_1 18 [some (.ref 99), some (.ref 0), some (.ref 62), some (.int 0)] [] σ (fun b => Sum.inl (eMI b)) (lw_fun σ L xs) := by
  unfold lw_fun
  refine evz_less (ls2 := [some (.ref 99), some (.ref 0), some (.ref 62), some (.int 0)]) ?_ ⟨rfl, rfl, rfl, rfl, trivial⟩
  refine evz_seqS 1586 (fun z88 => [none, none, none, none]) (fun z88 => z88) (evz_loop (embB := lw_fun_18_X σ L xs ) (ex := fun b => lw_fun_18_X σ L xs  (.inr b)) 18 (fun z87 => [some (.ref 99), some (.ref 0), some (.ref 62), some (.int z87.1)]) (fun z87 => z87.2) (fun _ => rfl) (fun _ => rfl) (e_lw_fun_18_L σ L xs  ) 1000 (0, σ)) (fun _ => rfl) (fun r => ⟨_, rfl, fun a h => by cases h; rfl⟩) (fun e89 => ?_)
  refine evz_iconst iL_law_1586 kI_1 ?_
  exact evz_iret iL_law_1587 rfl (fun ty _ => nar1 ty)
