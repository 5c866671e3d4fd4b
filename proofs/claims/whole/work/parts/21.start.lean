theorem evc_astore_n {M : sg_M} {R : Room} {pc nx : Nat} {ls : List (Option Value)} {st : List Value} {w : List ac} {cells slots : Nat} {r : hc_r} {k0 : Fin 4} {i : Nat} {x : Nat} (hd : Ins M pc nx 1 (.astore_n k0)) (hi : (k0 : Nat) = i) (hk : x ≠ 140) (hn : i < M.2.2.1) (hlt : i < ls.length) (ho : sg_o1 ls i = true) {ls2 : List (Option Value)} (h2 : (ls.set i (some (.ref x))) = ls2) (k : EvC M R nx ls2 st w cells slots r) : EvC M R pc ls (.ref x :: st) w cells slots r := by
  intro l G z p e s m args below meth c H locs lsA Q C hin hH hL hF
  obtain ⟨h1, rfl⟩ := hd
  subst h2
  rw [List.map_cons, sg_v_ref G hk]
  exact lv_astore_n C.1 C.2.1 h1 hi (sg_L_has hL) hn rfl (fun lsB hB => k l G z p e s m args below meth c H locs lsB Q C hin hH (sg_L_of1 hlt (sg_o1_ok C.2.2.2.2.2.2.2.2.2 ho) (by rw [sg_v_ref G hk]; exact hB)) hF)

theorem nk_L_7 : ac_NL RL 7 4 7 := ⟨_, _, tyX4, rfl, inX4, tyX4_ok, tw_at 86 (by decide +kernel) rfl, tw_at 87 (by decide +kernel) rfl, tw_at 72 (by decide +kernel) rfl⟩
theorem nk_L_10 : ac_NL RL 10 5 21 := ⟨_, _, tyX5, rfl, inX5, tyX5_ok, tw_at 764 (by decide +kernel) rfl, tw_at 765 (by decide +kernel) rfl, tw_at 78 (by decide +kernel) rfl⟩
theorem kI2_L_9 : sg_LI RL 9 yX4_init mX4_init := ⟨tw_at 88 (by decide +kernel) rfl, tw_at 89 (by decide +kernel) rfl, tw_at 72 (by decide +kernel) rfl, tw_at 90 (by decide +kernel) rfl, rfl, rfl, by decide +kernel⟩
theorem kI2_L_12 : sg_LI RL 12 yX5_init mX5_init := ⟨tw_at 766 (by decide +kernel) rfl, tw_at 767 (by decide +kernel) rfl, tw_at 78 (by decide +kernel) rfl, tw_at 768 (by decide +kernel) rfl, rfl, rfl, by decide +kernel⟩
def w_ns : List ac := [.inr (.inr (4, [.ref (0 + 1), .ref (0 + 12), .ref (0 + 23), .int 0, .ref (0 + 34), .ref (0 + 52), .ref (0 + 61)])), .inr (.inr (3, [.ref (0 + 1 + 1), .ref (0 + 1 + 2), .ref (0 + 1 + 3), .ref (0 + 1 + 4), .ref (0 + 1 + 5), .ref (0 + 1 + 6), .ref (0 + 1 + 7), .ref (0 + 1 + 8), .ref (0 + 1 + 9), .ref (0 + 1 + 10), .int 0, .int 0, .int 0, .int 0, .int 1])), .inl (6, (upd (upd (upd (upd (upd (upd (fun _ => 0) 0 1) 1 1) 2 1) 3 1) 4 1) 5 1)), .inl (8, fun _ => 0), .inl (8, fun _ => 0), .inl (8, fun _ => 0), .inl (8, fun _ => 0), .inl (6, fun _ => 0), .inl (6, fun _ => 0), .inl (6, fun _ => 0), .inl (48, fun _ => 0), .inl (10, (upd (upd (upd (upd (upd (upd (upd (upd (upd (upd (fun _ => 0) 0 (-1)) 1 (-1)) 2 (-1)) 3 (-1)) 4 (-1)) 5 (-1)) 6 (-1)) 7 (-1)) 8 (-1)) 9 (-1))), .inr (.inr (3, [.ref (0 + 12 + 1), .ref (0 + 12 + 2), .ref (0 + 12 + 3), .ref (0 + 12 + 4), .ref (0 + 12 + 5), .ref (0 + 12 + 6), .ref (0 + 12 + 7), .ref (0 + 12 + 8), .ref (0 + 12 + 9), .ref (0 + 12 + 10), .int 0, .int 0, .int 0, .int 0, .int 1])), .inl (6, (upd (upd (upd (upd (upd (upd (fun _ => 0) 0 1) 1 1) 2 1) 3 1) 4 1) 5 1)), .inl (8, fun _ => 0), .inl (8, fun _ => 0), .inl (8, fun _ => 0), .inl (8, fun _ => 0), .inl (6, fun _ => 0), .inl (6, fun _ => 0), .inl (6, fun _ => 0), .inl (48, fun _ => 0), .inl (10, (upd (upd (upd (upd (upd (upd (upd (upd (upd (upd (fun _ => 0) 0 (-1)) 1 (-1)) 2 (-1)) 3 (-1)) 4 (-1)) 5 (-1)) 6 (-1)) 7 (-1)) 8 (-1)) 9 (-1))), .inr (.inr (3, [.ref (0 + 23 + 1), .ref (0 + 23 + 2), .ref (0 + 23 + 3), .ref (0 + 23 + 4), .ref (0 + 23 + 5), .ref (0 + 23 + 6), .ref (0 + 23 + 7), .ref (0 + 23 + 8), .ref (0 + 23 + 9), .ref (0 + 23 + 10), .int 0, .int 0, .int 0, .int 0, .int 1])), .inl (6, (upd (upd (upd (upd (upd (upd (fun _ => 0) 0 1) 1 1) 2 1) 3 1) 4 1) 5 1)), .inl (8, fun _ => 0), .inl (8, fun _ => 0), .inl (8, fun _ => 0), .inl (8, fun _ => 0), .inl (6, fun _ => 0), .inl (6, fun _ => 0), .inl (6, fun _ => 0), .inl (48, fun _ => 0), .inl (10, (upd (upd (upd (upd (upd (upd (upd (upd (upd (upd (fun _ => 0) 0 (-1)) 1 (-1)) 2 (-1)) 3 (-1)) 4 (-1)) 5 (-1)) 6 (-1)) 7 (-1)) 8 (-1)) 9 (-1))), .inr (.inr (0, [.ref (0 + 34 + 1), .ref (0 + 34 + 6), .ref (0 + 34 + 17), .int 0])), .inr (.inr (2, [.ref (0 + 34 + 1 + 1), .int 0, .ref (0 + 34 + 1 + 2), .ref (0 + 34 + 1 + 3), .ref (0 + 34 + 1 + 4)])), .inl (120, fun _ => 0), .inl (121, fun _ => 0), .inl (121, fun _ => 0), .inl (121, fun _ => 0), .inr (.inr (3, [.ref (0 + 34 + 6 + 1), .ref (0 + 34 + 6 + 2), .ref (0 + 34 + 6 + 3), .ref (0 + 34 + 6 + 4), .ref (0 + 34 + 6 + 5), .ref (0 + 34 + 6 + 6), .ref (0 + 34 + 6 + 7), .ref (0 + 34 + 6 + 8), .ref (0 + 34 + 6 + 9), .ref (0 + 34 + 6 + 10), .int 0, .int 0, .int 0, .int 0, .int 1])), .inl (6, (upd (upd (upd (upd (upd (upd (fun _ => 0) 0 1) 1 1) 2 1) 3 1) 4 1) 5 1)), .inl (8, fun _ => 0), .inl (8, fun _ => 0), .inl (8, fun _ => 0), .inl (8, fun _ => 0), .inl (6, fun _ => 0), .inl (6, fun _ => 0), .inl (6, fun _ => 0), .inl (48, fun _ => 0), .inl (10, (upd (upd (upd (upd (upd (upd (upd (upd (upd (upd (fun _ => 0) 0 (-1)) 1 (-1)) 2 (-1)) 3 (-1)) 4 (-1)) 5 (-1)) 6 (-1)) 7 (-1)) 8 (-1)) 9 (-1))), .inl (3, fun _ => 0), .inr (.inl (1, 4, va_up (va_up (va_up (va_up (fun _ => none) 0 (some (0 + 53))) 1 (some (0 + 55))) 2 (some (0 + 57))) 3 (some (0 + 59)))), .inr (.inr (1, [.ref (0 + 53 + 1), .int 0, .int 0])), .inl (40, fun _ => 0), .inr (.inr (1, [.ref (0 + 55 + 1), .int 0, .int 0])), .inl (40, fun _ => 0), .inr (.inr (1, [.ref (0 + 57 + 1), .int 0, .int 0])), .inl (40, fun _ => 0), .inr (.inr (1, [.ref (0 + 59 + 1), .int 0, .int 0])), .inl (40, fun _ => 0), .inl (7, fun _ => 0)]
def w_md : List ac := [.inr (.inr (5, [.ref (62 + 1), .ref (62 + 2), .ref (62 + 3), .int 0, .ref (62 + 4), .ref (62 + 5), .int 0, .int 0, .int 0, .int 0, .int 0, .int 0, .ref (62 + 6), .ref (62 + 7), .int 0, .int 0, .int 0, .ref (62 + 8), .ref (62 + 9), .ref (62 + 10), .ref (62 + 11)])), .inl (119, upd (upd (upd (upd (upd (upd (upd (upd (upd (upd (upd (upd (upd (upd (upd (upd (upd (fun _ => 0) 2 1) 5 1) 6 1) 7 1) 8 1) 9 1) 10 1) 11 (-1)) 12 (-1)) 13 (-1)) 14 (-1)) 15 (-1)) 16 (-1)) 17 (-1)) 18 (-1)) 19 (-1)) 20 (-1)), .inl (119, fun _ => 0), .inl (119, fun _ => 0), .inl (8, fun _ => 0), .inl (120, fun _ => 0), .inr (.inl (2, 7, va_up (va_up (va_up (va_up (va_up (va_up (va_up (fun _ => none) 0 (some (100 + 0))) 1 (some (100 + 1))) 2 (some (100 + 2))) 3 (some (100 + 3))) 4 (some (100 + 4))) 5 (some (100 + 5))) 6 (some (100 + 6)))), .inl (480, fun _ => 0), .inl (4, fun _ => 0), .inl (4, fun _ => 0), .inl (160, fun _ => 0), .inl (40, fun _ => 0)]
set_option maxRecDepth 100000 in
set_option maxHeartbeats 8000000 in
theorem e_start : EvC mL_law room_1 0 [some (.ref 99), none, none, none] [] [] 0 0 (w_ns ++ w_md, 74, 2402, some (18, [some (.ref 99), some (.ref 0), some (.ref 62), some (.int 0)])) := by
  refine evc_new (k0 := 0) (w2 := (([] : List ac) ++ [.inr (.inr (4, [.null, .null, .null, .int 0, .null, .null, .null]))])) iL_law_0 nk_L_7 df_4 (fun _ => rfl) rfl (by decide) rfl ⟨(Nat.le_of_ble_eq_true rfl), (Nat.le_of_ble_eq_true rfl)⟩ ?_
  refine evc_widen (c2 := 1) (s2 := 7) rfl rfl ?_
  refine evc_dupR iL_law_3 (by decide) ?_
  refine evc_callI (c2 := 62) (s2 := 1201) (w2 := ([] ++ w_ns)) iL_law_4 kI2_L_9 (c_X4_init [] 0 rfl (by decide) rfl rfl) (by decide) (Nat.le_of_ble_eq_true rfl) ⟨rfl, rfl, (Nat.le_of_ble_eq_true rfl), (Nat.le_of_ble_eq_true rfl)⟩ ⟨(Nat.le_of_ble_eq_true rfl), (Nat.le_of_ble_eq_true rfl)⟩ rfl rfl ?_
  refine evc_astore_n (ls2 := [some (.ref 99), some (.ref 0), none, none]) iL_law_7 rfl (by decide) (Nat.le_of_ble_eq_true rfl) (Nat.le_of_ble_eq_true rfl) rfl rfl ?_
  refine evc_new (k0 := 62) (w2 := (w_ns ++ [.inr (.inr (5, [.null, .null, .null, .int 0, .null, .null, .int 0, .int 0, .int 0, .int 0, .int 0, .int 0, .null, .null, .int 0, .int 0, .int 0, .null, .null, .null, .null]))])) iL_law_8 nk_L_10 df_5 (fun _ => rfl) rfl (by decide) rfl ⟨(Nat.le_of_ble_eq_true rfl), (Nat.le_of_ble_eq_true rfl)⟩ ?_
  refine evc_widen (c2 := 63) (s2 := 1222) rfl rfl ?_
  refine evc_dupR iL_law_11 (by decide) ?_
  refine evc_callI (c2 := 74) (s2 := 2402) (w2 := (w_ns ++ w_md)) iL_law_12 kI2_L_12 (c_X5_init w_ns 62 rfl (by decide) rfl rfl) (by decide) (Nat.le_of_ble_eq_true rfl) ⟨rfl, rfl, (Nat.le_of_ble_eq_true rfl), (Nat.le_of_ble_eq_true rfl)⟩ ⟨(Nat.le_of_ble_eq_true rfl), (Nat.le_of_ble_eq_true rfl)⟩ rfl rfl ?_
  refine evc_astore_n (ls2 := [some (.ref 99), some (.ref 0), some (.ref 62), none]) iL_law_15 rfl (by decide) (Nat.le_of_ble_eq_true rfl) (Nat.le_of_ble_eq_true rfl) rfl rfl ?_
  refine evc_iconst (v := 0) iL_law_16 (by decide) ?_
  refine evc_istore_n (ls2 := [some (.ref 99), some (.ref 0), some (.ref 62), some (.int 0)]) iL_law_17 rfl (Nat.le_of_ble_eq_true rfl) (Nat.le_of_ble_eq_true rfl) rfl rfl ?_
  exact evc_end
def s0 : sg_S := fun k => match k with
  | 0 => fun _ => 0
  | 1 => fun j => if j = 14 then 1 else 0
  | 2 => (upd (upd (upd (upd (upd (upd (fun _ => 0) 0 1) 1 1) 2 1) 3 1) 4 1) 5 1)
  | 3 => fun _ => 0
  | 4 => fun _ => 0
  | 5 => fun _ => 0
  | 6 => fun _ => 0
  | 7 => fun _ => 0
  | 8 => fun _ => 0
  | 9 => fun _ => 0
  | 10 => fun _ => 0
  | 11 => (upd (upd (upd (upd (upd (upd (upd (upd (upd (upd (fun _ => 0) 0 (-1)) 1 (-1)) 2 (-1)) 3 (-1)) 4 (-1)) 5 (-1)) 6 (-1)) 7 (-1)) 8 (-1)) 9 (-1))
  | 12 => fun j => if j = 14 then 1 else 0
  | 13 => (upd (upd (upd (upd (upd (upd (fun _ => 0) 0 1) 1 1) 2 1) 3 1) 4 1) 5 1)
  | 14 => fun _ => 0
  | 15 => fun _ => 0
  | 16 => fun _ => 0
  | 17 => fun _ => 0
  | 18 => fun _ => 0
  | 19 => fun _ => 0
  | 20 => fun _ => 0
  | 21 => fun _ => 0
  | 22 => (upd (upd (upd (upd (upd (upd (upd (upd (upd (upd (fun _ => 0) 0 (-1)) 1 (-1)) 2 (-1)) 3 (-1)) 4 (-1)) 5 (-1)) 6 (-1)) 7 (-1)) 8 (-1)) 9 (-1))
  | 23 => fun j => if j = 14 then 1 else 0
  | 24 => (upd (upd (upd (upd (upd (upd (fun _ => 0) 0 1) 1 1) 2 1) 3 1) 4 1) 5 1)
  | 25 => fun _ => 0
  | 26 => fun _ => 0
  | 27 => fun _ => 0
  | 28 => fun _ => 0
  | 29 => fun _ => 0
  | 30 => fun _ => 0
  | 31 => fun _ => 0
  | 32 => fun _ => 0
  | 33 => (upd (upd (upd (upd (upd (upd (upd (upd (upd (upd (fun _ => 0) 0 (-1)) 1 (-1)) 2 (-1)) 3 (-1)) 4 (-1)) 5 (-1)) 6 (-1)) 7 (-1)) 8 (-1)) 9 (-1))
  | 34 => fun _ => 0
  | 35 => fun _ => 0
  | 36 => fun _ => 0
  | 37 => fun _ => 0
  | 38 => fun _ => 0
  | 39 => fun _ => 0
  | 40 => fun j => if j = 14 then 1 else 0
  | 41 => (upd (upd (upd (upd (upd (upd (fun _ => 0) 0 1) 1 1) 2 1) 3 1) 4 1) 5 1)
  | 42 => fun _ => 0
  | 43 => fun _ => 0
  | 44 => fun _ => 0
  | 45 => fun _ => 0
  | 46 => fun _ => 0
  | 47 => fun _ => 0
  | 48 => fun _ => 0
  | 49 => fun _ => 0
  | 50 => (upd (upd (upd (upd (upd (upd (upd (upd (upd (upd (fun _ => 0) 0 (-1)) 1 (-1)) 2 (-1)) 3 (-1)) 4 (-1)) 5 (-1)) 6 (-1)) 7 (-1)) 8 (-1)) 9 (-1))
  | 51 => fun _ => 0
  | 53 => fun _ => 0
  | 54 => fun _ => 0
  | 55 => fun _ => 0
  | 56 => fun _ => 0
  | 57 => fun _ => 0
  | 58 => fun _ => 0
  | 59 => fun _ => 0
  | 60 => fun _ => 0
  | 61 => fun _ => 0
  | 62 => fun _ => 0
  | 63 => upd (upd (upd (upd (upd (upd (upd (upd (upd (upd (upd (upd (upd (upd (upd (upd (upd (fun _ => 0) 2 1) 5 1) 6 1) 7 1) 8 1) 9 1) 10 1) 11 (-1)) 12 (-1)) 13 (-1)) 14 (-1)) 15 (-1)) 16 (-1)) 17 (-1)) 18 (-1)) 19 (-1)) 20 (-1)
  | 64 => fun _ => 0
  | 65 => fun _ => 0
  | 66 => fun _ => 0
  | 67 => fun _ => 0
  | 69 => fun _ => 0
  | 70 => fun _ => 0
  | 71 => fun _ => 0
  | 72 => fun _ => 0
  | 73 => fun _ => 0
  | _ => fun _ => 0
theorem va_refs {c : ClassId} {n : Nat} {f g : Nat → Option Nat} (h : ∀ i, i < n → f i = g i) : vp_cell c (n, .inr (.inr (.inr (.inr f)))) = vp_cell c (n, .inr (.inr (.inr (.inr g)))) := by
  rw [vp_cell_q, vp_cell_q]
  unfold arrV
  congr 1
  apply Array.ext
  · simp
  · intro j h1 h2
    simp at h1
    simp [h j h1]

set_option maxRecDepth 100000 in
set_option maxHeartbeats 8000000 in
theorem s0_P {G : sg_G} {H : Heap} (h : va_P G.1 vwCl (ac_W G 0 (w_ns ++ w_md)) H) : va_P G.1 vwCl (sg_W G s0) H := by
  intro k q hq
  obtain ⟨hk, rfl⟩ := sg_W_inv hq
  match k, hk with
  | 0, _ => exact h 0 (sg_ad G 0, ac_E G (.inr (.inr (4, [.ref (0 + 1), .ref (0 + 12), .ref (0 + 23), .int 0, .ref (0 + 34), .ref (0 + 52), .ref (0 + 61)])))) rfl
  | 1, _ => exact h 1 (sg_ad G 1, ac_E G (.inr (.inr (3, [.ref (0 + 1 + 1), .ref (0 + 1 + 2), .ref (0 + 1 + 3), .ref (0 + 1 + 4), .ref (0 + 1 + 5), .ref (0 + 1 + 6), .ref (0 + 1 + 7), .ref (0 + 1 + 8), .ref (0 + 1 + 9), .ref (0 + 1 + 10), .int 0, .int 0, .int 0, .int 0, .int 1])))) rfl
  | 2, _ => exact h 2 (sg_ad G 2, ac_E G (.inl (6, (upd (upd (upd (upd (upd (upd (fun _ => 0) 0 1) 1 1) 2 1) 3 1) 4 1) 5 1)))) rfl
  | 3, _ => exact h 3 (sg_ad G 3, ac_E G (.inl (8, fun _ => 0))) rfl
  | 4, _ => exact h 4 (sg_ad G 4, ac_E G (.inl (8, fun _ => 0))) rfl
  | 5, _ => exact h 5 (sg_ad G 5, ac_E G (.inl (8, fun _ => 0))) rfl
  | 6, _ => exact h 6 (sg_ad G 6, ac_E G (.inl (8, fun _ => 0))) rfl
  | 7, _ => exact h 7 (sg_ad G 7, ac_E G (.inl (6, fun _ => 0))) rfl
  | 8, _ => exact h 8 (sg_ad G 8, ac_E G (.inl (6, fun _ => 0))) rfl
  | 9, _ => exact h 9 (sg_ad G 9, ac_E G (.inl (6, fun _ => 0))) rfl
  | 10, _ => exact h 10 (sg_ad G 10, ac_E G (.inl (48, fun _ => 0))) rfl
  | 11, _ => exact h 11 (sg_ad G 11, ac_E G (.inl (10, (upd (upd (upd (upd (upd (upd (upd (upd (upd (upd (fun _ => 0) 0 (-1)) 1 (-1)) 2 (-1)) 3 (-1)) 4 (-1)) 5 (-1)) 6 (-1)) 7 (-1)) 8 (-1)) 9 (-1))))) rfl
  | 12, _ => exact h 12 (sg_ad G 12, ac_E G (.inr (.inr (3, [.ref (0 + 12 + 1), .ref (0 + 12 + 2), .ref (0 + 12 + 3), .ref (0 + 12 + 4), .ref (0 + 12 + 5), .ref (0 + 12 + 6), .ref (0 + 12 + 7), .ref (0 + 12 + 8), .ref (0 + 12 + 9), .ref (0 + 12 + 10), .int 0, .int 0, .int 0, .int 0, .int 1])))) rfl
  | 13, _ => exact h 13 (sg_ad G 13, ac_E G (.inl (6, (upd (upd (upd (upd (upd (upd (fun _ => 0) 0 1) 1 1) 2 1) 3 1) 4 1) 5 1)))) rfl
  | 14, _ => exact h 14 (sg_ad G 14, ac_E G (.inl (8, fun _ => 0))) rfl
  | 15, _ => exact h 15 (sg_ad G 15, ac_E G (.inl (8, fun _ => 0))) rfl
  | 16, _ => exact h 16 (sg_ad G 16, ac_E G (.inl (8, fun _ => 0))) rfl
  | 17, _ => exact h 17 (sg_ad G 17, ac_E G (.inl (8, fun _ => 0))) rfl
  | 18, _ => exact h 18 (sg_ad G 18, ac_E G (.inl (6, fun _ => 0))) rfl
  | 19, _ => exact h 19 (sg_ad G 19, ac_E G (.inl (6, fun _ => 0))) rfl
  | 20, _ => exact h 20 (sg_ad G 20, ac_E G (.inl (6, fun _ => 0))) rfl
  | 21, _ => exact h 21 (sg_ad G 21, ac_E G (.inl (48, fun _ => 0))) rfl
  | 22, _ => exact h 22 (sg_ad G 22, ac_E G (.inl (10, (upd (upd (upd (upd (upd (upd (upd (upd (upd (upd (fun _ => 0) 0 (-1)) 1 (-1)) 2 (-1)) 3 (-1)) 4 (-1)) 5 (-1)) 6 (-1)) 7 (-1)) 8 (-1)) 9 (-1))))) rfl
  | 23, _ => exact h 23 (sg_ad G 23, ac_E G (.inr (.inr (3, [.ref (0 + 23 + 1), .ref (0 + 23 + 2), .ref (0 + 23 + 3), .ref (0 + 23 + 4), .ref (0 + 23 + 5), .ref (0 + 23 + 6), .ref (0 + 23 + 7), .ref (0 + 23 + 8), .ref (0 + 23 + 9), .ref (0 + 23 + 10), .int 0, .int 0, .int 0, .int 0, .int 1])))) rfl
  | 24, _ => exact h 24 (sg_ad G 24, ac_E G (.inl (6, (upd (upd (upd (upd (upd (upd (fun _ => 0) 0 1) 1 1) 2 1) 3 1) 4 1) 5 1)))) rfl
  | 25, _ => exact h 25 (sg_ad G 25, ac_E G (.inl (8, fun _ => 0))) rfl
  | 26, _ => exact h 26 (sg_ad G 26, ac_E G (.inl (8, fun _ => 0))) rfl
  | 27, _ => exact h 27 (sg_ad G 27, ac_E G (.inl (8, fun _ => 0))) rfl
  | 28, _ => exact h 28 (sg_ad G 28, ac_E G (.inl (8, fun _ => 0))) rfl
  | 29, _ => exact h 29 (sg_ad G 29, ac_E G (.inl (6, fun _ => 0))) rfl
  | 30, _ => exact h 30 (sg_ad G 30, ac_E G (.inl (6, fun _ => 0))) rfl
  | 31, _ => exact h 31 (sg_ad G 31, ac_E G (.inl (6, fun _ => 0))) rfl
  | 32, _ => exact h 32 (sg_ad G 32, ac_E G (.inl (48, fun _ => 0))) rfl
  | 33, _ => exact h 33 (sg_ad G 33, ac_E G (.inl (10, (upd (upd (upd (upd (upd (upd (upd (upd (upd (upd (fun _ => 0) 0 (-1)) 1 (-1)) 2 (-1)) 3 (-1)) 4 (-1)) 5 (-1)) 6 (-1)) 7 (-1)) 8 (-1)) 9 (-1))))) rfl
  | 34, _ => exact h 34 (sg_ad G 34, ac_E G (.inr (.inr (0, [.ref (0 + 34 + 1), .ref (0 + 34 + 6), .ref (0 + 34 + 17), .int 0])))) rfl
  | 35, _ => exact h 35 (sg_ad G 35, ac_E G (.inr (.inr (2, [.ref (0 + 34 + 1 + 1), .int 0, .ref (0 + 34 + 1 + 2), .ref (0 + 34 + 1 + 3), .ref (0 + 34 + 1 + 4)])))) rfl
  | 36, _ => exact h 36 (sg_ad G 36, ac_E G (.inl (120, fun _ => 0))) rfl
  | 37, _ => exact h 37 (sg_ad G 37, ac_E G (.inl (121, fun _ => 0))) rfl
  | 38, _ => exact h 38 (sg_ad G 38, ac_E G (.inl (121, fun _ => 0))) rfl
  | 39, _ => exact h 39 (sg_ad G 39, ac_E G (.inl (121, fun _ => 0))) rfl
  | 40, _ => exact h 40 (sg_ad G 40, ac_E G (.inr (.inr (3, [.ref (0 + 34 + 6 + 1), .ref (0 + 34 + 6 + 2), .ref (0 + 34 + 6 + 3), .ref (0 + 34 + 6 + 4), .ref (0 + 34 + 6 + 5), .ref (0 + 34 + 6 + 6), .ref (0 + 34 + 6 + 7), .ref (0 + 34 + 6 + 8), .ref (0 + 34 + 6 + 9), .ref (0 + 34 + 6 + 10), .int 0, .int 0, .int 0, .int 0, .int 1])))) rfl
  | 41, _ => exact h 41 (sg_ad G 41, ac_E G (.inl (6, (upd (upd (upd (upd (upd (upd (fun _ => 0) 0 1) 1 1) 2 1) 3 1) 4 1) 5 1)))) rfl
  | 42, _ => exact h 42 (sg_ad G 42, ac_E G (.inl (8, fun _ => 0))) rfl
  | 43, _ => exact h 43 (sg_ad G 43, ac_E G (.inl (8, fun _ => 0))) rfl
  | 44, _ => exact h 44 (sg_ad G 44, ac_E G (.inl (8, fun _ => 0))) rfl
  | 45, _ => exact h 45 (sg_ad G 45, ac_E G (.inl (8, fun _ => 0))) rfl
  | 46, _ => exact h 46 (sg_ad G 46, ac_E G (.inl (6, fun _ => 0))) rfl
  | 47, _ => exact h 47 (sg_ad G 47, ac_E G (.inl (6, fun _ => 0))) rfl
  | 48, _ => exact h 48 (sg_ad G 48, ac_E G (.inl (6, fun _ => 0))) rfl
  | 49, _ => exact h 49 (sg_ad G 49, ac_E G (.inl (48, fun _ => 0))) rfl
  | 50, _ => exact h 50 (sg_ad G 50, ac_E G (.inl (10, (upd (upd (upd (upd (upd (upd (upd (upd (upd (upd (fun _ => 0) 0 (-1)) 1 (-1)) 2 (-1)) 3 (-1)) 4 (-1)) 5 (-1)) 6 (-1)) 7 (-1)) 8 (-1)) 9 (-1))))) rfl
  | 51, _ => exact h 51 (sg_ad G 51, ac_E G (.inl (3, fun _ => 0))) rfl
  | 52, _ =>
    have h1 := h 52 (sg_ad G 52, ac_E G (.inr (.inl (1, 4, va_up (va_up (va_up (va_up (fun _ => none) 0 (some (0 + 53))) 1 (some (0 + 55))) 2 (some (0 + 57))) 3 (some (0 + 59)))))) rfl
    have h2 : H[sg_ad G 52]? = some (vp_cell _ _) := h1
    show H[sg_ad G 52]? = some (vp_cell _ _)
    rw [h2]
    exact congrArg some (va_refs (fun i hi => by
      match i, hi with
      | 0, _ => rfl
      | 1, _ => rfl
      | 2, _ => rfl
      | 3, _ => rfl))
  | 53, _ => exact h 53 (sg_ad G 53, ac_E G (.inr (.inr (1, [.ref (0 + 53 + 1), .int 0, .int 0])))) rfl
  | 54, _ => exact h 54 (sg_ad G 54, ac_E G (.inl (40, fun _ => 0))) rfl
  | 55, _ => exact h 55 (sg_ad G 55, ac_E G (.inr (.inr (1, [.ref (0 + 55 + 1), .int 0, .int 0])))) rfl
  | 56, _ => exact h 56 (sg_ad G 56, ac_E G (.inl (40, fun _ => 0))) rfl
  | 57, _ => exact h 57 (sg_ad G 57, ac_E G (.inr (.inr (1, [.ref (0 + 57 + 1), .int 0, .int 0])))) rfl
  | 58, _ => exact h 58 (sg_ad G 58, ac_E G (.inl (40, fun _ => 0))) rfl
  | 59, _ => exact h 59 (sg_ad G 59, ac_E G (.inr (.inr (1, [.ref (0 + 59 + 1), .int 0, .int 0])))) rfl
  | 60, _ => exact h 60 (sg_ad G 60, ac_E G (.inl (40, fun _ => 0))) rfl
  | 61, _ => exact h 61 (sg_ad G 61, ac_E G (.inl (7, fun _ => 0))) rfl
  | 62, _ => exact h 62 (sg_ad G 62, ac_E G (.inr (.inr (5, [.ref (62 + 1), .ref (62 + 2), .ref (62 + 3), .int 0, .ref (62 + 4), .ref (62 + 5), .int 0, .int 0, .int 0, .int 0, .int 0, .int 0, .ref (62 + 6), .ref (62 + 7), .int 0, .int 0, .int 0, .ref (62 + 8), .ref (62 + 9), .ref (62 + 10), .ref (62 + 11)])))) rfl
  | 63, _ => exact h 63 (sg_ad G 63, ac_E G (.inl (119, upd (upd (upd (upd (upd (upd (upd (upd (upd (upd (upd (upd (upd (upd (upd (upd (upd (fun _ => 0) 2 1) 5 1) 6 1) 7 1) 8 1) 9 1) 10 1) 11 (-1)) 12 (-1)) 13 (-1)) 14 (-1)) 15 (-1)) 16 (-1)) 17 (-1)) 18 (-1)) 19 (-1)) 20 (-1)))) rfl
  | 64, _ => exact h 64 (sg_ad G 64, ac_E G (.inl (119, fun _ => 0))) rfl
  | 65, _ => exact h 65 (sg_ad G 65, ac_E G (.inl (119, fun _ => 0))) rfl
  | 66, _ => exact h 66 (sg_ad G 66, ac_E G (.inl (8, fun _ => 0))) rfl
  | 67, _ => exact h 67 (sg_ad G 67, ac_E G (.inl (120, fun _ => 0))) rfl
  | 68, _ =>
    have h1 := h 68 (sg_ad G 68, ac_E G (.inr (.inl (2, 7, va_up (va_up (va_up (va_up (va_up (va_up (va_up (fun _ => none) 0 (some (100 + 0))) 1 (some (100 + 1))) 2 (some (100 + 2))) 3 (some (100 + 3))) 4 (some (100 + 4))) 5 (some (100 + 5))) 6 (some (100 + 6)))))) rfl
    have h2 : H[sg_ad G 68]? = some (vp_cell _ _) := h1
    show H[sg_ad G 68]? = some (vp_cell _ _)
    rw [h2]
    exact congrArg some (va_refs (fun i hi => by
      match i, hi with
      | 0, _ => rfl
      | 1, _ => rfl
      | 2, _ => rfl
      | 3, _ => rfl
      | 4, _ => rfl
      | 5, _ => rfl
      | 6, _ => rfl))
  | 69, _ => exact h 69 (sg_ad G 69, ac_E G (.inl (480, fun _ => 0))) rfl
  | 70, _ => exact h 70 (sg_ad G 70, ac_E G (.inl (4, fun _ => 0))) rfl
  | 71, _ => exact h 71 (sg_ad G 71, ac_E G (.inl (4, fun _ => 0))) rfl
  | 72, _ => exact h 72 (sg_ad G 72, ac_E G (.inl (160, fun _ => 0))) rfl
  | 73, _ => exact h 73 (sg_ad G 73, ac_E G (.inl (40, fun _ => 0))) rfl
  | k + 74, hk => omega
theorem s0_D {G : sg_G} {z : Nat} (had : ∀ k, k < 74 → sg_ad G k = z + k) : va_D (sg_Ad G) (sg_W G s0) := by
  refine ⟨fun i j p q hi hj e => ?_, fun k q hk => ?_⟩
  · obtain ⟨h1, rfl⟩ := sg_W_inv hi
    obtain ⟨h2, rfl⟩ := sg_W_inv hj
    have e : sg_ad G i = sg_ad G j := e
    rw [had i h1, had j h2] at e
    omega
  · obtain ⟨h1, rfl⟩ := sg_W_inv hk
    exact ⟨k, h1, rfl⟩

