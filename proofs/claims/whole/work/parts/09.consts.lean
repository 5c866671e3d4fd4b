theorem kB_6 : (Int8.ofInt (6)).toInt32 = 6 := by decide
theorem kB_7 : (Int8.ofInt (7)).toInt32 = 7 := by decide
theorem kB_8 : (Int8.ofInt (8)).toInt32 = 8 := by decide
theorem kB_9 : (Int8.ofInt (9)).toInt32 = 9 := by decide
theorem kB_10 : (Int8.ofInt (10)).toInt32 = 10 := by decide
theorem kB_11 : (Int8.ofInt (11)).toInt32 = 11 := by decide
theorem kB_16 : (Int8.ofInt (16)).toInt32 = 16 := by decide
theorem kB_18 : (Int8.ofInt (18)).toInt32 = 18 := by decide
theorem kB_20 : (Int8.ofInt (20)).toInt32 = 20 := by decide
theorem kB_21 : (Int8.ofInt (21)).toInt32 = 21 := by decide
theorem kB_32 : (Int8.ofInt (32)).toInt32 = 32 := by decide
theorem kB_40 : (Int8.ofInt (40)).toInt32 = 40 := by decide
theorem kB_48 : (Int8.ofInt (48)).toInt32 = 48 := by decide
theorem kB_53 : (Int8.ofInt (53)).toInt32 = 53 := by decide
theorem kB_57 : (Int8.ofInt (57)).toInt32 = 57 := by decide
theorem kB_59 : (Int8.ofInt (59)).toInt32 = 59 := by decide
theorem kB_60 : (Int8.ofInt (60)).toInt32 = 60 := by decide
theorem kB_63 : (Int8.ofInt (63)).toInt32 = 63 := by decide
theorem kB_64 : (Int8.ofInt (64)).toInt32 = 64 := by decide
theorem kB_97 : (Int8.ofInt (97)).toInt32 = 97 := by decide
theorem kB_100 : (Int8.ofInt (100)).toInt32 = 100 := by decide
theorem kB_119 : (Int8.ofInt (119)).toInt32 = 119 := by decide
theorem kB_120 : (Int8.ofInt (120)).toInt32 = 120 := by decide
theorem kB_122 : (Int8.ofInt (122)).toInt32 = 122 := by decide
theorem kI_m1 : Int32.ofInt (-1) = (-1) := by decide
theorem kI_0 : Int32.ofInt (0) = 0 := by decide
theorem kI_1 : Int32.ofInt (1) = 1 := by decide
theorem kI_2 : Int32.ofInt (2) = 2 := by decide
theorem kI_3 : Int32.ofInt (3) = 3 := by decide
theorem kI_4 : Int32.ofInt (4) = 4 := by decide
theorem kI_5 : Int32.ofInt (5) = 5 := by decide
theorem kH_200 : (Int16.ofInt (200)).toInt32 = 200 := by decide
theorem kH_255 : (Int16.ofInt (255)).toInt32 = 255 := by decide
theorem kH_9999 : (Int16.ofInt (9999)).toInt32 = 9999 := by decide
theorem kH_10000 : (Int16.ofInt (10000)).toInt32 = 10000 := by decide
theorem kH_12345 : (Int16.ofInt (12345)).toInt32 = 12345 := by decide
section EX
variable {M N : sg_M} {R rm : Room} {pc nx tgt : Nat} {ls : List (Option Value)} {st stk As : List Value} {σ : sg_S} {α β : Type} {emb : α → sg_X} {X : Option α} {y : MethodName}
def jmin (x y : Int32) : Int32 := if y < x then y else x
theorem ev_min {idx : Nat} {x y : Int32} (hd : Ins M pc nx 3 (.invokestatic idx)) (w1 : Cond.methodLink M.1 idx Lib.Math.min.name ∈ tw) (w2 : Cond.static Lib.Math.min.name ∈ tw) (w3 : Cond.initialized "java/lang/Math" ∈ tw) (w4 : Cond.code Lib.Math.min.name Lib.Math.min.code 2 (some .int) ∈ tw) (hst : st.length ≤ 4) (hR : 1 ≤ R.frames ∧ 21 ≤ R.locals)
    (k : Ev M R nx ls (.int (jmin x y) :: st) σ emb X) : Ev M R pc ls (.int y :: .int x :: st) σ emb X := by
  intro a ha l G p e s m args below meth c H locs lsA cells slots Q C hH hL hc hF
  obtain ⟨h1, rfl⟩ := hd
  have hts := C.2.2.2.2.1
  simp only [List.map_cons]
  refine va_mmin C.1 C.2.1 (by rw [C.2.2.1]; exact hL.1.symm) C.2.2.2.1 (hts _ w1) (hts _ w2) (hts _ w3) (hts _ w4) hR.1 ?_ hc.1 hc.2 h1 (k a ha l G p e s m args below meth c H locs lsA cells slots Q C hH hL hc hF)
  have h5 := sg_sum (st.map (sg_v G))
  rw [List.length_map] at h5
  omega
/-- a local counts down: its new number gets a name -/
theorem ev_iincN {i : Nat} {n : Int} {x w : Int32} {f : Int32 → Option α} (ls2 : Int32 → List (Option Value)) (hd : Ins M pc nx 3 (.iinc i n)) (hl : ls[i]? = some (some (.int x))) (hv : Int32.ofInt n = w) (hn : i < M.2.2.1) (ho : sg_o1 ls i = true) (h2 : ∀ v, ls.set i (some (.int v)) = ls2 v) (k : ∀ v, Ev M R nx (ls2 v) st σ emb (f v)) : Ev M R pc ls st σ emb (sg_leti (x + w) f) := by
  subst hv
  exact ev_iinc hd hl rfl hn ho (h2 _) (k _)
end EX

theorem kM_X4_250 : Cond.methodLink RX4 250 Lib.Math.min.name ∈ tw := tw_at 735 (by decide +kernel) rfl
theorem kM_X2_53 : Cond.methodLink RX2 53 Lib.Math.min.name ∈ tw := tw_at 654 (by decide +kernel) rfl
theorem kM_X3_107 : Cond.methodLink RX3 107 Lib.Math.min.name ∈ tw := tw_at 397 (by decide +kernel) rfl
theorem kM_X5_153 : Cond.methodLink RX5 153 Lib.Math.min.name ∈ tw := tw_at 1019 (by decide +kernel) rfl
theorem kM_s : Cond.static Lib.Math.min.name ∈ tw := tw_at 398 (by decide +kernel) rfl
theorem kM_i : Cond.initialized "java/lang/Math" ∈ tw := tw_at 79 (by decide +kernel) rfl
theorem kM_c : Cond.code Lib.Math.min.name Lib.Math.min.code 2 (some .int) ∈ tw := tw_at 399 (by decide +kernel) rfl
