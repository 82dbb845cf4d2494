theorem in_X0 : Cond.instantiable RX0 3 ∈ tblG := tin 50 (by decide +kernel) (by decide +kernel)
theorem ii_X0 : Cond.initialized RX0 ∈ tblG := tin 4 (by decide +kernel) (by decide +kernel)
theorem df_X0 : ∀ j, j < 3 → defaultValue (tyX0 j) = vp_V [.null, .null, .long 0] j := by
  intro j hj
  match j, hj with
  | 0, _ => rfl
  | 1, _ => rfl
  | 2, _ => rfl
  | k + 3, h => exact absurd h (by omega)
theorem in_X1 : Cond.instantiable RX1 2 ∈ tblG := tin 36 (by decide +kernel) (by decide +kernel)
theorem ii_X1 : Cond.initialized RX1 ∈ tblG := tin 3 (by decide +kernel) (by decide +kernel)
theorem df_X1 : ∀ j, j < 2 → defaultValue (tyX1 j) = vp_V [.null, .int 0] j := by
  intro j hj
  match j, hj with
  | 0, _ => rfl
  | 1, _ => rfl
  | k + 2, h => exact absurd h (by omega)
theorem in_X2 : Cond.instantiable RX2 3 ∈ tblG := tin 100 (by decide +kernel) (by decide +kernel)
theorem ii_X2 : Cond.initialized RX2 ∈ tblG := tin 6 (by decide +kernel) (by decide +kernel)
theorem df_X2 : ∀ j, j < 3 → defaultValue (tyX2 j) = vp_V [.null, .null, .int 0] j := by
  intro j hj
  match j, hj with
  | 0, _ => rfl
  | 1, _ => rfl
  | 2, _ => rfl
  | k + 3, h => exact absurd h (by omega)
theorem in_X3 : Cond.instantiable RX3 3 ∈ tblG := tin 116 (by decide +kernel) (by decide +kernel)
theorem ii_X3 : Cond.initialized RX3 ∈ tblG := tin 7 (by decide +kernel) (by decide +kernel)
theorem df_X3 : ∀ j, j < 3 → defaultValue (tyX3 j) = vp_V [.null, .int 0, .int 0] j := by
  intro j hj
  match j, hj with
  | 0, _ => rfl
  | 1, _ => rfl
  | 2, _ => rfl
  | k + 3, h => exact absurd h (by omega)
theorem in_X5 : Cond.instantiable RX5 1 ∈ tblG := tin 90 (by decide +kernel) (by decide +kernel)
theorem ii_X5 : Cond.initialized RX5 ∈ tblG := tin 5 (by decide +kernel) (by decide +kernel)
theorem df_X5 : ∀ j, j < 1 → defaultValue (tyX5 j) = vp_V [.null] j := by
  intro j hj
  match j, hj with
  | 0, _ => rfl
  | k + 1, h => exact absurd h (by omega)
theorem in_X7 : Cond.instantiable RX7 6 ∈ tblG := tin 30 (by decide +kernel) (by decide +kernel)
theorem ii_X7 : Cond.initialized RX7 ∈ tblG := tin 2 (by decide +kernel) (by decide +kernel)
theorem df_X7 : ∀ j, j < 6 → defaultValue (tyX7 j) = vp_V [.null, .null, .null, .null, .null, .null] j := by
  intro j hj
  match j, hj with
  | 0, _ => rfl
  | 1, _ => rfl
  | 2, _ => rfl
  | 3, _ => rfl
  | 4, _ => rfl
  | 5, _ => rfl
  | k + 6, h => exact absurd h (by omega)
theorem in_X9 : Cond.instantiable RX9 5 ∈ tblG := tin 22 (by decide +kernel) (by decide +kernel)
theorem ii_X9 : Cond.initialized RX9 ∈ tblG := tin 1 (by decide +kernel) (by decide +kernel)
theorem df_X9 : ∀ j, j < 5 → defaultValue (tyX9 j) = vp_V [.int 0, .null, .null, .null, .null] j := by
  intro j hj
  match j, hj with
  | 0, _ => rfl
  | 1, _ => rfl
  | 2, _ => rfl
  | 3, _ => rfl
  | 4, _ => rfl
  | k + 5, h => exact absurd h (by omega)
theorem in_X10 : Cond.instantiable RX10 25 ∈ tblG := tin 816 (by decide +kernel) (by decide +kernel)
theorem ii_X10 : Cond.initialized RX10 ∈ tblG := tin 8 (by decide +kernel) (by decide +kernel)
theorem df_X10 : ∀ j, j < 25 → defaultValue (tyX10 j) = vp_V [.null, .null, .int 0, .int 0, .null, .int 0, .null, .int 0, .null, .null, .int 0, .int 0, .int 0, .null, .int 0, .null, .int 0, .int 0, .null, .null, .null, .null, .null, .null, .int 0] j := by
  intro j hj
  match j, hj with
  | 0, _ => rfl
  | 1, _ => rfl
  | 2, _ => rfl
  | 3, _ => rfl
  | 4, _ => rfl
  | 5, _ => rfl
  | 6, _ => rfl
  | 7, _ => rfl
  | 8, _ => rfl
  | 9, _ => rfl
  | 10, _ => rfl
  | 11, _ => rfl
  | 12, _ => rfl
  | 13, _ => rfl
  | 14, _ => rfl
  | 15, _ => rfl
  | 16, _ => rfl
  | 17, _ => rfl
  | 18, _ => rfl
  | 19, _ => rfl
  | 20, _ => rfl
  | 21, _ => rfl
  | 22, _ => rfl
  | 23, _ => rfl
  | 24, _ => rfl
  | k + 25, h => exact absurd h (by omega)
theorem V_st0 {l : Launch} {G : Gv} {y : MethodName} {cc : ByteArray} {nL : Nat} {ret : Option FieldType} {d mc ms : Nat} {av : List Value} {w0 : va_W} {post : Option Value → va_W → Prop} {ce sl : Nat} {ws : va_W} {pc : Nat} {lv : List (Nat × Value)} {st st1 : List Value} (h : st = st1) (K : VV l G y cc nL ret d mc ms av w0 post ce sl ws pc lv st1) : VV l G y cc nL ret d mc ms av w0 post ce sl ws pc lv st := h ▸ K
theorem fl_X3_11 : Cond.fieldLink RX3 11 RX3 "states" "[LTileWordBoard$Table;" ∈ tblG := tin 123 (by decide +kernel) (by decide +kernel)
theorem fl_X3_15 : Cond.fieldLink RX3 15 RX3 "oldest" "I" ∈ tblG := tin 124 (by decide +kernel) (by decide +kernel)
theorem fl_X3_19 : Cond.fieldLink RX3 19 RX3 "count" "I" ∈ tblG := tin 125 (by decide +kernel) (by decide +kernel)
theorem cl_X3_9 : Cond.classLink RX3 9 RX7 ∈ tblG := tin 121 (by decide +kernel) (by decide +kernel)
theorem cl_X7_18 : Cond.classLink RX7 18 RX0 ∈ tblG := tin 49 (by decide +kernel) (by decide +kernel)
theorem cl_X7_9 : Cond.classLink RX7 9 RX1 ∈ tblG := tin 35 (by decide +kernel) (by decide +kernel)
theorem oi_X0_3 : Cond.methodLink RX0 3 objectInit ∈ tblG := tin 54 (by decide +kernel) (by decide +kernel)
theorem oi_X1_3 : Cond.methodLink RX1 3 objectInit ∈ tblG := tin 40 (by decide +kernel) (by decide +kernel)
theorem oi_X2_3 : Cond.methodLink RX2 3 objectInit ∈ tblG := tin 104 (by decide +kernel) (by decide +kernel)
theorem oi_X3_1 : Cond.methodLink RX3 1 objectInit ∈ tblG := tin 120 (by decide +kernel) (by decide +kernel)
theorem oi_X5_3 : Cond.methodLink RX5 3 objectInit ∈ tblG := tin 94 (by decide +kernel) (by decide +kernel)
theorem oi_X7_3 : Cond.methodLink RX7 3 objectInit ∈ tblG := tin 34 (by decide +kernel) (by decide +kernel)
theorem lk_X7_11 : Cond.methodLink RX7 11 yX1_init ∈ tblG ∧ Cond.instanceMethod yX1_init ∈ tblG ∧ yX1_init.name = "<init>" := ⟨tin 37 (by decide +kernel) (by decide +kernel), tin 38 (by decide +kernel) (by decide +kernel), rfl⟩
theorem lk_X7_20 : Cond.methodLink RX7 20 yX0_init ∈ tblG ∧ Cond.instanceMethod yX0_init ∈ tblG ∧ yX0_init.name = "<init>" := ⟨tin 51 (by decide +kernel) (by decide +kernel), tin 52 (by decide +kernel) (by decide +kernel), rfl⟩
theorem LB_X1_init : LB yX1_init cX1_init 1 none 0 := ⟨tin 39 (by decide +kernel) (by decide +kernel), tin 3 (by decide +kernel) (by decide +kernel), by decide, by decide, by decide, by decide +kernel⟩
theorem LB_X0_init : LB yX0_init cX0_init 1 none 0 := ⟨tin 53 (by decide +kernel) (by decide +kernel), tin 4 (by decide +kernel) (by decide +kernel), by decide, by decide, by decide, by decide +kernel⟩
theorem LB_X3_init : LB yX3_init cX3_init 1 none 0 := ⟨tin 119 (by decide +kernel) (by decide +kernel), tin 7 (by decide +kernel) (by decide +kernel), by decide, by decide, by decide, by decide +kernel⟩
theorem LB_X5_init : LB yX5_init cX5_init 2 none 1 := ⟨tin 93 (by decide +kernel) (by decide +kernel), tin 5 (by decide +kernel) (by decide +kernel), by decide, by decide, by decide, by decide +kernel⟩
theorem LB_X2_init : LB yX2_init cX2_init 3 none 2 := ⟨tin 103 (by decide +kernel) (by decide +kernel), tin 6 (by decide +kernel) (by decide +kernel), by decide, by decide, by decide, by decide +kernel⟩
theorem LB_X7_init : LB yX7_init cX7_init 2 none 0 := ⟨tin 33 (by decide +kernel) (by decide +kernel), tin 2 (by decide +kernel) (by decide +kernel), by decide, by decide, by decide, by decide +kernel⟩
set_option maxHeartbeats 4000000 in
set_option maxRecDepth 100000 in
theorem k_X1_init {l : Launch} {G : Gv} {d : Nat} {a : Nat} (hd : 1 ≤ d) : K l G yX1_init cX1_init 1 none d 1 30 [.ref a] [(a, .inr (1, [.null, .int 0]))] (fun ro w => ro = none ∧ ∃ b : Nat, w = [(a, .inr (1, [.ref b, .int 0])), (b, .inl (G.2.1, 30, .inl (fun _ => 0)))]) := K_intro (by decide) (Nat.le_of_ble_eq_true rfl) (by
  refine V_aload_n 0 rfl dX1_init_0 rfl ?_
  refine V_objInit oi_X1_3 oi_m oi_c (by omega) (Nat.le_of_ble_eq_true rfl) dX1_init_1 ?_
  refine V_aload_n 0 rfl dX1_init_4 rfl ?_
  refine V_bipush 30 dX1_init_5 (by decide) ?_
  refine V_newI ai_m (N := 30) (by decide) (by decide) (by decide) (by decide) (by decide) dX1_init_7 (fun b => ?_)
  refine V_ws (ws1 := [(a, .inr (1, [.null, .int 0])), (b, .inl (G.2.1, 30, .inl (fun _ => 0)))]) rfl ?_
  refine V_putF (k := 0) RC_X1 fl_X1_11 rfl (by decide) rfl rfl rfl dX1_init_9 0 rfl (Nat.le_of_ble_eq_true rfl) rfl rfl [(a, .inr (1, [.ref b, .int 0])), (b, .inl (G.2.1, 30, .inl (fun _ => 0)))] rfl ?_
  refine V_aload_n 0 rfl dX1_init_12 rfl ?_
  refine V_iconst 0 dX1_init_13 (by decide) ?_
  refine V_put (k := 1) RC_X1 fl_X1_15 rfl (by decide) rfl dX1_init_14 0 rfl (Nat.le_of_ble_eq_true rfl) rfl rfl [(a, .inr (1, [.ref b, .int 0])), (b, .inl (G.2.1, 30, .inl (fun _ => 0)))] rfl ?_
  exact V_vret rfl dX1_init_17 ⟨rfl, b, rfl⟩)
set_option maxHeartbeats 4000000 in
set_option maxRecDepth 100000 in
theorem k_X0_init {l : Launch} {G : Gv} {d : Nat} {a : Nat} (hd : 1 ≤ d) : K l G yX0_init cX0_init 1 none d 2 128 [.ref a] [(a, .inr (0, [.null, .null, .long 0]))] (fun ro w => ro = none ∧ ∃ b c : Nat, w = [(a, .inr (0, [.ref b, .ref c, .long 0])), (b, .inl (G.2.1, 64, .inl (fun _ => 0))), (c, .inl (G.2.1, 64, .inl (fun _ => 0)))]) := K_intro (by decide) (Nat.le_of_ble_eq_true rfl) (by
  refine V_aload_n 0 rfl dX0_init_0 rfl ?_
  refine V_objInit oi_X0_3 oi_m oi_c (by omega) (Nat.le_of_ble_eq_true rfl) dX0_init_1 ?_
  refine V_aload_n 0 rfl dX0_init_4 rfl ?_
  refine V_bipush 64 dX0_init_5 (by decide) ?_
  refine V_newI ai_m (N := 64) (by decide) (by decide) (by decide) (by decide) (by decide) dX0_init_7 (fun b => ?_)
  refine V_ws (ws1 := [(a, .inr (0, [.null, .null, .long 0])), (b, .inl (G.2.1, 64, .inl (fun _ => 0)))]) rfl ?_
  refine V_putF (k := 0) RC_X0 fl_X0_11 rfl (by decide) rfl rfl rfl dX0_init_9 0 rfl (Nat.le_of_ble_eq_true rfl) rfl rfl [(a, .inr (0, [.ref b, .null, .long 0])), (b, .inl (G.2.1, 64, .inl (fun _ => 0)))] rfl ?_
  refine V_aload_n 0 rfl dX0_init_12 rfl ?_
  refine V_bipush 64 dX0_init_13 (by decide) ?_
  refine V_newI ai_m (N := 64) (by decide) (by decide) (by decide) (by decide) (by decide) dX0_init_15 (fun c => ?_)
  refine V_ws (ws1 := [(a, .inr (0, [.ref b, .null, .long 0])), (b, .inl (G.2.1, 64, .inl (fun _ => 0))), (c, .inl (G.2.1, 64, .inl (fun _ => 0)))]) rfl ?_
  refine V_putF (k := 1) RC_X0 fl_X0_17 rfl (by decide) rfl rfl rfl dX0_init_17 0 rfl (Nat.le_of_ble_eq_true rfl) rfl rfl [(a, .inr (0, [.ref b, .ref c, .long 0])), (b, .inl (G.2.1, 64, .inl (fun _ => 0))), (c, .inl (G.2.1, 64, .inl (fun _ => 0)))] rfl ?_
  refine V_aload_n 0 rfl dX0_init_20 rfl ?_
  refine V_lconst 0 dX0_init_21 (by decide) ?_
  refine V_put (k := 2) RC_X0 fl_X0_20 rfl (by decide) rfl dX0_init_22 0 rfl (Nat.le_of_ble_eq_true rfl) rfl rfl [(a, .inr (0, [.ref b, .ref c, .long 0])), (b, .inl (G.2.1, 64, .inl (fun _ => 0))), (c, .inl (G.2.1, 64, .inl (fun _ => 0)))] rfl ?_
  exact V_vret rfl dX0_init_25 ⟨rfl, b, c, rfl⟩)
set_option maxHeartbeats 4000000 in
set_option maxRecDepth 100000 in
theorem k_X3_init {l : Launch} {G : Gv} {d : Nat} {a : Nat} (hd : 1 ≤ d) : K l G yX3_init cX3_init 1 none d 1 4 [.ref a] [(a, .inr (3, [.null, .int 0, .int 0]))] (fun ro w => ro = none ∧ ∃ b : Nat, w = [(a, .inr (3, [.ref b, .int 0, .int 0])), (b, .inl (G.2.2.1, 4, .inr (.inr (.inr (.inr (fun _ => none))))))]) := K_intro (by decide) (Nat.le_of_ble_eq_true rfl) (by
  refine V_aload_n 0 rfl dX3_init_0 rfl ?_
  refine V_objInit oi_X3_1 oi_m oi_c (by omega) (Nat.le_of_ble_eq_true rfl) dX3_init_1 ?_
  refine V_aload_n 0 rfl dX3_init_4 rfl ?_
  refine V_iconst 4 dX3_init_5 (by decide) ?_
  refine V_newT cl_X3_9 (N := 4) (by decide) (by decide) (by decide) (by decide) (by decide) dX3_init_6 (fun b => ?_)
  refine V_ws (ws1 := [(a, .inr (3, [.null, .int 0, .int 0])), (b, .inl (G.2.2.1, 4, .inr (.inr (.inr (.inr (fun _ => none))))))]) rfl ?_
  refine V_putF (k := 0) RC_X3 fl_X3_11 rfl (by decide) rfl rfl rfl dX3_init_9 0 rfl (Nat.le_of_ble_eq_true rfl) rfl rfl [(a, .inr (3, [.ref b, .int 0, .int 0])), (b, .inl (G.2.2.1, 4, .inr (.inr (.inr (.inr (fun _ => none))))))] rfl ?_
  refine V_aload_n 0 rfl dX3_init_12 rfl ?_
  refine V_iconst 0 dX3_init_13 (by decide) ?_
  refine V_put (k := 1) RC_X3 fl_X3_15 rfl (by decide) rfl dX3_init_14 0 rfl (Nat.le_of_ble_eq_true rfl) rfl rfl [(a, .inr (3, [.ref b, .int 0, .int 0])), (b, .inl (G.2.2.1, 4, .inr (.inr (.inr (.inr (fun _ => none))))))] rfl ?_
  refine V_aload_n 0 rfl dX3_init_17 rfl ?_
  refine V_iconst 0 dX3_init_18 (by decide) ?_
  refine V_put (k := 2) RC_X3 fl_X3_19 rfl (by decide) rfl dX3_init_19 0 rfl (Nat.le_of_ble_eq_true rfl) rfl rfl [(a, .inr (3, [.ref b, .int 0, .int 0])), (b, .inl (G.2.2.1, 4, .inr (.inr (.inr (.inr (fun _ => none))))))] rfl ?_
  exact V_vret rfl dX3_init_22 ⟨rfl, b, rfl⟩)
set_option maxHeartbeats 4000000 in
set_option maxRecDepth 100000 in
theorem k_X5_init {l : Launch} {G : Gv} {d : Nat} {a : Nat} {t0 : Nat} (hd : 1 ≤ d) : K l G yX5_init cX5_init 2 none d 0 0 [.ref a, .ref t0] [(a, .inr (4, [.null]))] (pD none [(a, .inr (4, [.ref t0]))]) := K_intro (by decide) (Nat.le_of_ble_eq_true rfl) (by
  refine V_aload_n 0 rfl dX5_init_0 rfl ?_
  refine V_objInit oi_X5_3 oi_m oi_c (by omega) (Nat.le_of_ble_eq_true rfl) dX5_init_1 ?_
  refine V_aload_n 0 rfl dX5_init_4 rfl ?_
  refine V_aload_n 1 rfl dX5_init_5 rfl ?_
  refine V_putF (k := 0) RC_X5 fl_X5_9 rfl (by decide) rfl rfl rfl dX5_init_6 0 rfl (Nat.le_of_ble_eq_true rfl) rfl rfl [(a, .inr (4, [.ref t0]))] rfl ?_
  exact V_vret rfl dX5_init_9 ⟨rfl, rfl⟩)
set_option maxHeartbeats 4000000 in
set_option maxRecDepth 100000 in
theorem k_X2_init {l : Launch} {G : Gv} {d : Nat} {a : Nat} {t0 r0 : Nat} (hd : 1 ≤ d) : K l G yX2_init cX2_init 3 none d 0 0 [.ref a, .ref t0, .ref r0] [(a, .inr (2, [.null, .null, .int 0]))] (pD none [(a, .inr (2, [.ref t0, .ref r0, .int 0]))]) := K_intro (by decide) (Nat.le_of_ble_eq_true rfl) (by
  refine V_aload_n 0 rfl dX2_init_0 rfl ?_
  refine V_objInit oi_X2_3 oi_m oi_c (by omega) (Nat.le_of_ble_eq_true rfl) dX2_init_1 ?_
  refine V_aload_n 0 rfl dX2_init_4 rfl ?_
  refine V_aload_n 1 rfl dX2_init_5 rfl ?_
  refine V_putF (k := 0) RC_X2 fl_X2_9 rfl (by decide) rfl rfl rfl dX2_init_6 0 rfl (Nat.le_of_ble_eq_true rfl) rfl rfl [(a, .inr (2, [.ref t0, .null, .int 0]))] rfl ?_
  refine V_aload_n 0 rfl dX2_init_9 rfl ?_
  refine V_aload_n 2 rfl dX2_init_10 rfl ?_
  refine V_putF (k := 1) RC_X2 fl_X2_15 rfl (by decide) rfl rfl rfl dX2_init_11 0 rfl (Nat.le_of_ble_eq_true rfl) rfl rfl [(a, .inr (2, [.ref t0, .ref r0, .int 0]))] rfl ?_
  refine V_aload_n 0 rfl dX2_init_14 rfl ?_
  refine V_iconst 0 dX2_init_15 (by decide) ?_
  refine V_put (k := 2) RC_X2 fl_X2_19 rfl (by decide) rfl dX2_init_16 0 rfl (Nat.le_of_ble_eq_true rfl) rfl rfl [(a, .inr (2, [.ref t0, .ref r0, .int 0]))] rfl ?_
  exact V_vret rfl dX2_init_19 ⟨rfl, rfl⟩)
def f_X7_fill : Nat → Int32 → (Nat → Int32) → Option (Nat → Int32)
  | 0, _, _ => none
  | n + 1, x1, f => if 8 ≤ x1 then some f else ixo x1 8 (f_X7_fill n (x1 + 1) (upd f x1.toNatClampNeg 1))
set_option maxHeartbeats 4000000 in
set_option maxRecDepth 100000 in
theorem v_X7_fill {l : Launch} {G : Gv} {d : Nat} {av0 : List Value} {w1 : va_W} {a b b1 c c1 c2 v lv0 rk pt : Nat} {q : Nat → Int32} : ∀ (n : Nat) (x1 : Int32) (f : Nat → Int32), f_X7_fill n x1 f = some q → VV l G yX7_init cX7_init 2 none d 9 183 av0 w1 (fun ro w => ro = none ∧ ∃ b b1 c c1 c2 v lv0 rk pt : Nat, w = [(a, .inr (5, [.ref b, .ref c, .ref v, .ref lv0, .ref rk, .ref pt])), (b, .inr (1, [.ref b1, .int 0])), (b1, .inl (G.2.1, 30, .inl (fun _ => 0))), (c, .inr (0, [.ref c1, .ref c2, .long 0])), (c1, .inl (G.2.1, 64, .inl (fun _ => 0))), (c2, .inl (G.2.1, 64, .inl (fun _ => 0))), (v, .inl (G.2.1, 8, .inl q)), (lv0, .inl (G.2.1, 8, .inl (fun _ => 0))), (rk, .inl (G.2.1, 2, .inl (fun _ => 0))), (pt, .inl (G.2.1, 2, .inl (fun _ => 0)))]) 9 183 [(a, .inr (5, [.ref b, .ref c, .ref v, .ref lv0, .ref rk, .ref pt])), (b, .inr (1, [.ref b1, .int 0])), (b1, .inl (G.2.1, 30, .inl (fun _ => 0))), (c, .inr (0, [.ref c1, .ref c2, .long 0])), (c1, .inl (G.2.1, 64, .inl (fun _ => 0))), (c2, .inl (G.2.1, 64, .inl (fun _ => 0))), (v, .inl (G.2.1, 8, .inl f)), (lv0, .inl (G.2.1, 8, .inl (fun _ => 0))), (rk, .inl (G.2.1, 2, .inl (fun _ => 0))), (pt, .inl (G.2.1, 2, .inl (fun _ => 0)))] 58 [(0, .ref a), (1, .int x1)] [] := by
  intro n
  induction n with
  | zero =>
    intro x1 f hf
    cases hf
  | succ n ih =>
    intro x1 f hf
    rw [f_X7_fill] at hf
    refine V_iload_n 1 rfl dX7_init_58 rfl ?_
    refine V_bipush 8 dX7_init_59 (by decide) ?_
    refine V_icmp_ge 77 dX7_init_61 (by decide) (fun h8 => ?_) (fun h8 => ?_)
    · replace hf := (if_pos h8).symm.trans hf
      cases hf
      exact V_vret rfl dX7_init_77 ⟨rfl, _, _, _, _, _, _, _, _, _, rfl⟩
    · replace hf := (if_neg h8).symm.trans hf
      obtain ⟨hi, hf⟩ := ixo_some hf
      refine V_aload_n 0 rfl dX7_init_64 rfl ?_
      refine V_get (k := 2) RC_X7 fl_X7_25 rfl (by decide) dX7_init_65 0 rfl rfl ?_
      refine V_iload_n 1 rfl dX7_init_68 rfl ?_
      refine V_iconst 1 dX7_init_69 (by decide) ?_
      refine V_iastore dX7_init_70 6 rfl hi [(a, .inr (5, [.ref b, .ref c, .ref v, .ref lv0, .ref rk, .ref pt])), (b, .inr (1, [.ref b1, .int 0])), (b1, .inl (G.2.1, 30, .inl (fun _ => 0))), (c, .inr (0, [.ref c1, .ref c2, .long 0])), (c1, .inl (G.2.1, 64, .inl (fun _ => 0))), (c2, .inl (G.2.1, 64, .inl (fun _ => 0))), (v, .inl (G.2.1, 8, .inl (upd f x1.toNatClampNeg 1))), (lv0, .inl (G.2.1, 8, .inl (fun _ => 0))), (rk, .inl (G.2.1, 2, .inl (fun _ => 0))), (pt, .inl (G.2.1, 2, .inl (fun _ => 0)))] rfl ?_
      refine V_iinc 1 1 [(0, .ref a), (1, .int (x1 + 1))] [1, 0] dX7_init_71 rfl (by decide) (by decide) rfl ?_
      refine V_goto 58 dX7_init_74 (by decide) ?_
      exact ih _ _ hf
def f_X7_ones : Option (Nat → Int32) := f_X7_fill 100 0 (fun _ => 0)
set_option maxHeartbeats 4000000 in
set_option maxRecDepth 100000 in
theorem k_X7_init {l : Launch} {G : Gv} {d a : Nat} {q : Nat → Int32} (hd : 2 ≤ d) (hf : f_X7_ones = some q) : K l G yX7_init cX7_init 2 none d 9 183 [.ref a] [(a, .inr (5, [.null, .null, .null, .null, .null, .null]))] (fun ro w => ro = none ∧ ∃ b b1 c c1 c2 v lv0 rk pt : Nat, w = [(a, .inr (5, [.ref b, .ref c, .ref v, .ref lv0, .ref rk, .ref pt])), (b, .inr (1, [.ref b1, .int 0])), (b1, .inl (G.2.1, 30, .inl (fun _ => 0))), (c, .inr (0, [.ref c1, .ref c2, .long 0])), (c1, .inl (G.2.1, 64, .inl (fun _ => 0))), (c2, .inl (G.2.1, 64, .inl (fun _ => 0))), (v, .inl (G.2.1, 8, .inl q)), (lv0, .inl (G.2.1, 8, .inl (fun _ => 0))), (rk, .inl (G.2.1, 2, .inl (fun _ => 0))), (pt, .inl (G.2.1, 2, .inl (fun _ => 0)))]) := K_intro (by decide) (Nat.le_of_ble_eq_true rfl) (by
  refine V_aload_n 0 rfl dX7_init_0 rfl ?_
  refine V_objInit oi_X7_3 oi_m oi_c (by omega) (Nat.le_of_ble_eq_true rfl) dX7_init_1 ?_
  refine V_aload_n 0 rfl dX7_init_4 rfl ?_
  refine V_new [.null, .int 0] RC_X1 cl_X7_9 in_X1 ii_X1 df_X1 (by decide) (by decide) dX7_init_5 (fun b => ?_)
  refine V_ws (ws1 := [(a, .inr (5, [.null, .null, .null, .null, .null, .null])), (b, .inr (1, [.null, .int 0]))]) rfl ?_
  refine V_dup rfl dX7_init_8 ?_
  refine V_callI (As := []) (rest := [.ref b, .ref a]) (wr := [(a, .inr (5, [.null, .null, .null, .null, .null, .null]))]) (k_X1_init (d := 1) (Nat.le_refl _)) LB_X1_init lk_X7_11 (by omega) dX7_init_9 rfl rfl (Nat.le_of_ble_eq_true rfl) ⟨by decide, by decide⟩ [1] [0] rfl rfl rfl rfl (by decide) (fun ro w1 hp => ?_)
  obtain ⟨rfl, b1, rfl⟩ := hp
  refine V_ws (ws1 := [(a, .inr (5, [.null, .null, .null, .null, .null, .null])), (b, .inr (1, [.ref b1, .int 0])), (b1, .inl (G.2.1, 30, .inl (fun _ => 0)))]) rfl ?_
  refine V_st0 (st1 := [.ref b, .ref a]) rfl ?_
  refine V_putF (k := 0) RC_X7 fl_X7_12 rfl (by decide) rfl rfl rfl dX7_init_12 0 rfl (Nat.le_of_ble_eq_true rfl) rfl rfl [(a, .inr (5, [.ref b, .null, .null, .null, .null, .null])), (b, .inr (1, [.ref b1, .int 0])), (b1, .inl (G.2.1, 30, .inl (fun _ => 0)))] rfl ?_
  refine V_aload_n 0 rfl dX7_init_15 rfl ?_
  refine V_new [.null, .null, .long 0] RC_X0 cl_X7_18 in_X0 ii_X0 df_X0 (by decide) (by decide) dX7_init_16 (fun c => ?_)
  refine V_ws (ws1 := [(a, .inr (5, [.ref b, .null, .null, .null, .null, .null])), (b, .inr (1, [.ref b1, .int 0])), (b1, .inl (G.2.1, 30, .inl (fun _ => 0))), (c, .inr (0, [.null, .null, .long 0]))]) rfl ?_
  refine V_dup rfl dX7_init_19 ?_
  refine V_callI (As := []) (rest := [.ref c, .ref a]) (wr := [(a, .inr (5, [.ref b, .null, .null, .null, .null, .null])), (b, .inr (1, [.ref b1, .int 0])), (b1, .inl (G.2.1, 30, .inl (fun _ => 0)))]) (k_X0_init (d := 1) (Nat.le_refl _)) LB_X0_init lk_X7_20 (by omega) dX7_init_20 rfl rfl (Nat.le_of_ble_eq_true rfl) ⟨by decide, by decide⟩ [3] [0, 1, 2] rfl rfl rfl rfl (by decide) (fun ro w1 hp => ?_)
  obtain ⟨rfl, c1, c2, rfl⟩ := hp
  refine V_ws (ws1 := [(a, .inr (5, [.ref b, .null, .null, .null, .null, .null])), (b, .inr (1, [.ref b1, .int 0])), (b1, .inl (G.2.1, 30, .inl (fun _ => 0))), (c, .inr (0, [.ref c1, .ref c2, .long 0])), (c1, .inl (G.2.1, 64, .inl (fun _ => 0))), (c2, .inl (G.2.1, 64, .inl (fun _ => 0)))]) rfl ?_
  refine V_st0 (st1 := [.ref c, .ref a]) rfl ?_
  refine V_putF (k := 1) RC_X7 fl_X7_21 rfl (by decide) rfl rfl rfl dX7_init_23 0 rfl (Nat.le_of_ble_eq_true rfl) rfl rfl [(a, .inr (5, [.ref b, .ref c, .null, .null, .null, .null])), (b, .inr (1, [.ref b1, .int 0])), (b1, .inl (G.2.1, 30, .inl (fun _ => 0))), (c, .inr (0, [.ref c1, .ref c2, .long 0])), (c1, .inl (G.2.1, 64, .inl (fun _ => 0))), (c2, .inl (G.2.1, 64, .inl (fun _ => 0)))] rfl ?_
  refine V_aload_n 0 rfl dX7_init_26 rfl ?_
  refine V_bipush 8 dX7_init_27 (by decide) ?_
  refine V_newI ai_m (N := 8) (by decide) (by decide) (by decide) (by decide) (by decide) dX7_init_29 (fun v => ?_)
  refine V_ws (ws1 := [(a, .inr (5, [.ref b, .ref c, .null, .null, .null, .null])), (b, .inr (1, [.ref b1, .int 0])), (b1, .inl (G.2.1, 30, .inl (fun _ => 0))), (c, .inr (0, [.ref c1, .ref c2, .long 0])), (c1, .inl (G.2.1, 64, .inl (fun _ => 0))), (c2, .inl (G.2.1, 64, .inl (fun _ => 0))), (v, .inl (G.2.1, 8, .inl (fun _ => 0)))]) rfl ?_
  refine V_putF (k := 2) RC_X7 fl_X7_25 rfl (by decide) rfl rfl rfl dX7_init_31 0 rfl (Nat.le_of_ble_eq_true rfl) rfl rfl [(a, .inr (5, [.ref b, .ref c, .ref v, .null, .null, .null])), (b, .inr (1, [.ref b1, .int 0])), (b1, .inl (G.2.1, 30, .inl (fun _ => 0))), (c, .inr (0, [.ref c1, .ref c2, .long 0])), (c1, .inl (G.2.1, 64, .inl (fun _ => 0))), (c2, .inl (G.2.1, 64, .inl (fun _ => 0))), (v, .inl (G.2.1, 8, .inl (fun _ => 0)))] rfl ?_
  refine V_aload_n 0 rfl dX7_init_34 rfl ?_
  refine V_bipush 8 dX7_init_35 (by decide) ?_
  refine V_newI ai_m (N := 8) (by decide) (by decide) (by decide) (by decide) (by decide) dX7_init_37 (fun lv0 => ?_)
  refine V_ws (ws1 := [(a, .inr (5, [.ref b, .ref c, .ref v, .null, .null, .null])), (b, .inr (1, [.ref b1, .int 0])), (b1, .inl (G.2.1, 30, .inl (fun _ => 0))), (c, .inr (0, [.ref c1, .ref c2, .long 0])), (c1, .inl (G.2.1, 64, .inl (fun _ => 0))), (c2, .inl (G.2.1, 64, .inl (fun _ => 0))), (v, .inl (G.2.1, 8, .inl (fun _ => 0))), (lv0, .inl (G.2.1, 8, .inl (fun _ => 0)))]) rfl ?_
  refine V_putF (k := 3) RC_X7 fl_X7_29 rfl (by decide) rfl rfl rfl dX7_init_39 0 rfl (Nat.le_of_ble_eq_true rfl) rfl rfl [(a, .inr (5, [.ref b, .ref c, .ref v, .ref lv0, .null, .null])), (b, .inr (1, [.ref b1, .int 0])), (b1, .inl (G.2.1, 30, .inl (fun _ => 0))), (c, .inr (0, [.ref c1, .ref c2, .long 0])), (c1, .inl (G.2.1, 64, .inl (fun _ => 0))), (c2, .inl (G.2.1, 64, .inl (fun _ => 0))), (v, .inl (G.2.1, 8, .inl (fun _ => 0))), (lv0, .inl (G.2.1, 8, .inl (fun _ => 0)))] rfl ?_
  refine V_aload_n 0 rfl dX7_init_42 rfl ?_
  refine V_iconst 2 dX7_init_43 (by decide) ?_
  refine V_newI ai_m (N := 2) (by decide) (by decide) (by decide) (by decide) (by decide) dX7_init_44 (fun rk => ?_)
  refine V_ws (ws1 := [(a, .inr (5, [.ref b, .ref c, .ref v, .ref lv0, .null, .null])), (b, .inr (1, [.ref b1, .int 0])), (b1, .inl (G.2.1, 30, .inl (fun _ => 0))), (c, .inr (0, [.ref c1, .ref c2, .long 0])), (c1, .inl (G.2.1, 64, .inl (fun _ => 0))), (c2, .inl (G.2.1, 64, .inl (fun _ => 0))), (v, .inl (G.2.1, 8, .inl (fun _ => 0))), (lv0, .inl (G.2.1, 8, .inl (fun _ => 0))), (rk, .inl (G.2.1, 2, .inl (fun _ => 0)))]) rfl ?_
  refine V_putF (k := 4) RC_X7 fl_X7_32 rfl (by decide) rfl rfl rfl dX7_init_46 0 rfl (Nat.le_of_ble_eq_true rfl) rfl rfl [(a, .inr (5, [.ref b, .ref c, .ref v, .ref lv0, .ref rk, .null])), (b, .inr (1, [.ref b1, .int 0])), (b1, .inl (G.2.1, 30, .inl (fun _ => 0))), (c, .inr (0, [.ref c1, .ref c2, .long 0])), (c1, .inl (G.2.1, 64, .inl (fun _ => 0))), (c2, .inl (G.2.1, 64, .inl (fun _ => 0))), (v, .inl (G.2.1, 8, .inl (fun _ => 0))), (lv0, .inl (G.2.1, 8, .inl (fun _ => 0))), (rk, .inl (G.2.1, 2, .inl (fun _ => 0)))] rfl ?_
  refine V_aload_n 0 rfl dX7_init_49 rfl ?_
  refine V_iconst 2 dX7_init_50 (by decide) ?_
  refine V_newI ai_m (N := 2) (by decide) (by decide) (by decide) (by decide) (by decide) dX7_init_51 (fun pt => ?_)
  refine V_ws (ws1 := [(a, .inr (5, [.ref b, .ref c, .ref v, .ref lv0, .ref rk, .null])), (b, .inr (1, [.ref b1, .int 0])), (b1, .inl (G.2.1, 30, .inl (fun _ => 0))), (c, .inr (0, [.ref c1, .ref c2, .long 0])), (c1, .inl (G.2.1, 64, .inl (fun _ => 0))), (c2, .inl (G.2.1, 64, .inl (fun _ => 0))), (v, .inl (G.2.1, 8, .inl (fun _ => 0))), (lv0, .inl (G.2.1, 8, .inl (fun _ => 0))), (rk, .inl (G.2.1, 2, .inl (fun _ => 0))), (pt, .inl (G.2.1, 2, .inl (fun _ => 0)))]) rfl ?_
  refine V_putF (k := 5) RC_X7 fl_X7_35 rfl (by decide) rfl rfl rfl dX7_init_53 0 rfl (Nat.le_of_ble_eq_true rfl) rfl rfl [(a, .inr (5, [.ref b, .ref c, .ref v, .ref lv0, .ref rk, .ref pt])), (b, .inr (1, [.ref b1, .int 0])), (b1, .inl (G.2.1, 30, .inl (fun _ => 0))), (c, .inr (0, [.ref c1, .ref c2, .long 0])), (c1, .inl (G.2.1, 64, .inl (fun _ => 0))), (c2, .inl (G.2.1, 64, .inl (fun _ => 0))), (v, .inl (G.2.1, 8, .inl (fun _ => 0))), (lv0, .inl (G.2.1, 8, .inl (fun _ => 0))), (rk, .inl (G.2.1, 2, .inl (fun _ => 0))), (pt, .inl (G.2.1, 2, .inl (fun _ => 0)))] rfl ?_
  refine V_iconst 0 dX7_init_56 (by decide) ?_
  refine V_istore_n [(0, .ref a), (1, .int 0)] [1, 0] dX7_init_57 rfl (by decide) rfl ?_
  refine V_perm (ws1 := [(a, .inr (5, [.ref b, .ref c, .ref v, .ref lv0, .ref rk, .ref pt])), (b, .inr (1, [.ref b1, .int 0])), (b1, .inl (G.2.1, 30, .inl (fun _ => 0))), (c, .inr (0, [.ref c1, .ref c2, .long 0])), (c1, .inl (G.2.1, 64, .inl (fun _ => 0))), (c2, .inl (G.2.1, 64, .inl (fun _ => 0))), (v, .inl (G.2.1, 8, .inl (fun _ => 0))), (lv0, .inl (G.2.1, 8, .inl (fun _ => 0))), (rk, .inl (G.2.1, 2, .inl (fun _ => 0))), (pt, .inl (G.2.1, 2, .inl (fun _ => 0)))]) [0, 1, 2, 3, 4, 5, 6, 7, 8, 9] rfl rfl ?_
  exact v_X7_fill _ _ _ hf)
