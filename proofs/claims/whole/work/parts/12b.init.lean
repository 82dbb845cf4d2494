theorem cl_X9_15 : Cond.classLink RX9 15 RX7 ∈ tblG := tin 29 (by decide +kernel) (by decide +kernel)
theorem cl_X9_22 : Cond.classLink RX9 22 RX5 ∈ tblG := tin 89 (by decide +kernel) (by decide +kernel)
theorem cl_X9_31 : Cond.classLink RX9 31 RX2 ∈ tblG := tin 99 (by decide +kernel) (by decide +kernel)
theorem cl_X9_40 : Cond.classLink RX9 40 RX3 ∈ tblG := tin 115 (by decide +kernel) (by decide +kernel)
theorem oi_X10_1 : Cond.methodLink RX10 1 objectInit ∈ tblG := tin 820 (by decide +kernel) (by decide +kernel)
theorem oi_X9_1 : Cond.methodLink RX9 1 objectInit ∈ tblG := tin 26 (by decide +kernel) (by decide +kernel)
theorem lk_X9_17 : Cond.methodLink RX9 17 yX7_init ∈ tblG ∧ Cond.instanceMethod yX7_init ∈ tblG ∧ yX7_init.name = "<init>" := ⟨tin 31 (by decide +kernel) (by decide +kernel), tin 32 (by decide +kernel) (by decide +kernel), rfl⟩
theorem lk_X9_24 : Cond.methodLink RX9 24 yX5_init ∈ tblG ∧ Cond.instanceMethod yX5_init ∈ tblG ∧ yX5_init.name = "<init>" := ⟨tin 91 (by decide +kernel) (by decide +kernel), tin 92 (by decide +kernel) (by decide +kernel), rfl⟩
theorem lk_X9_33 : Cond.methodLink RX9 33 yX2_init ∈ tblG ∧ Cond.instanceMethod yX2_init ∈ tblG ∧ yX2_init.name = "<init>" := ⟨tin 101 (by decide +kernel) (by decide +kernel), tin 102 (by decide +kernel) (by decide +kernel), rfl⟩
theorem lk_X9_42 : Cond.methodLink RX9 42 yX3_init ∈ tblG ∧ Cond.instanceMethod yX3_init ∈ tblG ∧ yX3_init.name = "<init>" := ⟨tin 117 (by decide +kernel) (by decide +kernel), tin 118 (by decide +kernel) (by decide +kernel), rfl⟩
theorem LB_X9_init : LB yX9_init cX9_init 1 none 0 := ⟨tin 25 (by decide +kernel) (by decide +kernel), tin 1 (by decide +kernel) (by decide +kernel), by decide, by decide, by decide, by decide +kernel⟩
theorem LB_X10_init : LB yX10_init cX10_init 2 none 0 := ⟨tin 819 (by decide +kernel) (by decide +kernel), tin 8 (by decide +kernel) (by decide +kernel), by decide, by decide, by decide, by decide +kernel⟩
set_option maxHeartbeats 4000000 in
set_option maxRecDepth 100000 in
theorem k_X9_init {l : Launch} {G : Gv} {d a : Nat} {on : Nat → Int32} (hd : 3 ≤ d) (hon : f_X7_ones = some on) : K l G yX9_init cX9_init 1 none d 14 200 [.ref a] [(a, .inr (6, [.int 0, .null, .null, .null, .null]))] (fun ro w => ro = none ∧ ∃ ad : Nat → Nat, ad 0 = a ∧ w = wA G ad ((τ1 on, (0, (0, []))) : S2) []) := K_intro (by decide) (Nat.le_of_ble_eq_true rfl) (by
  refine V_aload_n 0 rfl dX9_init_0 rfl ?_
  refine V_objInit oi_X9_1 oi_m oi_c (by omega) (Nat.le_of_ble_eq_true rfl) dX9_init_1 ?_
  refine V_aload_n 0 rfl dX9_init_4 rfl ?_
  refine V_iconst 0 dX9_init_5 (by decide) ?_
  refine V_put (k := 0) RC_X9 fl_X9_9 rfl (by decide) rfl dX9_init_6 0 rfl (Nat.le_of_ble_eq_true rfl) rfl rfl [(a, .inr (6, [.int 0, .null, .null, .null, .null]))] rfl ?_
  refine V_aload_n 0 rfl dX9_init_9 rfl ?_
  refine V_new [.null, .null, .null, .null, .null, .null] RC_X7 cl_X9_15 in_X7 ii_X7 df_X7 (by decide) (by decide) dX9_init_10 (fun t => ?_)
  refine V_ws (ws1 := [(a, .inr (6, [.int 0, .null, .null, .null, .null])), (t, .inr (5, [.null, .null, .null, .null, .null, .null]))]) rfl ?_
  refine V_dup rfl dX9_init_13 ?_
  refine V_callI (As := []) (rest := [.ref t, .ref a]) (wc := [(t, .inr (5, [.null, .null, .null, .null, .null, .null]))]) (wr := [(a, .inr (6, [.int 0, .null, .null, .null, .null]))]) (k_X7_init (d := 2) (Nat.le_refl _) hon) LB_X7_init lk_X9_17 (by omega) dX9_init_14 rfl rfl (Nat.le_of_ble_eq_true rfl) ⟨by decide, by decide⟩ [1] [0] rfl rfl rfl rfl (by decide) (fun ro w1 hp => ?_)
  obtain ⟨rfl, b, b1, c, c1, c2, v, lv0, rk, pt, rfl⟩ := hp
  refine V_ws (ws1 := [(a, .inr (6, [.int 0, .null, .null, .null, .null])), (t, .inr (5, [.ref b, .ref c, .ref v, .ref lv0, .ref rk, .ref pt])), (b, .inr (1, [.ref b1, .int 0])), (b1, .inl (G.2.1, 30, .inl (fun _ => 0))), (c, .inr (0, [.ref c1, .ref c2, .long 0])), (c1, .inl (G.2.1, 64, .inl (fun _ => 0))), (c2, .inl (G.2.1, 64, .inl (fun _ => 0))), (v, .inl (G.2.1, 8, .inl on)), (lv0, .inl (G.2.1, 8, .inl (fun _ => 0))), (rk, .inl (G.2.1, 2, .inl (fun _ => 0))), (pt, .inl (G.2.1, 2, .inl (fun _ => 0)))]) rfl ?_
  refine V_st0 (st1 := [.ref t, .ref a]) rfl ?_
  refine V_putF (k := 1) RC_X9 fl_X9_18 rfl (by decide) rfl rfl rfl dX9_init_17 0 rfl (Nat.le_of_ble_eq_true rfl) rfl rfl [(a, .inr (6, [.int 0, .ref t, .null, .null, .null])), (t, .inr (5, [.ref b, .ref c, .ref v, .ref lv0, .ref rk, .ref pt])), (b, .inr (1, [.ref b1, .int 0])), (b1, .inl (G.2.1, 30, .inl (fun _ => 0))), (c, .inr (0, [.ref c1, .ref c2, .long 0])), (c1, .inl (G.2.1, 64, .inl (fun _ => 0))), (c2, .inl (G.2.1, 64, .inl (fun _ => 0))), (v, .inl (G.2.1, 8, .inl on)), (lv0, .inl (G.2.1, 8, .inl (fun _ => 0))), (rk, .inl (G.2.1, 2, .inl (fun _ => 0))), (pt, .inl (G.2.1, 2, .inl (fun _ => 0)))] rfl ?_
  refine V_aload_n 0 rfl dX9_init_20 rfl ?_
  refine V_new [.null] RC_X5 cl_X9_22 in_X5 ii_X5 df_X5 (by decide) (by decide) dX9_init_21 (fun ru => ?_)
  refine V_ws (ws1 := [(a, .inr (6, [.int 0, .ref t, .null, .null, .null])), (t, .inr (5, [.ref b, .ref c, .ref v, .ref lv0, .ref rk, .ref pt])), (b, .inr (1, [.ref b1, .int 0])), (b1, .inl (G.2.1, 30, .inl (fun _ => 0))), (c, .inr (0, [.ref c1, .ref c2, .long 0])), (c1, .inl (G.2.1, 64, .inl (fun _ => 0))), (c2, .inl (G.2.1, 64, .inl (fun _ => 0))), (v, .inl (G.2.1, 8, .inl on)), (lv0, .inl (G.2.1, 8, .inl (fun _ => 0))), (rk, .inl (G.2.1, 2, .inl (fun _ => 0))), (pt, .inl (G.2.1, 2, .inl (fun _ => 0))), (ru, .inr (4, [.null]))]) rfl ?_
  refine V_dup rfl dX9_init_24 ?_
  refine V_aload_n 0 rfl dX9_init_25 rfl ?_
  refine V_get (k := 1) RC_X9 fl_X9_18 rfl (by decide) dX9_init_26 0 rfl rfl ?_
  refine V_callI (As := [.ref t]) (rest := [.ref ru, .ref a]) (wc := [(ru, .inr (4, [.null]))]) (wr := [(a, .inr (6, [.int 0, .ref t, .null, .null, .null])), (t, .inr (5, [.ref b, .ref c, .ref v, .ref lv0, .ref rk, .ref pt])), (b, .inr (1, [.ref b1, .int 0])), (b1, .inl (G.2.1, 30, .inl (fun _ => 0))), (c, .inr (0, [.ref c1, .ref c2, .long 0])), (c1, .inl (G.2.1, 64, .inl (fun _ => 0))), (c2, .inl (G.2.1, 64, .inl (fun _ => 0))), (v, .inl (G.2.1, 8, .inl on)), (lv0, .inl (G.2.1, 8, .inl (fun _ => 0))), (rk, .inl (G.2.1, 2, .inl (fun _ => 0))), (pt, .inl (G.2.1, 2, .inl (fun _ => 0)))]) (k_X5_init (t0 := t) (d := 1) (Nat.le_refl _)) LB_X5_init lk_X9_24 (by omega) dX9_init_29 rfl rfl (Nat.le_of_ble_eq_true rfl) ⟨by decide, by decide⟩ [11] [0, 1, 2, 3, 4, 5, 6, 7, 8, 9, 10] rfl rfl rfl rfl (by decide) (fun ro w1 hp => ?_)
  obtain ⟨rfl, rfl⟩ := hp
  refine V_ws (ws1 := [(a, .inr (6, [.int 0, .ref t, .null, .null, .null])), (t, .inr (5, [.ref b, .ref c, .ref v, .ref lv0, .ref rk, .ref pt])), (b, .inr (1, [.ref b1, .int 0])), (b1, .inl (G.2.1, 30, .inl (fun _ => 0))), (c, .inr (0, [.ref c1, .ref c2, .long 0])), (c1, .inl (G.2.1, 64, .inl (fun _ => 0))), (c2, .inl (G.2.1, 64, .inl (fun _ => 0))), (v, .inl (G.2.1, 8, .inl on)), (lv0, .inl (G.2.1, 8, .inl (fun _ => 0))), (rk, .inl (G.2.1, 2, .inl (fun _ => 0))), (pt, .inl (G.2.1, 2, .inl (fun _ => 0))), (ru, .inr (4, [.ref t]))]) rfl ?_
  refine V_st0 (st1 := [.ref ru, .ref a]) rfl ?_
  refine V_putF (k := 2) RC_X9 fl_X9_27 rfl (by decide) rfl rfl rfl dX9_init_32 0 rfl (Nat.le_of_ble_eq_true rfl) rfl rfl [(a, .inr (6, [.int 0, .ref t, .ref ru, .null, .null])), (t, .inr (5, [.ref b, .ref c, .ref v, .ref lv0, .ref rk, .ref pt])), (b, .inr (1, [.ref b1, .int 0])), (b1, .inl (G.2.1, 30, .inl (fun _ => 0))), (c, .inr (0, [.ref c1, .ref c2, .long 0])), (c1, .inl (G.2.1, 64, .inl (fun _ => 0))), (c2, .inl (G.2.1, 64, .inl (fun _ => 0))), (v, .inl (G.2.1, 8, .inl on)), (lv0, .inl (G.2.1, 8, .inl (fun _ => 0))), (rk, .inl (G.2.1, 2, .inl (fun _ => 0))), (pt, .inl (G.2.1, 2, .inl (fun _ => 0))), (ru, .inr (4, [.ref t]))] rfl ?_
  refine V_aload_n 0 rfl dX9_init_35 rfl ?_
  refine V_new [.null, .null, .int 0] RC_X2 cl_X9_31 in_X2 ii_X2 df_X2 (by decide) (by decide) dX9_init_36 (fun en => ?_)
  refine V_ws (ws1 := [(a, .inr (6, [.int 0, .ref t, .ref ru, .null, .null])), (t, .inr (5, [.ref b, .ref c, .ref v, .ref lv0, .ref rk, .ref pt])), (b, .inr (1, [.ref b1, .int 0])), (b1, .inl (G.2.1, 30, .inl (fun _ => 0))), (c, .inr (0, [.ref c1, .ref c2, .long 0])), (c1, .inl (G.2.1, 64, .inl (fun _ => 0))), (c2, .inl (G.2.1, 64, .inl (fun _ => 0))), (v, .inl (G.2.1, 8, .inl on)), (lv0, .inl (G.2.1, 8, .inl (fun _ => 0))), (rk, .inl (G.2.1, 2, .inl (fun _ => 0))), (pt, .inl (G.2.1, 2, .inl (fun _ => 0))), (ru, .inr (4, [.ref t])), (en, .inr (2, [.null, .null, .int 0]))]) rfl ?_
  refine V_dup rfl dX9_init_39 ?_
  refine V_aload_n 0 rfl dX9_init_40 rfl ?_
  refine V_get (k := 1) RC_X9 fl_X9_18 rfl (by decide) dX9_init_41 0 rfl rfl ?_
  refine V_aload_n 0 rfl dX9_init_44 rfl ?_
  refine V_get (k := 2) RC_X9 fl_X9_27 rfl (by decide) dX9_init_45 0 rfl rfl ?_
  refine V_callI (As := [.ref t, .ref ru]) (rest := [.ref en, .ref a]) (wc := [(en, .inr (2, [.null, .null, .int 0]))]) (wr := [(a, .inr (6, [.int 0, .ref t, .ref ru, .null, .null])), (t, .inr (5, [.ref b, .ref c, .ref v, .ref lv0, .ref rk, .ref pt])), (b, .inr (1, [.ref b1, .int 0])), (b1, .inl (G.2.1, 30, .inl (fun _ => 0))), (c, .inr (0, [.ref c1, .ref c2, .long 0])), (c1, .inl (G.2.1, 64, .inl (fun _ => 0))), (c2, .inl (G.2.1, 64, .inl (fun _ => 0))), (v, .inl (G.2.1, 8, .inl on)), (lv0, .inl (G.2.1, 8, .inl (fun _ => 0))), (rk, .inl (G.2.1, 2, .inl (fun _ => 0))), (pt, .inl (G.2.1, 2, .inl (fun _ => 0))), (ru, .inr (4, [.ref t]))]) (k_X2_init (t0 := t) (r0 := ru) (d := 1) (Nat.le_refl _)) LB_X2_init lk_X9_33 (by omega) dX9_init_48 rfl rfl (Nat.le_of_ble_eq_true rfl) ⟨by decide, by decide⟩ [12] [0, 1, 2, 3, 4, 5, 6, 7, 8, 9, 10, 11] rfl rfl rfl rfl (by decide) (fun ro w1 hp => ?_)
  obtain ⟨rfl, rfl⟩ := hp
  refine V_ws (ws1 := [(a, .inr (6, [.int 0, .ref t, .ref ru, .null, .null])), (t, .inr (5, [.ref b, .ref c, .ref v, .ref lv0, .ref rk, .ref pt])), (b, .inr (1, [.ref b1, .int 0])), (b1, .inl (G.2.1, 30, .inl (fun _ => 0))), (c, .inr (0, [.ref c1, .ref c2, .long 0])), (c1, .inl (G.2.1, 64, .inl (fun _ => 0))), (c2, .inl (G.2.1, 64, .inl (fun _ => 0))), (v, .inl (G.2.1, 8, .inl on)), (lv0, .inl (G.2.1, 8, .inl (fun _ => 0))), (rk, .inl (G.2.1, 2, .inl (fun _ => 0))), (pt, .inl (G.2.1, 2, .inl (fun _ => 0))), (ru, .inr (4, [.ref t])), (en, .inr (2, [.ref t, .ref ru, .int 0]))]) rfl ?_
  refine V_st0 (st1 := [.ref en, .ref a]) rfl ?_
  refine V_putF (k := 3) RC_X9 fl_X9_36 rfl (by decide) rfl rfl rfl dX9_init_51 0 rfl (Nat.le_of_ble_eq_true rfl) rfl rfl [(a, .inr (6, [.int 0, .ref t, .ref ru, .ref en, .null])), (t, .inr (5, [.ref b, .ref c, .ref v, .ref lv0, .ref rk, .ref pt])), (b, .inr (1, [.ref b1, .int 0])), (b1, .inl (G.2.1, 30, .inl (fun _ => 0))), (c, .inr (0, [.ref c1, .ref c2, .long 0])), (c1, .inl (G.2.1, 64, .inl (fun _ => 0))), (c2, .inl (G.2.1, 64, .inl (fun _ => 0))), (v, .inl (G.2.1, 8, .inl on)), (lv0, .inl (G.2.1, 8, .inl (fun _ => 0))), (rk, .inl (G.2.1, 2, .inl (fun _ => 0))), (pt, .inl (G.2.1, 2, .inl (fun _ => 0))), (ru, .inr (4, [.ref t])), (en, .inr (2, [.ref t, .ref ru, .int 0]))] rfl ?_
  refine V_aload_n 0 rfl dX9_init_54 rfl ?_
  refine V_new [.null, .int 0, .int 0] RC_X3 cl_X9_40 in_X3 ii_X3 df_X3 (by decide) (by decide) dX9_init_55 (fun hi => ?_)
  refine V_ws (ws1 := [(a, .inr (6, [.int 0, .ref t, .ref ru, .ref en, .null])), (t, .inr (5, [.ref b, .ref c, .ref v, .ref lv0, .ref rk, .ref pt])), (b, .inr (1, [.ref b1, .int 0])), (b1, .inl (G.2.1, 30, .inl (fun _ => 0))), (c, .inr (0, [.ref c1, .ref c2, .long 0])), (c1, .inl (G.2.1, 64, .inl (fun _ => 0))), (c2, .inl (G.2.1, 64, .inl (fun _ => 0))), (v, .inl (G.2.1, 8, .inl on)), (lv0, .inl (G.2.1, 8, .inl (fun _ => 0))), (rk, .inl (G.2.1, 2, .inl (fun _ => 0))), (pt, .inl (G.2.1, 2, .inl (fun _ => 0))), (ru, .inr (4, [.ref t])), (en, .inr (2, [.ref t, .ref ru, .int 0])), (hi, .inr (3, [.null, .int 0, .int 0]))]) rfl ?_
  refine V_dup rfl dX9_init_58 ?_
  refine V_callI (As := []) (rest := [.ref hi, .ref a]) (wc := [(hi, .inr (3, [.null, .int 0, .int 0]))]) (wr := [(a, .inr (6, [.int 0, .ref t, .ref ru, .ref en, .null])), (t, .inr (5, [.ref b, .ref c, .ref v, .ref lv0, .ref rk, .ref pt])), (b, .inr (1, [.ref b1, .int 0])), (b1, .inl (G.2.1, 30, .inl (fun _ => 0))), (c, .inr (0, [.ref c1, .ref c2, .long 0])), (c1, .inl (G.2.1, 64, .inl (fun _ => 0))), (c2, .inl (G.2.1, 64, .inl (fun _ => 0))), (v, .inl (G.2.1, 8, .inl on)), (lv0, .inl (G.2.1, 8, .inl (fun _ => 0))), (rk, .inl (G.2.1, 2, .inl (fun _ => 0))), (pt, .inl (G.2.1, 2, .inl (fun _ => 0))), (ru, .inr (4, [.ref t])), (en, .inr (2, [.ref t, .ref ru, .int 0]))]) (k_X3_init (d := 1) (Nat.le_refl _)) LB_X3_init lk_X9_42 (by omega) dX9_init_59 rfl rfl (Nat.le_of_ble_eq_true rfl) ⟨by decide, by decide⟩ [13] [0, 1, 2, 3, 4, 5, 6, 7, 8, 9, 10, 11, 12] rfl rfl rfl rfl (by decide) (fun ro w1 hp => ?_)
  obtain ⟨rfl, hs, rfl⟩ := hp
  refine V_ws (ws1 := [(a, .inr (6, [.int 0, .ref t, .ref ru, .ref en, .null])), (t, .inr (5, [.ref b, .ref c, .ref v, .ref lv0, .ref rk, .ref pt])), (b, .inr (1, [.ref b1, .int 0])), (b1, .inl (G.2.1, 30, .inl (fun _ => 0))), (c, .inr (0, [.ref c1, .ref c2, .long 0])), (c1, .inl (G.2.1, 64, .inl (fun _ => 0))), (c2, .inl (G.2.1, 64, .inl (fun _ => 0))), (v, .inl (G.2.1, 8, .inl on)), (lv0, .inl (G.2.1, 8, .inl (fun _ => 0))), (rk, .inl (G.2.1, 2, .inl (fun _ => 0))), (pt, .inl (G.2.1, 2, .inl (fun _ => 0))), (ru, .inr (4, [.ref t])), (en, .inr (2, [.ref t, .ref ru, .int 0])), (hi, .inr (3, [.ref hs, .int 0, .int 0])), (hs, .inl (G.2.2.1, 4, .inr (.inr (.inr (.inr (fun _ => none))))))]) rfl ?_
  refine V_st0 (st1 := [.ref hi, .ref a]) rfl ?_
  refine V_putF (k := 4) RC_X9 fl_X9_43 rfl (by decide) rfl rfl rfl dX9_init_62 0 rfl (Nat.le_of_ble_eq_true rfl) rfl rfl [(a, .inr (6, [.int 0, .ref t, .ref ru, .ref en, .ref hi])), (t, .inr (5, [.ref b, .ref c, .ref v, .ref lv0, .ref rk, .ref pt])), (b, .inr (1, [.ref b1, .int 0])), (b1, .inl (G.2.1, 30, .inl (fun _ => 0))), (c, .inr (0, [.ref c1, .ref c2, .long 0])), (c1, .inl (G.2.1, 64, .inl (fun _ => 0))), (c2, .inl (G.2.1, 64, .inl (fun _ => 0))), (v, .inl (G.2.1, 8, .inl on)), (lv0, .inl (G.2.1, 8, .inl (fun _ => 0))), (rk, .inl (G.2.1, 2, .inl (fun _ => 0))), (pt, .inl (G.2.1, 2, .inl (fun _ => 0))), (ru, .inr (4, [.ref t])), (en, .inr (2, [.ref t, .ref ru, .int 0])), (hi, .inr (3, [.ref hs, .int 0, .int 0])), (hs, .inl (G.2.2.1, 4, .inr (.inr (.inr (.inr (fun _ => none))))))] rfl ?_
  refine V_perm (ws1 := wA G (ad10 [a, t, b, b1, c, c1, c2, v, lv0, rk, pt, ru, en, hi, hs]) ((τ1 on, (0, (0, []))) : S2) []) [0, 1, 2, 3, 4, 5, 6, 7, 8, 9, 10, 11, 12, 13, 14] rfl rfl ?_
  exact V_vret rfl dX9_init_65 ⟨rfl, _, rfl, rfl⟩)
def f_X10_f2 : Nat → St → Int32 → Option St
  | 0, _, _ => none
  | n + 1, σ, x1 => if 49 ≤ x1 then some σ else ixo (257 + x1) 373 (lt (sa σ 0 (upd (ga σ 0) (Int32.toNatClampNeg (257 + x1)) (-1))) fun σ1 => f_X10_f2 n σ1 (x1 + 1))
def f_X10_f1 : Nat → St → Int32 → Option St
  | 0, _, _ => none
  | n + 1, σ, x1 => if 8 ≤ x1 then f_X10_f2 100 σ 0 else ixo (0 + x1) 373 (lt (sa σ 0 (upd (ga σ 0) (Int32.toNatClampNeg (0 + x1)) 1)) fun σ1 => f_X10_f1 n σ1 (x1 + 1))
def f_X10_init : Option St := f_X10_f1 100 (((fun _ => 0), ((fun _ _ => 0), fun _ => 0)) : St) 0
set_option maxHeartbeats 4000000 in
set_option maxRecDepth 100000 in
theorem v_X10_f2 {l : Launch} {G : Gv} {d : Nat} {av0 : List Value} {w1 : va_W} {ad : Nat → Nat} {q : St} : ∀ (n : Nat) (σ : St) (x1 : Int32), f_X10_f2 n σ x1 = some q → VV l G yX10_init cX10_init 2 none d 14 3753 av0 w1 (fun ro w => ro = none ∧ ∃ ad1 : Nat → Nat, ad1 0 = ad 0 ∧ w = wM G ad1 q) 14 3753 (wM G ad σ) 145 [(0, .ref (ad 0)), (1, .int x1)] [] := by
  intro n
  induction n with
  | zero =>
    intro σ x1 hf
    cases hf
  | succ n ih =>
    intro σ x1 hf
    rw [f_X10_f2] at hf
    refine V_iload_n 1 rfl dX10_init_145 rfl ?_
    refine V_bipush 49 dX10_init_146 (by decide) ?_
    refine V_icmp_ge 168 dX10_init_148 (by decide) (fun h8 => ?_) (fun h8 => ?_)
    · replace hf := (if_pos h8).symm.trans hf
      cases hf
      exact V_vret rfl dX10_init_168 ⟨rfl, ad, rfl, rfl⟩
    · replace hf := (if_neg h8).symm.trans hf
      obtain ⟨hi, hf⟩ := ixo_some hf
      obtain ⟨σ1, e1, hf⟩ := lt_some hf
      refine V_aload_n 0 rfl dX10_init_151 rfl ?_
      refine V_get (k := 0) RC_X10 fl_X10_7 rfl (by decide) dX10_init_152 0 rfl rfl ?_
      refine V_sipush 257 dX10_init_155 (by decide) ?_
      refine V_iload_n 1 rfl dX10_init_158 rfl ?_
      refine V_iadd dX10_init_159 ?_
      refine V_iconst (-1) dX10_init_160 (by decide) ?_
      refine V_iastore dX10_init_161 1 rfl hi (wM G ad σ1) (by rw [e1]; rfl) ?_
      refine V_iinc 1 1 [(0, .ref (ad 0)), (1, .int (x1 + 1))] [1, 0] dX10_init_162 rfl (by decide) (by decide) rfl ?_
      refine V_goto 145 dX10_init_165 (by decide) ?_
      exact ih _ _ hf
set_option maxHeartbeats 4000000 in
set_option maxRecDepth 100000 in
theorem v_X10_f1 {l : Launch} {G : Gv} {d : Nat} {av0 : List Value} {w1 : va_W} {ad : Nat → Nat} {q : St} : ∀ (n : Nat) (σ : St) (x1 : Int32), f_X10_f1 n σ x1 = some q → VV l G yX10_init cX10_init 2 none d 14 3753 av0 w1 (fun ro w => ro = none ∧ ∃ ad1 : Nat → Nat, ad1 0 = ad 0 ∧ w = wM G ad1 q) 14 3753 (wM G ad σ) 122 [(0, .ref (ad 0)), (1, .int x1)] [] := by
  intro n
  induction n with
  | zero =>
    intro σ x1 hf
    cases hf
  | succ n ih =>
    intro σ x1 hf
    rw [f_X10_f1] at hf
    refine V_iload_n 1 rfl dX10_init_122 rfl ?_
    refine V_bipush 8 dX10_init_123 (by decide) ?_
    refine V_icmp_ge 143 dX10_init_125 (by decide) (fun h8 => ?_) (fun h8 => ?_)
    · replace hf := (if_pos h8).symm.trans hf
      refine V_iconst 0 dX10_init_143 (by decide) ?_
      refine V_istore_n [(0, .ref (ad 0)), (1, .int 0)] [1, 0] dX10_init_144 rfl (by decide) rfl ?_
      exact v_X10_f2 _ _ _ hf
    · replace hf := (if_neg h8).symm.trans hf
      obtain ⟨hi, hf⟩ := ixo_some hf
      obtain ⟨σ1, e1, hf⟩ := lt_some hf
      refine V_aload_n 0 rfl dX10_init_128 rfl ?_
      refine V_get (k := 0) RC_X10 fl_X10_7 rfl (by decide) dX10_init_129 0 rfl rfl ?_
      refine V_iconst 0 dX10_init_132 (by decide) ?_
      refine V_iload_n 1 rfl dX10_init_133 rfl ?_
      refine V_iadd dX10_init_134 ?_
      refine V_iconst (1) dX10_init_135 (by decide) ?_
      refine V_iastore dX10_init_136 1 rfl hi (wM G ad σ1) (by rw [e1]; rfl) ?_
      refine V_iinc 1 1 [(0, .ref (ad 0)), (1, .int (x1 + 1))] [1, 0] dX10_init_137 rfl (by decide) (by decide) rfl ?_
      refine V_goto 122 dX10_init_140 (by decide) ?_
      exact ih _ _ hf
set_option maxHeartbeats 4000000 in
set_option maxRecDepth 100000 in
theorem k_X10_init {l : Launch} {G : Gv} {d a : Nat} {q : St} (hd : 1 ≤ d) (hf : f_X10_init = some q) : K l G yX10_init cX10_init 2 none d 14 3753 [.ref a] [(a, .inr (7, [.null, .null, .int 0, .int 0, .null, .int 0, .null, .int 0, .null, .null, .int 0, .int 0, .int 0, .null, .int 0, .null, .int 0, .int 0, .null, .null, .null, .null, .null, .null, .int 0]))] (fun ro w => ro = none ∧ ∃ ad : Nat → Nat, ad 0 = a ∧ w = wM G ad q) := K_intro (by decide) (Nat.le_of_ble_eq_true rfl) (by
  refine V_aload_n 0 rfl dX10_init_0 rfl ?_
  refine V_objInit oi_X10_1 oi_m oi_c (by omega) (Nat.le_of_ble_eq_true rfl) dX10_init_1 ?_
  refine V_aload_n 0 rfl dX10_init_4 rfl ?_
  refine V_sipush 373 dX10_init_5 (by decide) ?_
  refine V_newI ai_m (N := 373) (by decide) (by decide) (by decide) (by decide) (by decide) dX10_init_8 (fun q0 => ?_)
  refine V_ws (ws1 := [(a, .inr (7, [.null, .null, .int 0, .int 0, .null, .int 0, .null, .int 0, .null, .null, .int 0, .int 0, .int 0, .null, .int 0, .null, .int 0, .int 0, .null, .null, .null, .null, .null, .null, .int 0])), (q0, .inl (G.2.1, 373, .inl (fun _ => 0)))]) rfl ?_
  refine V_putF (k := 0) RC_X10 fl_X10_7 rfl (by decide) rfl rfl rfl dX10_init_10 0 rfl (Nat.le_of_ble_eq_true rfl) rfl rfl [(a, .inr (7, [.ref q0, .null, .int 0, .int 0, .null, .int 0, .null, .int 0, .null, .null, .int 0, .int 0, .int 0, .null, .int 0, .null, .int 0, .int 0, .null, .null, .null, .null, .null, .null, .int 0])), (q0, .inl (G.2.1, 373, .inl (fun _ => 0)))] rfl ?_
  refine V_aload_n 0 rfl dX10_init_13 rfl ?_
  refine V_sipush 1492 dX10_init_14 (by decide) ?_
  refine V_newI ai_m (N := 1492) (by decide) (by decide) (by decide) (by decide) (by decide) dX10_init_17 (fun q1 => ?_)
  refine V_ws (ws1 := [(a, .inr (7, [.ref q0, .null, .int 0, .int 0, .null, .int 0, .null, .int 0, .null, .null, .int 0, .int 0, .int 0, .null, .int 0, .null, .int 0, .int 0, .null, .null, .null, .null, .null, .null, .int 0])), (q0, .inl (G.2.1, 373, .inl (fun _ => 0))), (q1, .inl (G.2.1, 1492, .inl (fun _ => 0)))]) rfl ?_
  refine V_putF (k := 1) RC_X10 fl_X10_13 rfl (by decide) rfl rfl rfl dX10_init_19 0 rfl (Nat.le_of_ble_eq_true rfl) rfl rfl [(a, .inr (7, [.ref q0, .ref q1, .int 0, .int 0, .null, .int 0, .null, .int 0, .null, .null, .int 0, .int 0, .int 0, .null, .int 0, .null, .int 0, .int 0, .null, .null, .null, .null, .null, .null, .int 0])), (q0, .inl (G.2.1, 373, .inl (fun _ => 0))), (q1, .inl (G.2.1, 1492, .inl (fun _ => 0)))] rfl ?_
  refine V_aload_n 0 rfl dX10_init_22 rfl ?_
  refine V_bipush 7 dX10_init_23 (by decide) ?_
  refine V_newI ai_m (N := 7) (by decide) (by decide) (by decide) (by decide) (by decide) dX10_init_25 (fun q2 => ?_)
  refine V_ws (ws1 := [(a, .inr (7, [.ref q0, .ref q1, .int 0, .int 0, .null, .int 0, .null, .int 0, .null, .null, .int 0, .int 0, .int 0, .null, .int 0, .null, .int 0, .int 0, .null, .null, .null, .null, .null, .null, .int 0])), (q0, .inl (G.2.1, 373, .inl (fun _ => 0))), (q1, .inl (G.2.1, 1492, .inl (fun _ => 0))), (q2, .inl (G.2.1, 7, .inl (fun _ => 0)))]) rfl ?_
  refine V_putF (k := 4) RC_X10 fl_X10_16 rfl (by decide) rfl rfl rfl dX10_init_27 0 rfl (Nat.le_of_ble_eq_true rfl) rfl rfl [(a, .inr (7, [.ref q0, .ref q1, .int 0, .int 0, .ref q2, .int 0, .null, .int 0, .null, .null, .int 0, .int 0, .int 0, .null, .int 0, .null, .int 0, .int 0, .null, .null, .null, .null, .null, .null, .int 0])), (q0, .inl (G.2.1, 373, .inl (fun _ => 0))), (q1, .inl (G.2.1, 1492, .inl (fun _ => 0))), (q2, .inl (G.2.1, 7, .inl (fun _ => 0)))] rfl ?_
  refine V_aload_n 0 rfl dX10_init_30 rfl ?_
  refine V_bipush 7 dX10_init_31 (by decide) ?_
  refine V_newI ai_m (N := 7) (by decide) (by decide) (by decide) (by decide) (by decide) dX10_init_33 (fun q3 => ?_)
  refine V_ws (ws1 := [(a, .inr (7, [.ref q0, .ref q1, .int 0, .int 0, .ref q2, .int 0, .null, .int 0, .null, .null, .int 0, .int 0, .int 0, .null, .int 0, .null, .int 0, .int 0, .null, .null, .null, .null, .null, .null, .int 0])), (q0, .inl (G.2.1, 373, .inl (fun _ => 0))), (q1, .inl (G.2.1, 1492, .inl (fun _ => 0))), (q2, .inl (G.2.1, 7, .inl (fun _ => 0))), (q3, .inl (G.2.1, 7, .inl (fun _ => 0)))]) rfl ?_
  refine V_putF (k := 6) RC_X10 fl_X10_19 rfl (by decide) rfl rfl rfl dX10_init_35 0 rfl (Nat.le_of_ble_eq_true rfl) rfl rfl [(a, .inr (7, [.ref q0, .ref q1, .int 0, .int 0, .ref q2, .int 0, .ref q3, .int 0, .null, .null, .int 0, .int 0, .int 0, .null, .int 0, .null, .int 0, .int 0, .null, .null, .null, .null, .null, .null, .int 0])), (q0, .inl (G.2.1, 373, .inl (fun _ => 0))), (q1, .inl (G.2.1, 1492, .inl (fun _ => 0))), (q2, .inl (G.2.1, 7, .inl (fun _ => 0))), (q3, .inl (G.2.1, 7, .inl (fun _ => 0)))] rfl ?_
  refine V_aload_n 0 rfl dX10_init_38 rfl ?_
  refine V_bipush 49 dX10_init_39 (by decide) ?_
  refine V_newI ai_m (N := 49) (by decide) (by decide) (by decide) (by decide) (by decide) dX10_init_41 (fun q4 => ?_)
  refine V_ws (ws1 := [(a, .inr (7, [.ref q0, .ref q1, .int 0, .int 0, .ref q2, .int 0, .ref q3, .int 0, .null, .null, .int 0, .int 0, .int 0, .null, .int 0, .null, .int 0, .int 0, .null, .null, .null, .null, .null, .null, .int 0])), (q0, .inl (G.2.1, 373, .inl (fun _ => 0))), (q1, .inl (G.2.1, 1492, .inl (fun _ => 0))), (q2, .inl (G.2.1, 7, .inl (fun _ => 0))), (q3, .inl (G.2.1, 7, .inl (fun _ => 0))), (q4, .inl (G.2.1, 49, .inl (fun _ => 0)))]) rfl ?_
  refine V_putF (k := 8) RC_X10 fl_X10_22 rfl (by decide) rfl rfl rfl dX10_init_43 0 rfl (Nat.le_of_ble_eq_true rfl) rfl rfl [(a, .inr (7, [.ref q0, .ref q1, .int 0, .int 0, .ref q2, .int 0, .ref q3, .int 0, .ref q4, .null, .int 0, .int 0, .int 0, .null, .int 0, .null, .int 0, .int 0, .null, .null, .null, .null, .null, .null, .int 0])), (q0, .inl (G.2.1, 373, .inl (fun _ => 0))), (q1, .inl (G.2.1, 1492, .inl (fun _ => 0))), (q2, .inl (G.2.1, 7, .inl (fun _ => 0))), (q3, .inl (G.2.1, 7, .inl (fun _ => 0))), (q4, .inl (G.2.1, 49, .inl (fun _ => 0)))] rfl ?_
  refine V_aload_n 0 rfl dX10_init_46 rfl ?_
  refine V_bipush 16 dX10_init_47 (by decide) ?_
  refine V_newI ai_m (N := 16) (by decide) (by decide) (by decide) (by decide) (by decide) dX10_init_49 (fun q5 => ?_)
  refine V_ws (ws1 := [(a, .inr (7, [.ref q0, .ref q1, .int 0, .int 0, .ref q2, .int 0, .ref q3, .int 0, .ref q4, .null, .int 0, .int 0, .int 0, .null, .int 0, .null, .int 0, .int 0, .null, .null, .null, .null, .null, .null, .int 0])), (q0, .inl (G.2.1, 373, .inl (fun _ => 0))), (q1, .inl (G.2.1, 1492, .inl (fun _ => 0))), (q2, .inl (G.2.1, 7, .inl (fun _ => 0))), (q3, .inl (G.2.1, 7, .inl (fun _ => 0))), (q4, .inl (G.2.1, 49, .inl (fun _ => 0))), (q5, .inl (G.2.1, 16, .inl (fun _ => 0)))]) rfl ?_
  refine V_putF (k := 9) RC_X10 fl_X10_25 rfl (by decide) rfl rfl rfl dX10_init_51 0 rfl (Nat.le_of_ble_eq_true rfl) rfl rfl [(a, .inr (7, [.ref q0, .ref q1, .int 0, .int 0, .ref q2, .int 0, .ref q3, .int 0, .ref q4, .ref q5, .int 0, .int 0, .int 0, .null, .int 0, .null, .int 0, .int 0, .null, .null, .null, .null, .null, .null, .int 0])), (q0, .inl (G.2.1, 373, .inl (fun _ => 0))), (q1, .inl (G.2.1, 1492, .inl (fun _ => 0))), (q2, .inl (G.2.1, 7, .inl (fun _ => 0))), (q3, .inl (G.2.1, 7, .inl (fun _ => 0))), (q4, .inl (G.2.1, 49, .inl (fun _ => 0))), (q5, .inl (G.2.1, 16, .inl (fun _ => 0)))] rfl ?_
  refine V_aload_n 0 rfl dX10_init_54 rfl ?_
  refine V_bipush 7 dX10_init_55 (by decide) ?_
  refine V_newI ai_m (N := 7) (by decide) (by decide) (by decide) (by decide) (by decide) dX10_init_57 (fun q6 => ?_)
  refine V_ws (ws1 := [(a, .inr (7, [.ref q0, .ref q1, .int 0, .int 0, .ref q2, .int 0, .ref q3, .int 0, .ref q4, .ref q5, .int 0, .int 0, .int 0, .null, .int 0, .null, .int 0, .int 0, .null, .null, .null, .null, .null, .null, .int 0])), (q0, .inl (G.2.1, 373, .inl (fun _ => 0))), (q1, .inl (G.2.1, 1492, .inl (fun _ => 0))), (q2, .inl (G.2.1, 7, .inl (fun _ => 0))), (q3, .inl (G.2.1, 7, .inl (fun _ => 0))), (q4, .inl (G.2.1, 49, .inl (fun _ => 0))), (q5, .inl (G.2.1, 16, .inl (fun _ => 0))), (q6, .inl (G.2.1, 7, .inl (fun _ => 0)))]) rfl ?_
  refine V_putF (k := 13) RC_X10 fl_X10_28 rfl (by decide) rfl rfl rfl dX10_init_59 0 rfl (Nat.le_of_ble_eq_true rfl) rfl rfl [(a, .inr (7, [.ref q0, .ref q1, .int 0, .int 0, .ref q2, .int 0, .ref q3, .int 0, .ref q4, .ref q5, .int 0, .int 0, .int 0, .ref q6, .int 0, .null, .int 0, .int 0, .null, .null, .null, .null, .null, .null, .int 0])), (q0, .inl (G.2.1, 373, .inl (fun _ => 0))), (q1, .inl (G.2.1, 1492, .inl (fun _ => 0))), (q2, .inl (G.2.1, 7, .inl (fun _ => 0))), (q3, .inl (G.2.1, 7, .inl (fun _ => 0))), (q4, .inl (G.2.1, 49, .inl (fun _ => 0))), (q5, .inl (G.2.1, 16, .inl (fun _ => 0))), (q6, .inl (G.2.1, 7, .inl (fun _ => 0)))] rfl ?_
  refine V_aload_n 0 rfl dX10_init_62 rfl ?_
  refine V_bipush 8 dX10_init_63 (by decide) ?_
  refine V_newI ai_m (N := 8) (by decide) (by decide) (by decide) (by decide) (by decide) dX10_init_65 (fun q7 => ?_)
  refine V_ws (ws1 := [(a, .inr (7, [.ref q0, .ref q1, .int 0, .int 0, .ref q2, .int 0, .ref q3, .int 0, .ref q4, .ref q5, .int 0, .int 0, .int 0, .ref q6, .int 0, .null, .int 0, .int 0, .null, .null, .null, .null, .null, .null, .int 0])), (q0, .inl (G.2.1, 373, .inl (fun _ => 0))), (q1, .inl (G.2.1, 1492, .inl (fun _ => 0))), (q2, .inl (G.2.1, 7, .inl (fun _ => 0))), (q3, .inl (G.2.1, 7, .inl (fun _ => 0))), (q4, .inl (G.2.1, 49, .inl (fun _ => 0))), (q5, .inl (G.2.1, 16, .inl (fun _ => 0))), (q6, .inl (G.2.1, 7, .inl (fun _ => 0))), (q7, .inl (G.2.1, 8, .inl (fun _ => 0)))]) rfl ?_
  refine V_putF (k := 15) RC_X10 fl_X10_31 rfl (by decide) rfl rfl rfl dX10_init_67 0 rfl (Nat.le_of_ble_eq_true rfl) rfl rfl [(a, .inr (7, [.ref q0, .ref q1, .int 0, .int 0, .ref q2, .int 0, .ref q3, .int 0, .ref q4, .ref q5, .int 0, .int 0, .int 0, .ref q6, .int 0, .ref q7, .int 0, .int 0, .null, .null, .null, .null, .null, .null, .int 0])), (q0, .inl (G.2.1, 373, .inl (fun _ => 0))), (q1, .inl (G.2.1, 1492, .inl (fun _ => 0))), (q2, .inl (G.2.1, 7, .inl (fun _ => 0))), (q3, .inl (G.2.1, 7, .inl (fun _ => 0))), (q4, .inl (G.2.1, 49, .inl (fun _ => 0))), (q5, .inl (G.2.1, 16, .inl (fun _ => 0))), (q6, .inl (G.2.1, 7, .inl (fun _ => 0))), (q7, .inl (G.2.1, 8, .inl (fun _ => 0)))] rfl ?_
  refine V_aload_n 0 rfl dX10_init_70 rfl ?_
  refine V_sipush 1274 dX10_init_71 (by decide) ?_
  refine V_newI ai_m (N := 1274) (by decide) (by decide) (by decide) (by decide) (by decide) dX10_init_74 (fun q8 => ?_)
  refine V_ws (ws1 := [(a, .inr (7, [.ref q0, .ref q1, .int 0, .int 0, .ref q2, .int 0, .ref q3, .int 0, .ref q4, .ref q5, .int 0, .int 0, .int 0, .ref q6, .int 0, .ref q7, .int 0, .int 0, .null, .null, .null, .null, .null, .null, .int 0])), (q0, .inl (G.2.1, 373, .inl (fun _ => 0))), (q1, .inl (G.2.1, 1492, .inl (fun _ => 0))), (q2, .inl (G.2.1, 7, .inl (fun _ => 0))), (q3, .inl (G.2.1, 7, .inl (fun _ => 0))), (q4, .inl (G.2.1, 49, .inl (fun _ => 0))), (q5, .inl (G.2.1, 16, .inl (fun _ => 0))), (q6, .inl (G.2.1, 7, .inl (fun _ => 0))), (q7, .inl (G.2.1, 8, .inl (fun _ => 0))), (q8, .inl (G.2.1, 1274, .inl (fun _ => 0)))]) rfl ?_
  refine V_putF (k := 18) RC_X10 fl_X10_34 rfl (by decide) rfl rfl rfl dX10_init_76 0 rfl (Nat.le_of_ble_eq_true rfl) rfl rfl [(a, .inr (7, [.ref q0, .ref q1, .int 0, .int 0, .ref q2, .int 0, .ref q3, .int 0, .ref q4, .ref q5, .int 0, .int 0, .int 0, .ref q6, .int 0, .ref q7, .int 0, .int 0, .ref q8, .null, .null, .null, .null, .null, .int 0])), (q0, .inl (G.2.1, 373, .inl (fun _ => 0))), (q1, .inl (G.2.1, 1492, .inl (fun _ => 0))), (q2, .inl (G.2.1, 7, .inl (fun _ => 0))), (q3, .inl (G.2.1, 7, .inl (fun _ => 0))), (q4, .inl (G.2.1, 49, .inl (fun _ => 0))), (q5, .inl (G.2.1, 16, .inl (fun _ => 0))), (q6, .inl (G.2.1, 7, .inl (fun _ => 0))), (q7, .inl (G.2.1, 8, .inl (fun _ => 0))), (q8, .inl (G.2.1, 1274, .inl (fun _ => 0)))] rfl ?_
  refine V_aload_n 0 rfl dX10_init_79 rfl ?_
  refine V_sipush 416 dX10_init_80 (by decide) ?_
  refine V_newI ai_m (N := 416) (by decide) (by decide) (by decide) (by decide) (by decide) dX10_init_83 (fun q9 => ?_)
  refine V_ws (ws1 := [(a, .inr (7, [.ref q0, .ref q1, .int 0, .int 0, .ref q2, .int 0, .ref q3, .int 0, .ref q4, .ref q5, .int 0, .int 0, .int 0, .ref q6, .int 0, .ref q7, .int 0, .int 0, .ref q8, .null, .null, .null, .null, .null, .int 0])), (q0, .inl (G.2.1, 373, .inl (fun _ => 0))), (q1, .inl (G.2.1, 1492, .inl (fun _ => 0))), (q2, .inl (G.2.1, 7, .inl (fun _ => 0))), (q3, .inl (G.2.1, 7, .inl (fun _ => 0))), (q4, .inl (G.2.1, 49, .inl (fun _ => 0))), (q5, .inl (G.2.1, 16, .inl (fun _ => 0))), (q6, .inl (G.2.1, 7, .inl (fun _ => 0))), (q7, .inl (G.2.1, 8, .inl (fun _ => 0))), (q8, .inl (G.2.1, 1274, .inl (fun _ => 0))), (q9, .inl (G.2.1, 416, .inl (fun _ => 0)))]) rfl ?_
  refine V_putF (k := 19) RC_X10 fl_X10_37 rfl (by decide) rfl rfl rfl dX10_init_85 0 rfl (Nat.le_of_ble_eq_true rfl) rfl rfl [(a, .inr (7, [.ref q0, .ref q1, .int 0, .int 0, .ref q2, .int 0, .ref q3, .int 0, .ref q4, .ref q5, .int 0, .int 0, .int 0, .ref q6, .int 0, .ref q7, .int 0, .int 0, .ref q8, .ref q9, .null, .null, .null, .null, .int 0])), (q0, .inl (G.2.1, 373, .inl (fun _ => 0))), (q1, .inl (G.2.1, 1492, .inl (fun _ => 0))), (q2, .inl (G.2.1, 7, .inl (fun _ => 0))), (q3, .inl (G.2.1, 7, .inl (fun _ => 0))), (q4, .inl (G.2.1, 49, .inl (fun _ => 0))), (q5, .inl (G.2.1, 16, .inl (fun _ => 0))), (q6, .inl (G.2.1, 7, .inl (fun _ => 0))), (q7, .inl (G.2.1, 8, .inl (fun _ => 0))), (q8, .inl (G.2.1, 1274, .inl (fun _ => 0))), (q9, .inl (G.2.1, 416, .inl (fun _ => 0)))] rfl ?_
  refine V_aload_n 0 rfl dX10_init_88 rfl ?_
  refine V_bipush 26 dX10_init_89 (by decide) ?_
  refine V_newI ai_m (N := 26) (by decide) (by decide) (by decide) (by decide) (by decide) dX10_init_91 (fun q10 => ?_)
  refine V_ws (ws1 := [(a, .inr (7, [.ref q0, .ref q1, .int 0, .int 0, .ref q2, .int 0, .ref q3, .int 0, .ref q4, .ref q5, .int 0, .int 0, .int 0, .ref q6, .int 0, .ref q7, .int 0, .int 0, .ref q8, .ref q9, .null, .null, .null, .null, .int 0])), (q0, .inl (G.2.1, 373, .inl (fun _ => 0))), (q1, .inl (G.2.1, 1492, .inl (fun _ => 0))), (q2, .inl (G.2.1, 7, .inl (fun _ => 0))), (q3, .inl (G.2.1, 7, .inl (fun _ => 0))), (q4, .inl (G.2.1, 49, .inl (fun _ => 0))), (q5, .inl (G.2.1, 16, .inl (fun _ => 0))), (q6, .inl (G.2.1, 7, .inl (fun _ => 0))), (q7, .inl (G.2.1, 8, .inl (fun _ => 0))), (q8, .inl (G.2.1, 1274, .inl (fun _ => 0))), (q9, .inl (G.2.1, 416, .inl (fun _ => 0))), (q10, .inl (G.2.1, 26, .inl (fun _ => 0)))]) rfl ?_
  refine V_putF (k := 20) RC_X10 fl_X10_40 rfl (by decide) rfl rfl rfl dX10_init_93 0 rfl (Nat.le_of_ble_eq_true rfl) rfl rfl [(a, .inr (7, [.ref q0, .ref q1, .int 0, .int 0, .ref q2, .int 0, .ref q3, .int 0, .ref q4, .ref q5, .int 0, .int 0, .int 0, .ref q6, .int 0, .ref q7, .int 0, .int 0, .ref q8, .ref q9, .ref q10, .null, .null, .null, .int 0])), (q0, .inl (G.2.1, 373, .inl (fun _ => 0))), (q1, .inl (G.2.1, 1492, .inl (fun _ => 0))), (q2, .inl (G.2.1, 7, .inl (fun _ => 0))), (q3, .inl (G.2.1, 7, .inl (fun _ => 0))), (q4, .inl (G.2.1, 49, .inl (fun _ => 0))), (q5, .inl (G.2.1, 16, .inl (fun _ => 0))), (q6, .inl (G.2.1, 7, .inl (fun _ => 0))), (q7, .inl (G.2.1, 8, .inl (fun _ => 0))), (q8, .inl (G.2.1, 1274, .inl (fun _ => 0))), (q9, .inl (G.2.1, 416, .inl (fun _ => 0))), (q10, .inl (G.2.1, 26, .inl (fun _ => 0)))] rfl ?_
  refine V_aload_n 0 rfl dX10_init_96 rfl ?_
  refine V_bipush 26 dX10_init_97 (by decide) ?_
  refine V_newI ai_m (N := 26) (by decide) (by decide) (by decide) (by decide) (by decide) dX10_init_99 (fun q11 => ?_)
  refine V_ws (ws1 := [(a, .inr (7, [.ref q0, .ref q1, .int 0, .int 0, .ref q2, .int 0, .ref q3, .int 0, .ref q4, .ref q5, .int 0, .int 0, .int 0, .ref q6, .int 0, .ref q7, .int 0, .int 0, .ref q8, .ref q9, .ref q10, .null, .null, .null, .int 0])), (q0, .inl (G.2.1, 373, .inl (fun _ => 0))), (q1, .inl (G.2.1, 1492, .inl (fun _ => 0))), (q2, .inl (G.2.1, 7, .inl (fun _ => 0))), (q3, .inl (G.2.1, 7, .inl (fun _ => 0))), (q4, .inl (G.2.1, 49, .inl (fun _ => 0))), (q5, .inl (G.2.1, 16, .inl (fun _ => 0))), (q6, .inl (G.2.1, 7, .inl (fun _ => 0))), (q7, .inl (G.2.1, 8, .inl (fun _ => 0))), (q8, .inl (G.2.1, 1274, .inl (fun _ => 0))), (q9, .inl (G.2.1, 416, .inl (fun _ => 0))), (q10, .inl (G.2.1, 26, .inl (fun _ => 0))), (q11, .inl (G.2.1, 26, .inl (fun _ => 0)))]) rfl ?_
  refine V_putF (k := 21) RC_X10 fl_X10_43 rfl (by decide) rfl rfl rfl dX10_init_101 0 rfl (Nat.le_of_ble_eq_true rfl) rfl rfl [(a, .inr (7, [.ref q0, .ref q1, .int 0, .int 0, .ref q2, .int 0, .ref q3, .int 0, .ref q4, .ref q5, .int 0, .int 0, .int 0, .ref q6, .int 0, .ref q7, .int 0, .int 0, .ref q8, .ref q9, .ref q10, .ref q11, .null, .null, .int 0])), (q0, .inl (G.2.1, 373, .inl (fun _ => 0))), (q1, .inl (G.2.1, 1492, .inl (fun _ => 0))), (q2, .inl (G.2.1, 7, .inl (fun _ => 0))), (q3, .inl (G.2.1, 7, .inl (fun _ => 0))), (q4, .inl (G.2.1, 49, .inl (fun _ => 0))), (q5, .inl (G.2.1, 16, .inl (fun _ => 0))), (q6, .inl (G.2.1, 7, .inl (fun _ => 0))), (q7, .inl (G.2.1, 8, .inl (fun _ => 0))), (q8, .inl (G.2.1, 1274, .inl (fun _ => 0))), (q9, .inl (G.2.1, 416, .inl (fun _ => 0))), (q10, .inl (G.2.1, 26, .inl (fun _ => 0))), (q11, .inl (G.2.1, 26, .inl (fun _ => 0)))] rfl ?_
  refine V_aload_n 0 rfl dX10_init_104 rfl ?_
  refine V_bipush 26 dX10_init_105 (by decide) ?_
  refine V_newI ai_m (N := 26) (by decide) (by decide) (by decide) (by decide) (by decide) dX10_init_107 (fun q12 => ?_)
  refine V_ws (ws1 := [(a, .inr (7, [.ref q0, .ref q1, .int 0, .int 0, .ref q2, .int 0, .ref q3, .int 0, .ref q4, .ref q5, .int 0, .int 0, .int 0, .ref q6, .int 0, .ref q7, .int 0, .int 0, .ref q8, .ref q9, .ref q10, .ref q11, .null, .null, .int 0])), (q0, .inl (G.2.1, 373, .inl (fun _ => 0))), (q1, .inl (G.2.1, 1492, .inl (fun _ => 0))), (q2, .inl (G.2.1, 7, .inl (fun _ => 0))), (q3, .inl (G.2.1, 7, .inl (fun _ => 0))), (q4, .inl (G.2.1, 49, .inl (fun _ => 0))), (q5, .inl (G.2.1, 16, .inl (fun _ => 0))), (q6, .inl (G.2.1, 7, .inl (fun _ => 0))), (q7, .inl (G.2.1, 8, .inl (fun _ => 0))), (q8, .inl (G.2.1, 1274, .inl (fun _ => 0))), (q9, .inl (G.2.1, 416, .inl (fun _ => 0))), (q10, .inl (G.2.1, 26, .inl (fun _ => 0))), (q11, .inl (G.2.1, 26, .inl (fun _ => 0))), (q12, .inl (G.2.1, 26, .inl (fun _ => 0)))]) rfl ?_
  refine V_putF (k := 22) RC_X10 fl_X10_46 rfl (by decide) rfl rfl rfl dX10_init_109 0 rfl (Nat.le_of_ble_eq_true rfl) rfl rfl [(a, .inr (7, [.ref q0, .ref q1, .int 0, .int 0, .ref q2, .int 0, .ref q3, .int 0, .ref q4, .ref q5, .int 0, .int 0, .int 0, .ref q6, .int 0, .ref q7, .int 0, .int 0, .ref q8, .ref q9, .ref q10, .ref q11, .ref q12, .null, .int 0])), (q0, .inl (G.2.1, 373, .inl (fun _ => 0))), (q1, .inl (G.2.1, 1492, .inl (fun _ => 0))), (q2, .inl (G.2.1, 7, .inl (fun _ => 0))), (q3, .inl (G.2.1, 7, .inl (fun _ => 0))), (q4, .inl (G.2.1, 49, .inl (fun _ => 0))), (q5, .inl (G.2.1, 16, .inl (fun _ => 0))), (q6, .inl (G.2.1, 7, .inl (fun _ => 0))), (q7, .inl (G.2.1, 8, .inl (fun _ => 0))), (q8, .inl (G.2.1, 1274, .inl (fun _ => 0))), (q9, .inl (G.2.1, 416, .inl (fun _ => 0))), (q10, .inl (G.2.1, 26, .inl (fun _ => 0))), (q11, .inl (G.2.1, 26, .inl (fun _ => 0))), (q12, .inl (G.2.1, 26, .inl (fun _ => 0)))] rfl ?_
  refine V_aload_n 0 rfl dX10_init_112 rfl ?_
  refine V_bipush 26 dX10_init_113 (by decide) ?_
  refine V_newI ai_m (N := 26) (by decide) (by decide) (by decide) (by decide) (by decide) dX10_init_115 (fun q13 => ?_)
  refine V_ws (ws1 := [(a, .inr (7, [.ref q0, .ref q1, .int 0, .int 0, .ref q2, .int 0, .ref q3, .int 0, .ref q4, .ref q5, .int 0, .int 0, .int 0, .ref q6, .int 0, .ref q7, .int 0, .int 0, .ref q8, .ref q9, .ref q10, .ref q11, .ref q12, .null, .int 0])), (q0, .inl (G.2.1, 373, .inl (fun _ => 0))), (q1, .inl (G.2.1, 1492, .inl (fun _ => 0))), (q2, .inl (G.2.1, 7, .inl (fun _ => 0))), (q3, .inl (G.2.1, 7, .inl (fun _ => 0))), (q4, .inl (G.2.1, 49, .inl (fun _ => 0))), (q5, .inl (G.2.1, 16, .inl (fun _ => 0))), (q6, .inl (G.2.1, 7, .inl (fun _ => 0))), (q7, .inl (G.2.1, 8, .inl (fun _ => 0))), (q8, .inl (G.2.1, 1274, .inl (fun _ => 0))), (q9, .inl (G.2.1, 416, .inl (fun _ => 0))), (q10, .inl (G.2.1, 26, .inl (fun _ => 0))), (q11, .inl (G.2.1, 26, .inl (fun _ => 0))), (q12, .inl (G.2.1, 26, .inl (fun _ => 0))), (q13, .inl (G.2.1, 26, .inl (fun _ => 0)))]) rfl ?_
  refine V_putF (k := 23) RC_X10 fl_X10_49 rfl (by decide) rfl rfl rfl dX10_init_117 0 rfl (Nat.le_of_ble_eq_true rfl) rfl rfl [(a, .inr (7, [.ref q0, .ref q1, .int 0, .int 0, .ref q2, .int 0, .ref q3, .int 0, .ref q4, .ref q5, .int 0, .int 0, .int 0, .ref q6, .int 0, .ref q7, .int 0, .int 0, .ref q8, .ref q9, .ref q10, .ref q11, .ref q12, .ref q13, .int 0])), (q0, .inl (G.2.1, 373, .inl (fun _ => 0))), (q1, .inl (G.2.1, 1492, .inl (fun _ => 0))), (q2, .inl (G.2.1, 7, .inl (fun _ => 0))), (q3, .inl (G.2.1, 7, .inl (fun _ => 0))), (q4, .inl (G.2.1, 49, .inl (fun _ => 0))), (q5, .inl (G.2.1, 16, .inl (fun _ => 0))), (q6, .inl (G.2.1, 7, .inl (fun _ => 0))), (q7, .inl (G.2.1, 8, .inl (fun _ => 0))), (q8, .inl (G.2.1, 1274, .inl (fun _ => 0))), (q9, .inl (G.2.1, 416, .inl (fun _ => 0))), (q10, .inl (G.2.1, 26, .inl (fun _ => 0))), (q11, .inl (G.2.1, 26, .inl (fun _ => 0))), (q12, .inl (G.2.1, 26, .inl (fun _ => 0))), (q13, .inl (G.2.1, 26, .inl (fun _ => 0)))] rfl ?_
  refine V_iconst 0 dX10_init_120 (by decide) ?_
  refine V_istore_n [(0, .ref a), (1, .int 0)] [1, 0] dX10_init_121 rfl (by decide) rfl ?_
  refine V_ws (ws1 := wM G (ad10 [a, q0, q1, q2, q3, q4, q5, q6, q7, q8, q9, q10, q11, q12, q13]) (((fun _ => 0), ((fun _ _ => 0), fun _ => 0)) : St)) rfl ?_
  exact v_X10_f1 (ad := (ad10 [a, q0, q1, q2, q3, q4, q5, q6, q7, q8, q9, q10, q11, q12, q13])) _ _ _ hf)
