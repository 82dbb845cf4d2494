theorem kc_X9_253 : Cond.constantLong RX9 253 (31) ∈ tblG := tin 193 (by decide +kernel) (by decide +kernel)
theorem kc_J13_314 : Cond.constantLong RJ13 314 (6148914691236517205) ∈ tblG := tin 182 (by decide +kernel) (by decide +kernel)
theorem kc_J13_316 : Cond.constantLong RJ13 316 (3689348814741910323) ∈ tblG := tin 183 (by decide +kernel) (by decide +kernel)
theorem kc_J13_318 : Cond.constantLong RJ13 318 (1085102592571150095) ∈ tblG := tin 184 (by decide +kernel) (by decide +kernel)
theorem fl_X7_25 : Cond.fieldLink RX7 25 RX7 "values" "[I" ∈ tblG := tin 72 (by decide +kernel) (by decide +kernel)
theorem fl_X7_29 : Cond.fieldLink RX7 29 RX7 "leaves" "[I" ∈ tblG := tin 73 (by decide +kernel) (by decide +kernel)
theorem fl_X7_32 : Cond.fieldLink RX7 32 RX7 "racks" "[I" ∈ tblG := tin 74 (by decide +kernel) (by decide +kernel)
theorem fl_X7_35 : Cond.fieldLink RX7 35 RX7 "pointsOfPlayers" "[I" ∈ tblG := tin 75 (by decide +kernel) (by decide +kernel)
theorem LB_X9_isLetter : LB yX9_isLetter cX9_isLetter 1 (some .boolean) 1 := ⟨tin 203 (by decide +kernel) (by decide +kernel), tin 1 (by decide +kernel) (by decide +kernel), by decide, by decide, by decide, by decide +kernel⟩
theorem lk_X7_38 : Cond.methodLinkNest RX7 38 yX9_isLetter "TileWordBoard" ∈ nestL ∧ Cond.static yX9_isLetter ∈ tblG := ⟨by decide +kernel, tin 202 (by decide +kernel) (by decide +kernel)⟩
theorem LB_X9_isPlayer : LB yX9_isPlayer cX9_isPlayer 1 (some .boolean) 1 := ⟨tin 241 (by decide +kernel) (by decide +kernel), tin 1 (by decide +kernel) (by decide +kernel), by decide, by decide, by decide, by decide +kernel⟩
theorem lk_X7_42 : Cond.methodLinkNest RX7 42 yX9_isPlayer "TileWordBoard" ∈ nestL ∧ Cond.static yX9_isPlayer ∈ tblG := ⟨by decide +kernel, tin 240 (by decide +kernel) (by decide +kernel)⟩
theorem LB_X7_rack : LB yX7_rack cX7_rack 2 (some .int) 1 := ⟨tin 238 (by decide +kernel) (by decide +kernel), tin 2 (by decide +kernel) (by decide +kernel), by decide, by decide, by decide, by decide +kernel⟩
theorem lk_X7_47 : Cond.methodLink RX7 47 yX7_rack ∈ tblG ∧ Cond.instanceMethod yX7_rack ∈ tblG ∧ Cond.selects yX7_rack.cls yX7_rack yX7_rack ∈ tblG := ⟨tin 783 (by decide +kernel) (by decide +kernel), tin 236 (by decide +kernel) (by decide +kernel), tin 237 (by decide +kernel) (by decide +kernel)⟩
theorem LB_X4_count : LB yX4_count cX4_count 2 (some .int) 2 := ⟨tin 247 (by decide +kernel) (by decide +kernel), tin 18 (by decide +kernel) (by decide +kernel), by decide, by decide, by decide, by decide +kernel⟩
theorem lk_X7_51 : Cond.methodLink RX7 51 yX4_count ∈ tblG ∧ Cond.static yX4_count ∈ tblG := ⟨tin 726 (by decide +kernel) (by decide +kernel), tin 246 (by decide +kernel) (by decide +kernel)⟩
theorem lk_X7_55 : Cond.methodLink RX7 55 yX8_length ∈ tblG ∧ Cond.static yX8_length ∈ tblG := ⟨tin 664 (by decide +kernel) (by decide +kernel), tin 154 (by decide +kernel) (by decide +kernel)⟩
theorem lk_X7_60 : Cond.methodLink RX7 60 yX8_letter ∈ tblG ∧ Cond.static yX8_letter ∈ tblG := ⟨tin 665 (by decide +kernel) (by decide +kernel), tin 195 (by decide +kernel) (by decide +kernel)⟩
theorem LB_X7_value : LB yX7_value cX7_value 2 (some .int) 1 := ⟨tin 200 (by decide +kernel) (by decide +kernel), tin 2 (by decide +kernel) (by decide +kernel), by decide, by decide, by decide, by decide +kernel⟩
theorem lk_X7_63 : Cond.methodLink RX7 63 yX7_value ∈ tblG ∧ Cond.instanceMethod yX7_value ∈ tblG ∧ Cond.selects yX7_value.cls yX7_value yX7_value ∈ tblG := ⟨tin 666 (by decide +kernel) (by decide +kernel), tin 198 (by decide +kernel) (by decide +kernel), tin 199 (by decide +kernel) (by decide +kernel)⟩
theorem lk_X9_152 : Cond.methodLink RX9 152 yX4_count ∈ tblG ∧ Cond.static yX4_count ∈ tblG := ⟨tin 245 (by decide +kernel) (by decide +kernel), tin 246 (by decide +kernel) (by decide +kernel)⟩
theorem lk_X9_268 : Cond.methodLink RX9 268 yX8_letter ∈ tblG ∧ Cond.static yX8_letter ∈ tblG := ⟨tin 194 (by decide +kernel) (by decide +kernel), tin 195 (by decide +kernel) (by decide +kernel)⟩
theorem lk_X9_51 : Cond.methodLink RX9 51 yX8_length ∈ tblG ∧ Cond.static yX8_length ∈ tblG := ⟨tin 153 (by decide +kernel) (by decide +kernel), tin 154 (by decide +kernel) (by decide +kernel)⟩
def f_J13_bitCount_95d88 (x0 : Int64) : Option Int32 := lt (x0 - ((lush x0 (1)) &&& (6148914691236517205))) fun t1 => lt ((t1 &&& (3689348814741910323)) + ((lush t1 (2)) &&& (3689348814741910323))) fun t2 => lt ((t2 + (lush t2 (4))) &&& (1085102592571150095)) fun t3 => lt ((t3 + (lush t3 (8))) + (lush (t3 + (lush t3 (8))) (16))) fun t4 => some ((Int64.toInt32 (t4 + (lush t4 (32)))) &&& (127))
set_option maxHeartbeats 4000000 in
set_option maxRecDepth 100000 in
theorem v_J13_bitCount_95d88 {l : Launch} {G : Gv} {d : Nat} {av0 : List Value} {w1 : va_W} {w0 : va_W} {q : Int32} {x0 : Int64} (hd : 0 ≤ d) (hf : f_J13_bitCount_95d88 x0 = some q) : VV l G yJ13_bitCount_95d88 cJ13_bitCount_95d88 2 (some .int) d 0 0 av0 w1 (pD (some (.int q)) w0) 0 0 w0 0 [(0, .long x0)] [] := by
  unfold f_J13_bitCount_95d88 at hf
  refine V_lload_n 0 rfl dJ13_bitCount_95d88_0 rfl ?_
  refine V_lload_n 0 rfl dJ13_bitCount_95d88_1 rfl ?_
  refine V_iconst 1 dJ13_bitCount_95d88_2 (by decide) ?_
  refine V_lushr dJ13_bitCount_95d88_3 ?_
  refine V_ldc2 (6148914691236517205) kc_J13_314 dJ13_bitCount_95d88_4 ?_
  refine V_land dJ13_bitCount_95d88_7 ?_
  refine V_lsub dJ13_bitCount_95d88_8 ?_
  obtain ⟨t1, et1, hf⟩ := lt_some hf
  refine V_topl et1 ?_
  refine V_lstore_n [(0, .long t1)] [0] dJ13_bitCount_95d88_9 rfl (by decide) rfl ?_
  refine V_lload_n 0 rfl dJ13_bitCount_95d88_10 rfl ?_
  refine V_ldc2 (3689348814741910323) kc_J13_316 dJ13_bitCount_95d88_11 ?_
  refine V_land dJ13_bitCount_95d88_14 ?_
  refine V_lload_n 0 rfl dJ13_bitCount_95d88_15 rfl ?_
  refine V_iconst 2 dJ13_bitCount_95d88_16 (by decide) ?_
  refine V_lushr dJ13_bitCount_95d88_17 ?_
  refine V_ldc2 (3689348814741910323) kc_J13_316 dJ13_bitCount_95d88_18 ?_
  refine V_land dJ13_bitCount_95d88_21 ?_
  refine V_ladd dJ13_bitCount_95d88_22 ?_
  obtain ⟨t2, et2, hf⟩ := lt_some hf
  refine V_topl et2 ?_
  refine V_lstore_n [(0, .long t2)] [0] dJ13_bitCount_95d88_23 rfl (by decide) rfl ?_
  refine V_lload_n 0 rfl dJ13_bitCount_95d88_24 rfl ?_
  refine V_lload_n 0 rfl dJ13_bitCount_95d88_25 rfl ?_
  refine V_iconst 4 dJ13_bitCount_95d88_26 (by decide) ?_
  refine V_lushr dJ13_bitCount_95d88_27 ?_
  refine V_ladd dJ13_bitCount_95d88_28 ?_
  refine V_ldc2 (1085102592571150095) kc_J13_318 dJ13_bitCount_95d88_29 ?_
  refine V_land dJ13_bitCount_95d88_32 ?_
  obtain ⟨t3, et3, hf⟩ := lt_some hf
  refine V_topl et3 ?_
  refine V_lstore_n [(0, .long t3)] [0] dJ13_bitCount_95d88_33 rfl (by decide) rfl ?_
  refine V_lload_n 0 rfl dJ13_bitCount_95d88_34 rfl ?_
  refine V_lload_n 0 rfl dJ13_bitCount_95d88_35 rfl ?_
  refine V_bipush 8 dJ13_bitCount_95d88_36 (by decide) ?_
  refine V_lushr dJ13_bitCount_95d88_38 ?_
  refine V_ladd dJ13_bitCount_95d88_39 ?_
  refine V_lstore_n [(0, .long (t3 + (lush t3 (8))))] [0] dJ13_bitCount_95d88_40 rfl (by decide) rfl ?_
  refine V_lload_n 0 rfl dJ13_bitCount_95d88_41 rfl ?_
  refine V_lload_n 0 rfl dJ13_bitCount_95d88_42 rfl ?_
  refine V_bipush 16 dJ13_bitCount_95d88_43 (by decide) ?_
  refine V_lushr dJ13_bitCount_95d88_45 ?_
  refine V_ladd dJ13_bitCount_95d88_46 ?_
  obtain ⟨t4, et4, hf⟩ := lt_some hf
  refine V_topl et4 ?_
  refine V_lstore_n [(0, .long t4)] [0] dJ13_bitCount_95d88_47 rfl (by decide) rfl ?_
  refine V_lload_n 0 rfl dJ13_bitCount_95d88_48 rfl ?_
  refine V_lload_n 0 rfl dJ13_bitCount_95d88_49 rfl ?_
  refine V_bipush 32 dJ13_bitCount_95d88_50 (by decide) ?_
  refine V_lushr dJ13_bitCount_95d88_52 ?_
  refine V_ladd dJ13_bitCount_95d88_53 ?_
  refine V_lstore_n [(0, .long (t4 + (lush t4 (32))))] [0] dJ13_bitCount_95d88_54 rfl (by decide) rfl ?_
  refine V_lload_n 0 rfl dJ13_bitCount_95d88_55 rfl ?_
  refine V_l2i dJ13_bitCount_95d88_56 ?_
  refine V_bipush 127 dJ13_bitCount_95d88_57 (by decide) ?_
  refine V_iand dJ13_bitCount_95d88_59 ?_
  cases hf
  exact V_iret rfl dJ13_bitCount_95d88_60 ⟨rfl, rfl⟩
theorem k_J13_bitCount_95d88 {l : Launch} {G : Gv} {d : Nat} {w0 : va_W} {q : Int32} {x0 : Int64} (hd : 0 ≤ d) (hf : f_J13_bitCount_95d88 x0 = some q) : K l G yJ13_bitCount_95d88 cJ13_bitCount_95d88 2 (some .int) d 0 0 [.long x0] w0 (pD (some (.int q)) w0) := K_intro (by decide) (Nat.le_of_ble_eq_true rfl) (v_J13_bitCount_95d88 hd hf)
def f_X9_isLetter (x0 : Int32) : Option Bool := if x0 < 0 then (some false) else (if (8) ≤ x0 then (some false) else (some true))
set_option maxHeartbeats 4000000 in
set_option maxRecDepth 100000 in
theorem v_X9_isLetter {l : Launch} {G : Gv} {d : Nat} {av0 : List Value} {w1 : va_W} {w0 : va_W} {q : Bool} {x0 : Int32} (hd : 0 ≤ d) (hf : f_X9_isLetter x0 = some q) : VV l G yX9_isLetter cX9_isLetter 1 (some .boolean) d 0 0 av0 w1 (pD (some (.int (b2i q))) w0) 0 0 w0 0 [(0, .int x0)] [] := by
  unfold f_X9_isLetter at hf
  refine V_iload_n 0 rfl dX9_isLetter_0 rfl ?_
  refine V_if_lt 14 dX9_isLetter_1 (by decide) (fun c1 => ?_) (fun c1 => ?_)
  · replace hf := (if_pos c1).symm.trans hf
    refine V_iconst 0 dX9_isLetter_14 (by decide) ?_
    cases hf
    exact V_zret (ty := .boolean) rfl rfl dX9_isLetter_15 ⟨rfl, rfl⟩
  · replace hf := (if_neg c1).symm.trans hf
    refine V_iload_n 0 rfl dX9_isLetter_4 rfl ?_
    refine V_bipush 8 dX9_isLetter_5 (by decide) ?_
    refine V_icmp_ge 14 dX9_isLetter_7 (by decide) (fun c2 => ?_) (fun c2 => ?_)
    · replace hf := (if_pos c2).symm.trans hf
      refine V_iconst 0 dX9_isLetter_14 (by decide) ?_
      cases hf
      exact V_zret (ty := .boolean) rfl rfl dX9_isLetter_15 ⟨rfl, rfl⟩
    · replace hf := (if_neg c2).symm.trans hf
      refine V_iconst 1 dX9_isLetter_10 (by decide) ?_
      refine V_goto 15 dX9_isLetter_11 (by decide) ?_
      cases hf
      exact V_zret (ty := .boolean) rfl rfl dX9_isLetter_15 ⟨rfl, rfl⟩
theorem k_X9_isLetter {l : Launch} {G : Gv} {d : Nat} {w0 : va_W} {q : Bool} {x0 : Int32} (hd : 0 ≤ d) (hf : f_X9_isLetter x0 = some q) : K l G yX9_isLetter cX9_isLetter 1 (some .boolean) d 0 0 [.int x0] w0 (pD (some (.int (b2i q))) w0) := K_intro (by decide) (Nat.le_of_ble_eq_true rfl) (v_X9_isLetter hd hf)
def f_X7_value (σ : St) (x1 : Int32) : Option Int32 := bno (f_X9_isLetter x1) fun r1 => if (b2i r1) = 0 then (some (0)) else (ixo x1 8 (some (ga σ 3 (Int32.toNatClampNeg x1))))
set_option maxHeartbeats 4000000 in
set_option maxRecDepth 100000 in
theorem v_X7_value {l : Launch} {G : Gv} {ad : Nat → Nat} {d : Nat} {av0 : List Value} {w1 : va_W} {q : Int32} {σ : St} {x1 : Int32} (hd : 1 ≤ d) (hf : f_X7_value σ x1 = some q) : VV l G yX7_value cX7_value 2 (some .int) d 0 0 av0 w1 (pD (some (.int q)) (wC G ad σ)) 0 0 (wC G ad σ) 0 [(0, .ref (ad 1)), (1, .int x1)] [] := by
  unfold f_X7_value at hf
  refine V_iload_n 1 rfl dX7_value_0 rfl ?_
  obtain ⟨r1, hr1, hf⟩ := bno_some hf
  refine V_cSN (As := [.int x1]) (rest := []) (k_X9_isLetter (d := 0) (Nat.le_refl _) hr1) LB_X9_isLetter lk_X7_38 (by omega) dX7_value_1 rfl rfl (Nat.le_of_ble_eq_true rfl) (Nat.le_refl _) (Nat.le_refl _) [.int (b2i r1)] rfl ?_
  refine V_if_eq 16 dX7_value_4 (by decide) (fun c1 => ?_) (fun c1 => ?_)
  · replace hf := (if_pos c1).symm.trans hf
    refine V_iconst 0 dX7_value_16 (by decide) ?_
    cases hf
    exact V_iret rfl dX7_value_17 ⟨rfl, rfl⟩
  · replace hf := (if_neg c1).symm.trans hf
    refine V_aload_n 0 rfl dX7_value_7 rfl ?_
    refine V_get (k := 2) RC_X7 fl_X7_25 rfl (by decide) dX7_value_8 1 rfl rfl ?_
    refine V_iload_n 1 rfl dX7_value_11 rfl ?_
    obtain ⟨hi, hf⟩ := ixo_some hf
    refine V_iaload dX7_value_12 7 rfl hi ?_
    refine V_goto 17 dX7_value_13 (by decide) ?_
    cases hf
    exact V_iret rfl dX7_value_17 ⟨rfl, rfl⟩
theorem k_X7_value {l : Launch} {G : Gv} {ad : Nat → Nat} {d : Nat} {σ : St} {q : Int32} {x1 : Int32} (hd : 1 ≤ d) (hf : f_X7_value σ x1 = some q) : K l G yX7_value cX7_value 2 (some .int) d 0 0 [.ref (ad 1), .int x1] (wC G ad σ) (pD (some (.int q)) (wC G ad σ)) := K_intro (by decide) (Nat.le_of_ble_eq_true rfl) (v_X7_value hd hf)
def f_X7_leave (σ : St) (x1 : Int32) : Option Int32 := bno (f_X9_isLetter x1) fun r1 => if (b2i r1) = 0 then (some (0)) else (ixo x1 8 (some (ga σ 4 (Int32.toNatClampNeg x1))))
set_option maxHeartbeats 4000000 in
set_option maxRecDepth 100000 in
theorem v_X7_leave {l : Launch} {G : Gv} {ad : Nat → Nat} {d : Nat} {av0 : List Value} {w1 : va_W} {q : Int32} {σ : St} {x1 : Int32} (hd : 1 ≤ d) (hf : f_X7_leave σ x1 = some q) : VV l G yX7_leave cX7_leave 2 (some .int) d 0 0 av0 w1 (pD (some (.int q)) (wC G ad σ)) 0 0 (wC G ad σ) 0 [(0, .ref (ad 1)), (1, .int x1)] [] := by
  unfold f_X7_leave at hf
  refine V_iload_n 1 rfl dX7_leave_0 rfl ?_
  obtain ⟨r1, hr1, hf⟩ := bno_some hf
  refine V_cSN (As := [.int x1]) (rest := []) (k_X9_isLetter (d := 0) (Nat.le_refl _) hr1) LB_X9_isLetter lk_X7_38 (by omega) dX7_leave_1 rfl rfl (Nat.le_of_ble_eq_true rfl) (Nat.le_refl _) (Nat.le_refl _) [.int (b2i r1)] rfl ?_
  refine V_if_eq 16 dX7_leave_4 (by decide) (fun c1 => ?_) (fun c1 => ?_)
  · replace hf := (if_pos c1).symm.trans hf
    refine V_iconst 0 dX7_leave_16 (by decide) ?_
    cases hf
    exact V_iret rfl dX7_leave_17 ⟨rfl, rfl⟩
  · replace hf := (if_neg c1).symm.trans hf
    refine V_aload_n 0 rfl dX7_leave_7 rfl ?_
    refine V_get (k := 3) RC_X7 fl_X7_29 rfl (by decide) dX7_leave_8 1 rfl rfl ?_
    refine V_iload_n 1 rfl dX7_leave_11 rfl ?_
    obtain ⟨hi, hf⟩ := ixo_some hf
    refine V_iaload dX7_leave_12 8 rfl hi ?_
    refine V_goto 17 dX7_leave_13 (by decide) ?_
    cases hf
    exact V_iret rfl dX7_leave_17 ⟨rfl, rfl⟩
theorem k_X7_leave {l : Launch} {G : Gv} {ad : Nat → Nat} {d : Nat} {σ : St} {q : Int32} {x1 : Int32} (hd : 1 ≤ d) (hf : f_X7_leave σ x1 = some q) : K l G yX7_leave cX7_leave 2 (some .int) d 0 0 [.ref (ad 1), .int x1] (wC G ad σ) (pD (some (.int q)) (wC G ad σ)) := K_intro (by decide) (Nat.le_of_ble_eq_true rfl) (v_X7_leave hd hf)
def f_X7_changeLetter (σ : St) (x1 : Int32) (x2 : Int32) (x3 : Int32) : Option St := bno (f_X9_isLetter x1) fun r1 => if (b2i r1) = 0 then (some σ) else (ixo x1 8 (lt (sa σ 3 (upd (ga σ 3) (Int32.toNatClampNeg x1) x2)) fun σ1 => ixo x1 8 (lt (sa σ1 4 (upd (ga σ1 4) (Int32.toNatClampNeg x1) x3)) fun σ2 => some σ2)))
set_option maxHeartbeats 4000000 in
set_option maxRecDepth 100000 in
theorem v_X7_changeLetter {l : Launch} {G : Gv} {ad : Nat → Nat} {d : Nat} {av0 : List Value} {w1 : va_W} {q : St} {σ : St} {x1 : Int32} {x2 : Int32} {x3 : Int32} (hd : 1 ≤ d) (hf : f_X7_changeLetter σ x1 x2 x3 = some q) : VV l G yX7_changeLetter cX7_changeLetter 4 none d 0 0 av0 w1 (pD none (wC G ad q)) 0 0 (wC G ad σ) 0 [(0, .ref (ad 1)), (1, .int x1), (2, .int x2), (3, .int x3)] [] := by
  unfold f_X7_changeLetter at hf
  refine V_iload_n 1 rfl dX7_changeLetter_0 rfl ?_
  obtain ⟨r1, hr1, hf⟩ := bno_some hf
  refine V_cSN (As := [.int x1]) (rest := []) (k_X9_isLetter (d := 0) (Nat.le_refl _) hr1) LB_X9_isLetter lk_X7_38 (by omega) dX7_changeLetter_1 rfl rfl (Nat.le_of_ble_eq_true rfl) (Nat.le_refl _) (Nat.le_refl _) [.int (b2i r1)] rfl ?_
  refine V_if_eq 21 dX7_changeLetter_4 (by decide) (fun c1 => ?_) (fun c1 => ?_)
  · replace hf := (if_pos c1).symm.trans hf
    cases hf
    exact V_vret rfl dX7_changeLetter_21 ⟨rfl, rfl⟩
  · replace hf := (if_neg c1).symm.trans hf
    refine V_aload_n 0 rfl dX7_changeLetter_7 rfl ?_
    refine V_get (k := 2) RC_X7 fl_X7_25 rfl (by decide) dX7_changeLetter_8 1 rfl rfl ?_
    refine V_iload_n 1 rfl dX7_changeLetter_11 rfl ?_
    refine V_iload_n 2 rfl dX7_changeLetter_12 rfl ?_
    obtain ⟨hi, hf⟩ := ixo_some hf
    obtain ⟨σ1, eσ1, hf⟩ := lt_some hf
    refine V_iastore dX7_changeLetter_13 7 rfl hi (wC G ad σ1) (by rw [eσ1]; rfl) ?_
    refine V_aload_n 0 rfl dX7_changeLetter_14 rfl ?_
    refine V_get (k := 3) RC_X7 fl_X7_29 rfl (by decide) dX7_changeLetter_15 1 rfl rfl ?_
    refine V_iload_n 1 rfl dX7_changeLetter_18 rfl ?_
    refine V_iload_n 3 rfl dX7_changeLetter_19 rfl ?_
    obtain ⟨hi, hf⟩ := ixo_some hf
    obtain ⟨σ2, eσ2, hf⟩ := lt_some hf
    refine V_iastore dX7_changeLetter_20 8 rfl hi (wC G ad σ2) (by rw [eσ2]; rfl) ?_
    cases hf
    exact V_vret rfl dX7_changeLetter_21 ⟨rfl, rfl⟩
theorem k_X7_changeLetter {l : Launch} {G : Gv} {ad : Nat → Nat} {d : Nat} {σ : St} {q : St} {x1 : Int32} {x2 : Int32} {x3 : Int32} (hd : 1 ≤ d) (hf : f_X7_changeLetter σ x1 x2 x3 = some q) : K l G yX7_changeLetter cX7_changeLetter 4 none d 0 0 [.ref (ad 1), .int x1, .int x2, .int x3] (wC G ad σ) (pD none (wC G ad q)) := K_intro (by decide) (Nat.le_of_ble_eq_true rfl) (v_X7_changeLetter hd hf)
def f_X9_isPlayer (x0 : Int32) : Option Bool := if x0 < 0 then (some false) else (if (2) ≤ x0 then (some false) else (some true))
set_option maxHeartbeats 4000000 in
set_option maxRecDepth 100000 in
theorem v_X9_isPlayer {l : Launch} {G : Gv} {d : Nat} {av0 : List Value} {w1 : va_W} {w0 : va_W} {q : Bool} {x0 : Int32} (hd : 0 ≤ d) (hf : f_X9_isPlayer x0 = some q) : VV l G yX9_isPlayer cX9_isPlayer 1 (some .boolean) d 0 0 av0 w1 (pD (some (.int (b2i q))) w0) 0 0 w0 0 [(0, .int x0)] [] := by
  unfold f_X9_isPlayer at hf
  refine V_iload_n 0 rfl dX9_isPlayer_0 rfl ?_
  refine V_if_lt 13 dX9_isPlayer_1 (by decide) (fun c1 => ?_) (fun c1 => ?_)
  · replace hf := (if_pos c1).symm.trans hf
    refine V_iconst 0 dX9_isPlayer_13 (by decide) ?_
    cases hf
    exact V_zret (ty := .boolean) rfl rfl dX9_isPlayer_14 ⟨rfl, rfl⟩
  · replace hf := (if_neg c1).symm.trans hf
    refine V_iload_n 0 rfl dX9_isPlayer_4 rfl ?_
    refine V_iconst 2 dX9_isPlayer_5 (by decide) ?_
    refine V_icmp_ge 13 dX9_isPlayer_6 (by decide) (fun c2 => ?_) (fun c2 => ?_)
    · replace hf := (if_pos c2).symm.trans hf
      refine V_iconst 0 dX9_isPlayer_13 (by decide) ?_
      cases hf
      exact V_zret (ty := .boolean) rfl rfl dX9_isPlayer_14 ⟨rfl, rfl⟩
    · replace hf := (if_neg c2).symm.trans hf
      refine V_iconst 1 dX9_isPlayer_9 (by decide) ?_
      refine V_goto 14 dX9_isPlayer_10 (by decide) ?_
      cases hf
      exact V_zret (ty := .boolean) rfl rfl dX9_isPlayer_14 ⟨rfl, rfl⟩
theorem k_X9_isPlayer {l : Launch} {G : Gv} {d : Nat} {w0 : va_W} {q : Bool} {x0 : Int32} (hd : 0 ≤ d) (hf : f_X9_isPlayer x0 = some q) : K l G yX9_isPlayer cX9_isPlayer 1 (some .boolean) d 0 0 [.int x0] w0 (pD (some (.int (b2i q))) w0) := K_intro (by decide) (Nat.le_of_ble_eq_true rfl) (v_X9_isPlayer hd hf)
def f_X7_rack (σ : St) (x1 : Int32) : Option Int32 := bno (f_X9_isPlayer x1) fun r1 => if (b2i r1) = 0 then (some (0)) else (ixo x1 2 (some (ga σ 5 (Int32.toNatClampNeg x1))))
set_option maxHeartbeats 4000000 in
set_option maxRecDepth 100000 in
theorem v_X7_rack {l : Launch} {G : Gv} {ad : Nat → Nat} {d : Nat} {av0 : List Value} {w1 : va_W} {q : Int32} {σ : St} {x1 : Int32} (hd : 1 ≤ d) (hf : f_X7_rack σ x1 = some q) : VV l G yX7_rack cX7_rack 2 (some .int) d 0 0 av0 w1 (pD (some (.int q)) (wC G ad σ)) 0 0 (wC G ad σ) 0 [(0, .ref (ad 1)), (1, .int x1)] [] := by
  unfold f_X7_rack at hf
  refine V_iload_n 1 rfl dX7_rack_0 rfl ?_
  obtain ⟨r1, hr1, hf⟩ := bno_some hf
  refine V_cSN (As := [.int x1]) (rest := []) (k_X9_isPlayer (d := 0) (Nat.le_refl _) hr1) LB_X9_isPlayer lk_X7_42 (by omega) dX7_rack_1 rfl rfl (Nat.le_of_ble_eq_true rfl) (Nat.le_refl _) (Nat.le_refl _) [.int (b2i r1)] rfl ?_
  refine V_if_eq 16 dX7_rack_4 (by decide) (fun c1 => ?_) (fun c1 => ?_)
  · replace hf := (if_pos c1).symm.trans hf
    refine V_iconst 0 dX7_rack_16 (by decide) ?_
    cases hf
    exact V_iret rfl dX7_rack_17 ⟨rfl, rfl⟩
  · replace hf := (if_neg c1).symm.trans hf
    refine V_aload_n 0 rfl dX7_rack_7 rfl ?_
    refine V_get (k := 4) RC_X7 fl_X7_32 rfl (by decide) dX7_rack_8 1 rfl rfl ?_
    refine V_iload_n 1 rfl dX7_rack_11 rfl ?_
    obtain ⟨hi, hf⟩ := ixo_some hf
    refine V_iaload dX7_rack_12 9 rfl hi ?_
    refine V_goto 17 dX7_rack_13 (by decide) ?_
    cases hf
    exact V_iret rfl dX7_rack_17 ⟨rfl, rfl⟩
theorem k_X7_rack {l : Launch} {G : Gv} {ad : Nat → Nat} {d : Nat} {σ : St} {q : Int32} {x1 : Int32} (hd : 1 ≤ d) (hf : f_X7_rack σ x1 = some q) : K l G yX7_rack cX7_rack 2 (some .int) d 0 0 [.ref (ad 1), .int x1] (wC G ad σ) (pD (some (.int q)) (wC G ad σ)) := K_intro (by decide) (Nat.le_of_ble_eq_true rfl) (v_X7_rack hd hf)
def f_X7_changeRack (σ : St) (x1 : Int32) (x2 : Int32) : Option St := bno (f_X9_isPlayer x1) fun r1 => if (b2i r1) = 0 then (some σ) else (ixo x1 2 (lt (sa σ 5 (upd (ga σ 5) (Int32.toNatClampNeg x1) x2)) fun σ1 => some σ1))
set_option maxHeartbeats 4000000 in
set_option maxRecDepth 100000 in
theorem v_X7_changeRack {l : Launch} {G : Gv} {ad : Nat → Nat} {d : Nat} {av0 : List Value} {w1 : va_W} {q : St} {σ : St} {x1 : Int32} {x2 : Int32} (hd : 1 ≤ d) (hf : f_X7_changeRack σ x1 x2 = some q) : VV l G yX7_changeRack cX7_changeRack 3 none d 0 0 av0 w1 (pD none (wC G ad q)) 0 0 (wC G ad σ) 0 [(0, .ref (ad 1)), (1, .int x1), (2, .int x2)] [] := by
  unfold f_X7_changeRack at hf
  refine V_iload_n 1 rfl dX7_changeRack_0 rfl ?_
  obtain ⟨r1, hr1, hf⟩ := bno_some hf
  refine V_cSN (As := [.int x1]) (rest := []) (k_X9_isPlayer (d := 0) (Nat.le_refl _) hr1) LB_X9_isPlayer lk_X7_42 (by omega) dX7_changeRack_1 rfl rfl (Nat.le_of_ble_eq_true rfl) (Nat.le_refl _) (Nat.le_refl _) [.int (b2i r1)] rfl ?_
  refine V_if_eq 14 dX7_changeRack_4 (by decide) (fun c1 => ?_) (fun c1 => ?_)
  · replace hf := (if_pos c1).symm.trans hf
    cases hf
    exact V_vret rfl dX7_changeRack_14 ⟨rfl, rfl⟩
  · replace hf := (if_neg c1).symm.trans hf
    refine V_aload_n 0 rfl dX7_changeRack_7 rfl ?_
    refine V_get (k := 4) RC_X7 fl_X7_32 rfl (by decide) dX7_changeRack_8 1 rfl rfl ?_
    refine V_iload_n 1 rfl dX7_changeRack_11 rfl ?_
    refine V_iload_n 2 rfl dX7_changeRack_12 rfl ?_
    obtain ⟨hi, hf⟩ := ixo_some hf
    obtain ⟨σ1, eσ1, hf⟩ := lt_some hf
    refine V_iastore dX7_changeRack_13 9 rfl hi (wC G ad σ1) (by rw [eσ1]; rfl) ?_
    cases hf
    exact V_vret rfl dX7_changeRack_14 ⟨rfl, rfl⟩
theorem k_X7_changeRack {l : Launch} {G : Gv} {ad : Nat → Nat} {d : Nat} {σ : St} {q : St} {x1 : Int32} {x2 : Int32} (hd : 1 ≤ d) (hf : f_X7_changeRack σ x1 x2 = some q) : K l G yX7_changeRack cX7_changeRack 3 none d 0 0 [.ref (ad 1), .int x1, .int x2] (wC G ad σ) (pD none (wC G ad q)) := K_intro (by decide) (Nat.le_of_ble_eq_true rfl) (v_X7_changeRack hd hf)
def f_X7_points (σ : St) (x1 : Int32) : Option Int32 := bno (f_X9_isPlayer x1) fun r1 => if (b2i r1) = 0 then (some (0)) else (ixo x1 2 (some (ga σ 6 (Int32.toNatClampNeg x1))))
set_option maxHeartbeats 4000000 in
set_option maxRecDepth 100000 in
theorem v_X7_points {l : Launch} {G : Gv} {ad : Nat → Nat} {d : Nat} {av0 : List Value} {w1 : va_W} {q : Int32} {σ : St} {x1 : Int32} (hd : 1 ≤ d) (hf : f_X7_points σ x1 = some q) : VV l G yX7_points cX7_points 2 (some .int) d 0 0 av0 w1 (pD (some (.int q)) (wC G ad σ)) 0 0 (wC G ad σ) 0 [(0, .ref (ad 1)), (1, .int x1)] [] := by
  unfold f_X7_points at hf
  refine V_iload_n 1 rfl dX7_points_0 rfl ?_
  obtain ⟨r1, hr1, hf⟩ := bno_some hf
  refine V_cSN (As := [.int x1]) (rest := []) (k_X9_isPlayer (d := 0) (Nat.le_refl _) hr1) LB_X9_isPlayer lk_X7_42 (by omega) dX7_points_1 rfl rfl (Nat.le_of_ble_eq_true rfl) (Nat.le_refl _) (Nat.le_refl _) [.int (b2i r1)] rfl ?_
  refine V_if_eq 16 dX7_points_4 (by decide) (fun c1 => ?_) (fun c1 => ?_)
  · replace hf := (if_pos c1).symm.trans hf
    refine V_iconst 0 dX7_points_16 (by decide) ?_
    cases hf
    exact V_iret rfl dX7_points_17 ⟨rfl, rfl⟩
  · replace hf := (if_neg c1).symm.trans hf
    refine V_aload_n 0 rfl dX7_points_7 rfl ?_
    refine V_get (k := 5) RC_X7 fl_X7_35 rfl (by decide) dX7_points_8 1 rfl rfl ?_
    refine V_iload_n 1 rfl dX7_points_11 rfl ?_
    obtain ⟨hi, hf⟩ := ixo_some hf
    refine V_iaload dX7_points_12 10 rfl hi ?_
    refine V_goto 17 dX7_points_13 (by decide) ?_
    cases hf
    exact V_iret rfl dX7_points_17 ⟨rfl, rfl⟩
theorem k_X7_points {l : Launch} {G : Gv} {ad : Nat → Nat} {d : Nat} {σ : St} {q : Int32} {x1 : Int32} (hd : 1 ≤ d) (hf : f_X7_points σ x1 = some q) : K l G yX7_points cX7_points 2 (some .int) d 0 0 [.ref (ad 1), .int x1] (wC G ad σ) (pD (some (.int q)) (wC G ad σ)) := K_intro (by decide) (Nat.le_of_ble_eq_true rfl) (v_X7_points hd hf)
def f_X7_addPoints (σ : St) (x1 : Int32) (x2 : Int32) : Option St := bno (f_X9_isPlayer x1) fun r1 => if (b2i r1) = 0 then (some σ) else (ixo x1 2 (ixo x1 2 (lt (sa σ 6 (upd (ga σ 6) (Int32.toNatClampNeg x1) ((ga σ 6 (Int32.toNatClampNeg x1)) + x2))) fun σ1 => some σ1)))
set_option maxHeartbeats 4000000 in
set_option maxRecDepth 100000 in
theorem v_X7_addPoints {l : Launch} {G : Gv} {ad : Nat → Nat} {d : Nat} {av0 : List Value} {w1 : va_W} {q : St} {σ : St} {x1 : Int32} {x2 : Int32} (hd : 1 ≤ d) (hf : f_X7_addPoints σ x1 x2 = some q) : VV l G yX7_addPoints cX7_addPoints 3 none d 0 0 av0 w1 (pD none (wC G ad q)) 0 0 (wC G ad σ) 0 [(0, .ref (ad 1)), (1, .int x1), (2, .int x2)] [] := by
  unfold f_X7_addPoints at hf
  refine V_iload_n 1 rfl dX7_addPoints_0 rfl ?_
  obtain ⟨r1, hr1, hf⟩ := bno_some hf
  refine V_cSN (As := [.int x1]) (rest := []) (k_X9_isPlayer (d := 0) (Nat.le_refl _) hr1) LB_X9_isPlayer lk_X7_42 (by omega) dX7_addPoints_1 rfl rfl (Nat.le_of_ble_eq_true rfl) (Nat.le_refl _) (Nat.le_refl _) [.int (b2i r1)] rfl ?_
  refine V_if_eq 17 dX7_addPoints_4 (by decide) (fun c1 => ?_) (fun c1 => ?_)
  · replace hf := (if_pos c1).symm.trans hf
    cases hf
    exact V_vret rfl dX7_addPoints_17 ⟨rfl, rfl⟩
  · replace hf := (if_neg c1).symm.trans hf
    refine V_aload_n 0 rfl dX7_addPoints_7 rfl ?_
    refine V_get (k := 5) RC_X7 fl_X7_35 rfl (by decide) dX7_addPoints_8 1 rfl rfl ?_
    refine V_iload_n 1 rfl dX7_addPoints_11 rfl ?_
    refine V_dup2 rfl rfl dX7_addPoints_12 ?_
    obtain ⟨hi, hf⟩ := ixo_some hf
    refine V_iaload dX7_addPoints_13 10 rfl hi ?_
    refine V_iload_n 2 rfl dX7_addPoints_14 rfl ?_
    refine V_iadd dX7_addPoints_15 ?_
    obtain ⟨hi, hf⟩ := ixo_some hf
    obtain ⟨σ1, eσ1, hf⟩ := lt_some hf
    refine V_iastore dX7_addPoints_16 10 rfl hi (wC G ad σ1) (by rw [eσ1]; rfl) ?_
    cases hf
    exact V_vret rfl dX7_addPoints_17 ⟨rfl, rfl⟩
theorem k_X7_addPoints {l : Launch} {G : Gv} {ad : Nat → Nat} {d : Nat} {σ : St} {q : St} {x1 : Int32} {x2 : Int32} (hd : 1 ≤ d) (hf : f_X7_addPoints σ x1 x2 = some q) : K l G yX7_addPoints cX7_addPoints 3 none d 0 0 [.ref (ad 1), .int x1, .int x2] (wC G ad σ) (pD none (wC G ad q)) := K_intro (by decide) (Nat.le_of_ble_eq_true rfl) (v_X7_addPoints hd hf)
def f_X7_valueOfRack_11 (σ : St) : Nat → Int32 → Int32 → Int32 → Option Int32
  | 0, _, _, _ => none
  | n + 1, x2, x3, x4 => if (8) ≤ x4 then (some x3) else (bno (f_X4_count x2 x4) fun r1 => ixo x4 8 (lt (x3 + (r1 * (ga σ 3 (Int32.toNatClampNeg x4)))) fun t1 => f_X7_valueOfRack_11 σ n x2 t1 (x4 + 1)))
set_option maxHeartbeats 4000000 in
set_option maxRecDepth 100000 in
theorem v_X7_valueOfRack_11 {l : Launch} {G : Gv} {ad : Nat → Nat} {d : Nat} {av0 : List Value} {w1 : va_W} {q : Int32} {σ : St} (hd : 2 ≤ d) : ∀ (n : Nat) (x2 : Int32) (x3 : Int32) (x4 : Int32), f_X7_valueOfRack_11 σ n x2 x3 x4 = some q → VV l G yX7_valueOfRack cX7_valueOfRack 5 (some .int) d 0 0 av0 w1 (pD (some (.int q)) (wC G ad σ)) 0 0 (wC G ad σ) 11 [(0, .ref (ad 1)), (2, .int x2), (3, .int x3), (4, .int x4)] [] := by
  intro n
  induction n with
  | zero =>
    intro x2 x3 x4 hf
    cases hf
  | succ n ih =>
    intro x2 x3 x4 hf
    rw [f_X7_valueOfRack_11] at hf
    refine V_iload 3 rfl dX7_valueOfRack_11 ?_
    refine V_bipush 8 dX7_valueOfRack_13 (by decide) ?_
    refine V_icmp_ge 41 dX7_valueOfRack_15 (by decide) (fun c1 => ?_) (fun c1 => ?_)
    · replace hf := (if_pos c1).symm.trans hf
      refine V_iload_n 2 rfl dX7_valueOfRack_41 rfl ?_
      cases hf
      exact V_iret rfl dX7_valueOfRack_42 ⟨rfl, rfl⟩
    · replace hf := (if_neg c1).symm.trans hf
      refine V_iload_n 2 rfl dX7_valueOfRack_18 rfl ?_
      refine V_iload_n 1 rfl dX7_valueOfRack_19 rfl ?_
      refine V_iload 3 rfl dX7_valueOfRack_20 ?_
      obtain ⟨r1, hr1, hf⟩ := bno_some hf
      refine V_cS (As := [.int x2, .int x4]) (rest := [.int x3]) (k_X4_count (d := 0) (Nat.le_refl _) hr1) LB_X4_count lk_X7_51 (by omega) dX7_valueOfRack_22 rfl rfl (Nat.le_of_ble_eq_true rfl) (Nat.le_refl _) (Nat.le_refl _) [.int r1, .int x3] rfl ?_
      refine V_aload_n 0 rfl dX7_valueOfRack_25 rfl ?_
      refine V_get (k := 2) RC_X7 fl_X7_25 rfl (by decide) dX7_valueOfRack_26 1 rfl rfl ?_
      refine V_iload 3 rfl dX7_valueOfRack_29 ?_
      obtain ⟨hi, hf⟩ := ixo_some hf
      refine V_iaload dX7_valueOfRack_31 7 rfl hi ?_
      refine V_imul dX7_valueOfRack_32 ?_
      refine V_iadd dX7_valueOfRack_33 ?_
      obtain ⟨t1, et1, hf⟩ := lt_some hf
      refine V_topi et1 ?_
      refine V_istore_n [(0, .ref (ad 1)), (2, .int x2), (3, .int t1), (4, .int x4)] [1, 2, 0, 3] dX7_valueOfRack_34 rfl (by decide) rfl ?_
      refine V_iinc (1) 3 [(0, .ref (ad 1)), (2, .int x2), (3, .int t1), (4, .int (x4 + 1))] [1, 2, 3, 0] dX7_valueOfRack_35 rfl (by decide) (by decide) rfl ?_
      refine V_goto 11 dX7_valueOfRack_38 (by decide) ?_
      exact ih _ _ _ hf
def f_X7_valueOfRack (σ : St) (x1 : Int32) : Option Int32 := bno (f_X7_rack σ x1) fun r1 => f_X7_valueOfRack_11 σ FU r1 (0) (0)
set_option maxHeartbeats 4000000 in
set_option maxRecDepth 100000 in
theorem v_X7_valueOfRack {l : Launch} {G : Gv} {ad : Nat → Nat} {d : Nat} {av0 : List Value} {w1 : va_W} {q : Int32} {σ : St} {x1 : Int32} (hd : 2 ≤ d) (hf : f_X7_valueOfRack σ x1 = some q) : VV l G yX7_valueOfRack cX7_valueOfRack 5 (some .int) d 0 0 av0 w1 (pD (some (.int q)) (wC G ad σ)) 0 0 (wC G ad σ) 0 [(0, .ref (ad 1)), (1, .int x1)] [] := by
  unfold f_X7_valueOfRack at hf
  refine V_aload_n 0 rfl dX7_valueOfRack_0 rfl ?_
  refine V_iload_n 1 rfl dX7_valueOfRack_1 rfl ?_
  obtain ⟨r1, hr1, hf⟩ := bno_some hf
  refine V_cV (As := [.int x1]) (rest := []) (k_X7_rack (d := 1) (Nat.le_refl _) hr1) LB_X7_rack lk_X7_47 (by omega) dX7_valueOfRack_2 rfl rfl (Nat.le_of_ble_eq_true rfl) (Nat.le_refl _) (Nat.le_refl _) 1 rfl ⟨rfl, rfl⟩ [.int r1] rfl ?_
  refine V_istore_n [(0, .ref (ad 1)), (1, .int x1), (2, .int r1)] [1, 2, 0] dX7_valueOfRack_5 rfl (by decide) rfl ?_
  refine V_iconst 0 dX7_valueOfRack_6 (by decide) ?_
  refine V_istore_n [(0, .ref (ad 1)), (1, .int x1), (2, .int r1), (3, .int (0))] [1, 2, 3, 0] dX7_valueOfRack_7 rfl (by decide) rfl ?_
  refine V_iconst 0 dX7_valueOfRack_8 (by decide) ?_
  refine V_istore [(0, .ref (ad 1)), (1, .int x1), (2, .int r1), (3, .int (0)), (4, .int (0))] [1, 2, 3, 4, 0] dX7_valueOfRack_9 (by decide) rfl ?_
  refine V_lv [(0, .ref (ad 1)), (2, .int r1), (3, .int (0)), (4, .int (0))] [0, 2, 3, 4] rfl ?_
  exact v_X7_valueOfRack_11 hd _ _ _ _ hf
theorem k_X7_valueOfRack {l : Launch} {G : Gv} {ad : Nat → Nat} {d : Nat} {σ : St} {q : Int32} {x1 : Int32} (hd : 2 ≤ d) (hf : f_X7_valueOfRack σ x1 = some q) : K l G yX7_valueOfRack cX7_valueOfRack 5 (some .int) d 0 0 [.ref (ad 1), .int x1] (wC G ad σ) (pD (some (.int q)) (wC G ad σ)) := K_intro (by decide) (Nat.le_of_ble_eq_true rfl) (v_X7_valueOfRack hd hf)
def f_X7_leaveOf_4 (σ : St) : Nat → Int32 → Int32 → Int32 → Option Int32
  | 0, _, _, _ => none
  | n + 1, x1, x2, x3 => if (8) ≤ x3 then (some x2) else (bno (f_X4_count x1 x3) fun r1 => ixo x3 8 (lt (x2 + (r1 * (ga σ 4 (Int32.toNatClampNeg x3)))) fun t1 => f_X7_leaveOf_4 σ n x1 t1 (x3 + 1)))
set_option maxHeartbeats 4000000 in
set_option maxRecDepth 100000 in
theorem v_X7_leaveOf_4 {l : Launch} {G : Gv} {ad : Nat → Nat} {d : Nat} {av0 : List Value} {w1 : va_W} {q : Int32} {σ : St} (hd : 1 ≤ d) : ∀ (n : Nat) (x1 : Int32) (x2 : Int32) (x3 : Int32), f_X7_leaveOf_4 σ n x1 x2 x3 = some q → VV l G yX7_leaveOf cX7_leaveOf 4 (some .int) d 0 0 av0 w1 (pD (some (.int q)) (wC G ad σ)) 0 0 (wC G ad σ) 4 [(0, .ref (ad 1)), (1, .int x1), (2, .int x2), (3, .int x3)] [] := by
  intro n
  induction n with
  | zero =>
    intro x1 x2 x3 hf
    cases hf
  | succ n ih =>
    intro x1 x2 x3 hf
    rw [f_X7_leaveOf_4] at hf
    refine V_iload_n 3 rfl dX7_leaveOf_4 rfl ?_
    refine V_bipush 8 dX7_leaveOf_5 (by decide) ?_
    refine V_icmp_ge 31 dX7_leaveOf_7 (by decide) (fun c1 => ?_) (fun c1 => ?_)
    · replace hf := (if_pos c1).symm.trans hf
      refine V_iload_n 2 rfl dX7_leaveOf_31 rfl ?_
      cases hf
      exact V_iret rfl dX7_leaveOf_32 ⟨rfl, rfl⟩
    · replace hf := (if_neg c1).symm.trans hf
      refine V_iload_n 2 rfl dX7_leaveOf_10 rfl ?_
      refine V_iload_n 1 rfl dX7_leaveOf_11 rfl ?_
      refine V_iload_n 3 rfl dX7_leaveOf_12 rfl ?_
      obtain ⟨r1, hr1, hf⟩ := bno_some hf
      refine V_cS (As := [.int x1, .int x3]) (rest := [.int x2]) (k_X4_count (d := 0) (Nat.le_refl _) hr1) LB_X4_count lk_X7_51 (by omega) dX7_leaveOf_13 rfl rfl (Nat.le_of_ble_eq_true rfl) (Nat.le_refl _) (Nat.le_refl _) [.int r1, .int x2] rfl ?_
      refine V_aload_n 0 rfl dX7_leaveOf_16 rfl ?_
      refine V_get (k := 3) RC_X7 fl_X7_29 rfl (by decide) dX7_leaveOf_17 1 rfl rfl ?_
      refine V_iload_n 3 rfl dX7_leaveOf_20 rfl ?_
      obtain ⟨hi, hf⟩ := ixo_some hf
      refine V_iaload dX7_leaveOf_21 8 rfl hi ?_
      refine V_imul dX7_leaveOf_22 ?_
      refine V_iadd dX7_leaveOf_23 ?_
      obtain ⟨t1, et1, hf⟩ := lt_some hf
      refine V_topi et1 ?_
      refine V_istore_n [(0, .ref (ad 1)), (1, .int x1), (2, .int t1), (3, .int x3)] [1, 2, 0, 3] dX7_leaveOf_24 rfl (by decide) rfl ?_
      refine V_iinc (1) 3 [(0, .ref (ad 1)), (1, .int x1), (2, .int t1), (3, .int (x3 + 1))] [1, 2, 3, 0] dX7_leaveOf_25 rfl (by decide) (by decide) rfl ?_
      refine V_goto 4 dX7_leaveOf_28 (by decide) ?_
      exact ih _ _ _ hf
def f_X7_leaveOf (σ : St) (x1 : Int32) : Option Int32 := f_X7_leaveOf_4 σ FU x1 (0) (0)
set_option maxHeartbeats 4000000 in
set_option maxRecDepth 100000 in
theorem v_X7_leaveOf {l : Launch} {G : Gv} {ad : Nat → Nat} {d : Nat} {av0 : List Value} {w1 : va_W} {q : Int32} {σ : St} {x1 : Int32} (hd : 1 ≤ d) (hf : f_X7_leaveOf σ x1 = some q) : VV l G yX7_leaveOf cX7_leaveOf 4 (some .int) d 0 0 av0 w1 (pD (some (.int q)) (wC G ad σ)) 0 0 (wC G ad σ) 0 [(0, .ref (ad 1)), (1, .int x1)] [] := by
  unfold f_X7_leaveOf at hf
  refine V_iconst 0 dX7_leaveOf_0 (by decide) ?_
  refine V_istore_n [(0, .ref (ad 1)), (1, .int x1), (2, .int (0))] [1, 2, 0] dX7_leaveOf_1 rfl (by decide) rfl ?_
  refine V_iconst 0 dX7_leaveOf_2 (by decide) ?_
  refine V_istore_n [(0, .ref (ad 1)), (1, .int x1), (2, .int (0)), (3, .int (0))] [1, 2, 3, 0] dX7_leaveOf_3 rfl (by decide) rfl ?_
  exact v_X7_leaveOf_4 hd _ _ _ _ hf
theorem k_X7_leaveOf {l : Launch} {G : Gv} {ad : Nat → Nat} {d : Nat} {σ : St} {q : Int32} {x1 : Int32} (hd : 1 ≤ d) (hf : f_X7_leaveOf σ x1 = some q) : K l G yX7_leaveOf cX7_leaveOf 4 (some .int) d 0 0 [.ref (ad 1), .int x1] (wC G ad σ) (pD (some (.int q)) (wC G ad σ)) := K_intro (by decide) (Nat.le_of_ble_eq_true rfl) (v_X7_leaveOf hd hf)
def f_X7_valueOfWord_10 (σ : St) : Nat → Int32 → Int32 → Int32 → Int32 → Option Int32
  | 0, _, _, _, _ => none
  | n + 1, x1, x2, x3, x4 => if x3 ≤ x4 then (some x2) else (bno (f_X8_letter x1 x4) fun r1 => bno (f_X7_value σ r1) fun r2 => f_X7_valueOfWord_10 σ n x1 (x2 + r2) x3 (x4 + 1))
set_option maxHeartbeats 4000000 in
set_option maxRecDepth 100000 in
theorem v_X7_valueOfWord_10 {l : Launch} {G : Gv} {ad : Nat → Nat} {d : Nat} {av0 : List Value} {w1 : va_W} {q : Int32} {σ : St} (hd : 2 ≤ d) : ∀ (n : Nat) (x1 : Int32) (x2 : Int32) (x3 : Int32) (x4 : Int32), f_X7_valueOfWord_10 σ n x1 x2 x3 x4 = some q → VV l G yX7_valueOfWord cX7_valueOfWord 5 (some .int) d 0 0 av0 w1 (pD (some (.int q)) (wC G ad σ)) 0 0 (wC G ad σ) 10 [(0, .ref (ad 1)), (1, .int x1), (2, .int x2), (3, .int x3), (4, .int x4)] [] := by
  intro n
  induction n with
  | zero =>
    intro x1 x2 x3 x4 hf
    cases hf
  | succ n ih =>
    intro x1 x2 x3 x4 hf
    rw [f_X7_valueOfWord_10] at hf
    refine V_iload 4 rfl dX7_valueOfWord_10 ?_
    refine V_iload_n 3 rfl dX7_valueOfWord_12 rfl ?_
    refine V_icmp_ge 35 dX7_valueOfWord_13 (by decide) (fun c1 => ?_) (fun c1 => ?_)
    · replace hf := (if_pos c1).symm.trans hf
      refine V_iload_n 2 rfl dX7_valueOfWord_35 rfl ?_
      cases hf
      exact V_iret rfl dX7_valueOfWord_36 ⟨rfl, rfl⟩
    · replace hf := (if_neg c1).symm.trans hf
      refine V_iload_n 2 rfl dX7_valueOfWord_16 rfl ?_
      refine V_aload_n 0 rfl dX7_valueOfWord_17 rfl ?_
      refine V_iload_n 1 rfl dX7_valueOfWord_18 rfl ?_
      refine V_iload 4 rfl dX7_valueOfWord_19 ?_
      obtain ⟨r1, hr1, hf⟩ := bno_some hf
      refine V_cS (As := [.int x1, .int x4]) (rest := [.ref (ad 1), .int x2]) (k_X8_letter (d := 0) (Nat.le_refl _) hr1) LB_X8_letter lk_X7_60 (by omega) dX7_valueOfWord_21 rfl rfl (Nat.le_of_ble_eq_true rfl) (Nat.le_refl _) (Nat.le_refl _) [.int r1, .ref (ad 1), .int x2] rfl ?_
      obtain ⟨r2, hr2, hf⟩ := bno_some hf
      refine V_cV (As := [.int r1]) (rest := [.int x2]) (k_X7_value (d := 1) (Nat.le_refl _) hr2) LB_X7_value lk_X7_63 (by omega) dX7_valueOfWord_24 rfl rfl (Nat.le_of_ble_eq_true rfl) (Nat.le_refl _) (Nat.le_refl _) 1 rfl ⟨rfl, rfl⟩ [.int r2, .int x2] rfl ?_
      refine V_iadd dX7_valueOfWord_27 ?_
      refine V_istore_n [(0, .ref (ad 1)), (1, .int x1), (2, .int (x2 + r2)), (3, .int x3), (4, .int x4)] [1, 2, 0, 3, 4] dX7_valueOfWord_28 rfl (by decide) rfl ?_
      refine V_iinc (1) 4 [(0, .ref (ad 1)), (1, .int x1), (2, .int (x2 + r2)), (3, .int x3), (4, .int (x4 + 1))] [1, 2, 3, 4, 0] dX7_valueOfWord_29 rfl (by decide) (by decide) rfl ?_
      refine V_goto 10 dX7_valueOfWord_32 (by decide) ?_
      exact ih _ _ _ _ hf
def f_X7_valueOfWord (σ : St) (x1 : Int32) : Option Int32 := bno (f_X8_length x1) fun r1 => f_X7_valueOfWord_10 σ FU x1 (0) r1 (0)
set_option maxHeartbeats 4000000 in
set_option maxRecDepth 100000 in
theorem v_X7_valueOfWord {l : Launch} {G : Gv} {ad : Nat → Nat} {d : Nat} {av0 : List Value} {w1 : va_W} {q : Int32} {σ : St} {x1 : Int32} (hd : 2 ≤ d) (hf : f_X7_valueOfWord σ x1 = some q) : VV l G yX7_valueOfWord cX7_valueOfWord 5 (some .int) d 0 0 av0 w1 (pD (some (.int q)) (wC G ad σ)) 0 0 (wC G ad σ) 0 [(0, .ref (ad 1)), (1, .int x1)] [] := by
  unfold f_X7_valueOfWord at hf
  refine V_iconst 0 dX7_valueOfWord_0 (by decide) ?_
  refine V_istore_n [(0, .ref (ad 1)), (1, .int x1), (2, .int (0))] [1, 2, 0] dX7_valueOfWord_1 rfl (by decide) rfl ?_
  refine V_iload_n 1 rfl dX7_valueOfWord_2 rfl ?_
  obtain ⟨r1, hr1, hf⟩ := bno_some hf
  refine V_cS (As := [.int x1]) (rest := []) (k_X8_length (d := 0) (Nat.le_refl _) hr1) LB_X8_length lk_X7_55 (by omega) dX7_valueOfWord_3 rfl rfl (Nat.le_of_ble_eq_true rfl) (Nat.le_refl _) (Nat.le_refl _) [.int r1] rfl ?_
  refine V_istore_n [(0, .ref (ad 1)), (1, .int x1), (2, .int (0)), (3, .int r1)] [1, 2, 3, 0] dX7_valueOfWord_6 rfl (by decide) rfl ?_
  refine V_iconst 0 dX7_valueOfWord_7 (by decide) ?_
  refine V_istore [(0, .ref (ad 1)), (1, .int x1), (2, .int (0)), (3, .int r1), (4, .int (0))] [1, 2, 3, 4, 0] dX7_valueOfWord_8 (by decide) rfl ?_
  exact v_X7_valueOfWord_10 hd _ _ _ _ _ hf
theorem k_X7_valueOfWord {l : Launch} {G : Gv} {ad : Nat → Nat} {d : Nat} {σ : St} {q : Int32} {x1 : Int32} (hd : 2 ≤ d) (hf : f_X7_valueOfWord σ x1 = some q) : K l G yX7_valueOfWord cX7_valueOfWord 5 (some .int) d 0 0 [.ref (ad 1), .int x1] (wC G ad σ) (pD (some (.int q)) (wC G ad σ)) := K_intro (by decide) (Nat.le_of_ble_eq_true rfl) (v_X7_valueOfWord hd hf)
def f_X9_hashWord_18 : Nat → Int32 → Int32 → Int64 → Int32 → Option Int64
  | 0, _, _, _, _ => none
  | n + 1, x2, x3, x4, x6 => if x3 ≤ x6 then (some x4) else (bno (f_X8_letter x2 x6) fun r1 => f_X9_hashWord_18 n x2 x3 (((31) * x4) + (Int32.toInt64 r1)) (x6 + 1))
set_option maxHeartbeats 4000000 in
set_option maxRecDepth 100000 in
theorem v_X9_hashWord_18 {l : Launch} {G : Gv} {d : Nat} {av0 : List Value} {w1 : va_W} {w0 : va_W} {q : Int64} (hd : 1 ≤ d) : ∀ (n : Nat) (x2 : Int32) (x3 : Int32) (x4 : Int64) (x6 : Int32), f_X9_hashWord_18 n x2 x3 x4 x6 = some q → VV l G yX9_hashWord cX9_hashWord 7 (some .long) d 0 0 av0 w1 (pD (some (.long q)) w0) 0 0 w0 18 [(2, .int x2), (3, .int x3), (4, .long x4), (6, .int x6)] [] := by
  intro n
  induction n with
  | zero =>
    intro x2 x3 x4 x6 hf
    cases hf
  | succ n ih =>
    intro x2 x3 x4 x6 hf
    rw [f_X9_hashWord_18] at hf
    refine V_iload 3 rfl dX9_hashWord_18 ?_
    refine V_iload_n 1 rfl dX9_hashWord_20 rfl ?_
    refine V_icmp_ge 46 dX9_hashWord_21 (by decide) (fun c1 => ?_) (fun c1 => ?_)
    · replace hf := (if_pos c1).symm.trans hf
      refine V_lload 2 rfl dX9_hashWord_46 ?_
      cases hf
      exact V_lret rfl dX9_hashWord_48 ⟨rfl, rfl⟩
    · replace hf := (if_neg c1).symm.trans hf
      refine V_ldc2 (31) kc_X9_253 dX9_hashWord_24 ?_
      refine V_lload 2 rfl dX9_hashWord_27 ?_
      refine V_lmul dX9_hashWord_29 ?_
      refine V_iload_n 0 rfl dX9_hashWord_30 rfl ?_
      refine V_iload 3 rfl dX9_hashWord_31 ?_
      obtain ⟨r1, hr1, hf⟩ := bno_some hf
      refine V_cS (As := [.int x2, .int x6]) (rest := [.long ((31) * x4)]) (k_X8_letter (d := 0) (Nat.le_refl _) hr1) LB_X8_letter lk_X9_268 (by omega) dX9_hashWord_33 rfl rfl (Nat.le_of_ble_eq_true rfl) (Nat.le_refl _) (Nat.le_refl _) [.int r1, .long ((31) * x4)] rfl ?_
      refine V_i2l dX9_hashWord_36 ?_
      refine V_ladd dX9_hashWord_37 ?_
      refine V_lstore [(2, .int x2), (3, .int x3), (4, .long (((31) * x4) + (Int32.toInt64 r1))), (6, .int x6)] [1, 2, 0, 3] dX9_hashWord_38 (by decide) rfl ?_
      refine V_iinc (1) 3 [(2, .int x2), (3, .int x3), (4, .long (((31) * x4) + (Int32.toInt64 r1))), (6, .int (x6 + 1))] [1, 2, 3, 0] dX9_hashWord_40 rfl (by decide) (by decide) rfl ?_
      refine V_goto 18 dX9_hashWord_43 (by decide) ?_
      exact ih _ _ _ _ hf
def f_X9_hashWord (x0 : Int64) (x2 : Int32) : Option Int64 := bno (f_X8_length x2) fun r1 => f_X9_hashWord_18 FU x2 r1 (((31) * x0) + (Int32.toInt64 r1)) (0)
set_option maxHeartbeats 4000000 in
set_option maxRecDepth 100000 in
theorem v_X9_hashWord {l : Launch} {G : Gv} {d : Nat} {av0 : List Value} {w1 : va_W} {w0 : va_W} {q : Int64} {x0 : Int64} {x2 : Int32} (hd : 1 ≤ d) (hf : f_X9_hashWord x0 x2 = some q) : VV l G yX9_hashWord cX9_hashWord 7 (some .long) d 0 0 av0 w1 (pD (some (.long q)) w0) 0 0 w0 0 [(0, .long x0), (2, .int x2)] [] := by
  unfold f_X9_hashWord at hf
  refine V_iload_n 1 rfl dX9_hashWord_0 rfl ?_
  obtain ⟨r1, hr1, hf⟩ := bno_some hf
  refine V_cS (As := [.int x2]) (rest := []) (k_X8_length (d := 0) (Nat.le_refl _) hr1) LB_X8_length lk_X9_51 (by omega) dX9_hashWord_1 rfl rfl (Nat.le_of_ble_eq_true rfl) (Nat.le_refl _) (Nat.le_refl _) [.int r1] rfl ?_
  refine V_istore_n [(0, .long x0), (2, .int x2), (3, .int r1)] [1, 2, 0] dX9_hashWord_4 rfl (by decide) rfl ?_
  refine V_ldc2 (31) kc_X9_253 dX9_hashWord_5 ?_
  refine V_lload_n 0 rfl dX9_hashWord_8 rfl ?_
  refine V_lmul dX9_hashWord_9 ?_
  refine V_iload_n 2 rfl dX9_hashWord_10 rfl ?_
  refine V_i2l dX9_hashWord_11 ?_
  refine V_ladd dX9_hashWord_12 ?_
  refine V_lstore [(0, .long x0), (2, .int x2), (3, .int r1), (4, .long (((31) * x0) + (Int32.toInt64 r1)))] [1, 2, 3, 0] dX9_hashWord_13 (by decide) rfl ?_
  refine V_iconst 0 dX9_hashWord_15 (by decide) ?_
  refine V_istore [(0, .long x0), (2, .int x2), (3, .int r1), (4, .long (((31) * x0) + (Int32.toInt64 r1))), (6, .int (0))] [1, 2, 3, 4, 0] dX9_hashWord_16 (by decide) rfl ?_
  refine V_lv [(2, .int x2), (3, .int r1), (4, .long (((31) * x0) + (Int32.toInt64 r1))), (6, .int (0))] [1, 2, 3, 4] rfl ?_
  exact v_X9_hashWord_18 hd _ _ _ _ _ hf
theorem k_X9_hashWord {l : Launch} {G : Gv} {d : Nat} {w0 : va_W} {q : Int64} {x0 : Int64} {x2 : Int32} (hd : 1 ≤ d) (hf : f_X9_hashWord x0 x2 = some q) : K l G yX9_hashWord cX9_hashWord 7 (some .long) d 0 0 [.long x0, .int x2] w0 (pD (some (.long q)) w0) := K_intro (by decide) (Nat.le_of_ble_eq_true rfl) (v_X9_hashWord hd hf)
def f_X9_hashRack_5 : Nat → Int32 → Int64 → Int32 → Option Int64
  | 0, _, _, _ => none
  | n + 1, x2, x3, x5 => if (8) ≤ x5 then (some x3) else (bno (f_X4_count x2 x5) fun r1 => f_X9_hashRack_5 n x2 (((31) * x3) + (Int32.toInt64 r1)) (x5 + 1))
set_option maxHeartbeats 4000000 in
set_option maxRecDepth 100000 in
theorem v_X9_hashRack_5 {l : Launch} {G : Gv} {d : Nat} {av0 : List Value} {w1 : va_W} {w0 : va_W} {q : Int64} (hd : 1 ≤ d) : ∀ (n : Nat) (x2 : Int32) (x3 : Int64) (x5 : Int32), f_X9_hashRack_5 n x2 x3 x5 = some q → VV l G yX9_hashRack cX9_hashRack 6 (some .long) d 0 0 av0 w1 (pD (some (.long q)) w0) 0 0 w0 5 [(2, .int x2), (3, .long x3), (5, .int x5)] [] := by
  intro n
  induction n with
  | zero =>
    intro x2 x3 x5 hf
    cases hf
  | succ n ih =>
    intro x2 x3 x5 hf
    rw [f_X9_hashRack_5] at hf
    refine V_iload 2 rfl dX9_hashRack_5 ?_
    refine V_bipush 8 dX9_hashRack_7 (by decide) ?_
    refine V_icmp_ge 32 dX9_hashRack_9 (by decide) (fun c1 => ?_) (fun c1 => ?_)
    · replace hf := (if_pos c1).symm.trans hf
      refine V_lload_n 1 rfl dX9_hashRack_32 rfl ?_
      cases hf
      exact V_lret rfl dX9_hashRack_33 ⟨rfl, rfl⟩
    · replace hf := (if_neg c1).symm.trans hf
      refine V_ldc2 (31) kc_X9_253 dX9_hashRack_12 ?_
      refine V_lload_n 1 rfl dX9_hashRack_15 rfl ?_
      refine V_lmul dX9_hashRack_16 ?_
      refine V_iload_n 0 rfl dX9_hashRack_17 rfl ?_
      refine V_iload 2 rfl dX9_hashRack_18 ?_
      obtain ⟨r1, hr1, hf⟩ := bno_some hf
      refine V_cS (As := [.int x2, .int x5]) (rest := [.long ((31) * x3)]) (k_X4_count (d := 0) (Nat.le_refl _) hr1) LB_X4_count lk_X9_152 (by omega) dX9_hashRack_20 rfl rfl (Nat.le_of_ble_eq_true rfl) (Nat.le_refl _) (Nat.le_refl _) [.int r1, .long ((31) * x3)] rfl ?_
      refine V_i2l dX9_hashRack_23 ?_
      refine V_ladd dX9_hashRack_24 ?_
      refine V_lstore_n [(2, .int x2), (3, .long (((31) * x3) + (Int32.toInt64 r1))), (5, .int x5)] [1, 0, 2] dX9_hashRack_25 rfl (by decide) rfl ?_
      refine V_iinc (1) 2 [(2, .int x2), (3, .long (((31) * x3) + (Int32.toInt64 r1))), (5, .int (x5 + 1))] [1, 2, 0] dX9_hashRack_26 rfl (by decide) (by decide) rfl ?_
      refine V_goto 5 dX9_hashRack_29 (by decide) ?_
      exact ih _ _ _ hf
def f_X9_hashRack (x0 : Int64) (x2 : Int32) : Option Int64 := f_X9_hashRack_5 FU x2 x0 (0)
set_option maxHeartbeats 4000000 in
set_option maxRecDepth 100000 in
theorem v_X9_hashRack {l : Launch} {G : Gv} {d : Nat} {av0 : List Value} {w1 : va_W} {w0 : va_W} {q : Int64} {x0 : Int64} {x2 : Int32} (hd : 1 ≤ d) (hf : f_X9_hashRack x0 x2 = some q) : VV l G yX9_hashRack cX9_hashRack 6 (some .long) d 0 0 av0 w1 (pD (some (.long q)) w0) 0 0 w0 0 [(0, .long x0), (2, .int x2)] [] := by
  unfold f_X9_hashRack at hf
  refine V_lload_n 0 rfl dX9_hashRack_0 rfl ?_
  refine V_lstore_n [(0, .long x0), (2, .int x2), (3, .long x0)] [1, 2, 0] dX9_hashRack_1 rfl (by decide) rfl ?_
  refine V_iconst 0 dX9_hashRack_2 (by decide) ?_
  refine V_istore [(0, .long x0), (2, .int x2), (3, .long x0), (5, .int (0))] [1, 2, 3, 0] dX9_hashRack_3 (by decide) rfl ?_
  refine V_lv [(2, .int x2), (3, .long x0), (5, .int (0))] [1, 2, 3] rfl ?_
  exact v_X9_hashRack_5 hd _ _ _ _ hf
theorem k_X9_hashRack {l : Launch} {G : Gv} {d : Nat} {w0 : va_W} {q : Int64} {x0 : Int64} {x2 : Int32} (hd : 1 ≤ d) (hf : f_X9_hashRack x0 x2 = some q) : K l G yX9_hashRack cX9_hashRack 6 (some .long) d 0 0 [.long x0, .int x2] w0 (pD (some (.long q)) w0) := K_intro (by decide) (Nat.le_of_ble_eq_true rfl) (v_X9_hashRack hd hf)
