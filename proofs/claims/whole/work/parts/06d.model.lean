theorem kc_X10_203 : Cond.constantLong RX10 203 (5) ∈ tblG := tin 1104 (by decide +kernel) (by decide +kernel)
theorem kc_X10_226 : Cond.constant RX10 226 (-1000000) ∈ tblG := tin 1145 (by decide +kernel) (by decide +kernel)
theorem fl_X10_211 : Cond.fieldLink RX10 211 RX10 "bestIndex" "I" ∈ tblG := tin 837 (by decide +kernel) (by decide +kernel)
theorem fl_X10_214 : Cond.fieldLink RX10 214 RX10 "bestCode" "I" ∈ tblG := tin 838 (by decide +kernel) (by decide +kernel)
theorem fl_X10_223 : Cond.fieldLink RX10 223 RX10 "visits" "I" ∈ tblG := tin 845 (by decide +kernel) (by decide +kernel)
theorem fl_X10_34 : Cond.fieldLink RX10 34 RX10 "boards" "[I" ∈ tblG := tin 839 (by decide +kernel) (by decide +kernel)
theorem fl_X10_37 : Cond.fieldLink RX10 37 RX10 "rackPile" "[I" ∈ tblG := tin 840 (by decide +kernel) (by decide +kernel)
theorem fl_X10_40 : Cond.fieldLink RX10 40 RX10 "passed" "[I" ∈ tblG := tin 841 (by decide +kernel) (by decide +kernel)
theorem fl_X10_43 : Cond.fieldLink RX10 43 RX10 "nextMove" "[I" ∈ tblG := tin 842 (by decide +kernel) (by decide +kernel)
theorem fl_X10_46 : Cond.fieldLink RX10 46 RX10 "bestSoFar" "[I" ∈ tblG := tin 843 (by decide +kernel) (by decide +kernel)
theorem fl_X10_49 : Cond.fieldLink RX10 49 RX10 "gains" "[I" ∈ tblG := tin 844 (by decide +kernel) (by decide +kernel)
theorem LB_X10_takesWord : LB yX10_takesWord cX10_takesWord 3 none 1 := ⟨tin 1095 (by decide +kernel) (by decide +kernel), tin 8 (by decide +kernel) (by decide +kernel), by decide, by decide, by decide, by decide +kernel⟩
theorem lk_X10_190 : Cond.methodLink RX10 190 yX10_takesWord ∈ tblG ∧ Cond.instanceMethod yX10_takesWord ∈ tblG ∧ Cond.selects yX10_takesWord.cls yX10_takesWord yX10_takesWord ∈ tblG := ⟨tin 1092 (by decide +kernel) (by decide +kernel), tin 1094 (by decide +kernel) (by decide +kernel), tsel (q := (yX10_takesWord, 25)) (List.mem_of_getElem? (i := 44) (by decide +kernel))⟩
theorem LB_X10_mayPlay : LB yX10_mayPlay cX10_mayPlay 5 (some .boolean) 2 := ⟨tin 1091 (by decide +kernel) (by decide +kernel), tin 8 (by decide +kernel) (by decide +kernel), by decide, by decide, by decide, by decide +kernel⟩
theorem lk_X10_194 : Cond.methodLink RX10 194 yX10_mayPlay ∈ tblG ∧ Cond.instanceMethod yX10_mayPlay ∈ tblG ∧ Cond.selects yX10_mayPlay.cls yX10_mayPlay yX10_mayPlay ∈ tblG := ⟨tin 1088 (by decide +kernel) (by decide +kernel), tin 1090 (by decide +kernel) (by decide +kernel), tsel (q := (yX10_mayPlay, 25)) (List.mem_of_getElem? (i := 43) (by decide +kernel))⟩
theorem LB_X10_playsOf : LB yX10_playsOf cX10_playsOf 4 (some .int) 1 := ⟨tin 1087 (by decide +kernel) (by decide +kernel), tin 8 (by decide +kernel) (by decide +kernel), by decide, by decide, by decide, by decide +kernel⟩
theorem lk_X10_197 : Cond.methodLink RX10 197 yX10_playsOf ∈ tblG ∧ Cond.instanceMethod yX10_playsOf ∈ tblG ∧ Cond.selects yX10_playsOf.cls yX10_playsOf yX10_playsOf ∈ tblG := ⟨tin 1084 (by decide +kernel) (by decide +kernel), tin 1086 (by decide +kernel) (by decide +kernel), tsel (q := (yX10_playsOf, 25)) (List.mem_of_getElem? (i := 42) (by decide +kernel))⟩
theorem LB_X10_codeAt : LB yX10_codeAt cX10_codeAt 5 (some .int) 2 := ⟨tin 1103 (by decide +kernel) (by decide +kernel), tin 8 (by decide +kernel) (by decide +kernel), by decide, by decide, by decide, by decide +kernel⟩
theorem lk_X10_200 : Cond.methodLink RX10 200 yX10_codeAt ∈ tblG ∧ Cond.instanceMethod yX10_codeAt ∈ tblG ∧ Cond.selects yX10_codeAt.cls yX10_codeAt yX10_codeAt ∈ tblG := ⟨tin 1100 (by decide +kernel) (by decide +kernel), tin 1102 (by decide +kernel) (by decide +kernel), tsel (q := (yX10_codeAt, 25)) (List.mem_of_getElem? (i := 45) (by decide +kernel))⟩
theorem LB_X10_scoreBy : LB yX10_scoreBy cX10_scoreBy 3 (some .int) 1 := ⟨tin 1108 (by decide +kernel) (by decide +kernel), tin 8 (by decide +kernel) (by decide +kernel), by decide, by decide, by decide, by decide +kernel⟩
theorem lk_X10_205 : Cond.methodLink RX10 205 yX10_scoreBy ∈ tblG ∧ Cond.instanceMethod yX10_scoreBy ∈ tblG ∧ Cond.selects yX10_scoreBy.cls yX10_scoreBy yX10_scoreBy ∈ tblG := ⟨tin 1105 (by decide +kernel) (by decide +kernel), tin 1107 (by decide +kernel) (by decide +kernel), tsel (q := (yX10_scoreBy, 25)) (List.mem_of_getElem? (i := 46) (by decide +kernel))⟩
theorem LB_X10_leaveOf : LB yX10_leaveOf cX10_leaveOf 4 (some .int) 1 := ⟨tin 1112 (by decide +kernel) (by decide +kernel), tin 8 (by decide +kernel) (by decide +kernel), by decide, by decide, by decide, by decide +kernel⟩
theorem lk_X10_208 : Cond.methodLink RX10 208 yX10_leaveOf ∈ tblG ∧ Cond.instanceMethod yX10_leaveOf ∈ tblG ∧ Cond.selects yX10_leaveOf.cls yX10_leaveOf yX10_leaveOf ∈ tblG := ⟨tin 1109 (by decide +kernel) (by decide +kernel), tin 1111 (by decide +kernel) (by decide +kernel), tsel (q := (yX10_leaveOf, 25)) (List.mem_of_getElem? (i := 47) (by decide +kernel))⟩
theorem LB_X10_findsBest : LB yX10_findsBest cX10_findsBest 6 none 1 := ⟨tin 1120 (by decide +kernel) (by decide +kernel), tin 8 (by decide +kernel) (by decide +kernel), by decide, by decide, by decide, by decide +kernel⟩
theorem lk_X10_217 : Cond.methodLink RX10 217 yX10_findsBest ∈ tblG ∧ Cond.instanceMethod yX10_findsBest ∈ tblG ∧ Cond.selects yX10_findsBest.cls yX10_findsBest yX10_findsBest ∈ tblG := ⟨tin 1117 (by decide +kernel) (by decide +kernel), tin 1119 (by decide +kernel) (by decide +kernel), tsel (q := (yX10_findsBest, 25)) (List.mem_of_getElem? (i := 48) (by decide +kernel))⟩
theorem LB_X10_sumOn : LB yX10_sumOn cX10_sumOn 4 (some .int) 1 := ⟨tin 1140 (by decide +kernel) (by decide +kernel), tin 8 (by decide +kernel) (by decide +kernel), by decide, by decide, by decide, by decide +kernel⟩
theorem lk_X10_220 : Cond.methodLink RX10 220 yX10_sumOn ∈ tblG ∧ Cond.instanceMethod yX10_sumOn ∈ tblG ∧ Cond.selects yX10_sumOn.cls yX10_sumOn yX10_sumOn ∈ tblG := ⟨tin 1137 (by decide +kernel) (by decide +kernel), tin 1139 (by decide +kernel) (by decide +kernel), tsel (q := (yX10_sumOn, 25)) (List.mem_of_getElem? (i := 51) (by decide +kernel))⟩
theorem LB_X10_isOut : LB yX10_isOut cX10_isOut 2 (some .boolean) 1 := ⟨tin 1136 (by decide +kernel) (by decide +kernel), tin 8 (by decide +kernel) (by decide +kernel), by decide, by decide, by decide, by decide +kernel⟩
theorem lk_X10_227 : Cond.methodLink RX10 227 yX10_isOut ∈ tblG ∧ Cond.instanceMethod yX10_isOut ∈ tblG ∧ Cond.selects yX10_isOut.cls yX10_isOut yX10_isOut ∈ tblG := ⟨tin 1133 (by decide +kernel) (by decide +kernel), tin 1135 (by decide +kernel) (by decide +kernel), tsel (q := (yX10_isOut, 25)) (List.mem_of_getElem? (i := 50) (by decide +kernel))⟩
theorem LB_X10_enters : LB yX10_enters cX10_enters 5 none 3 := ⟨tin 1144 (by decide +kernel) (by decide +kernel), tin 8 (by decide +kernel) (by decide +kernel), by decide, by decide, by decide, by decide +kernel⟩
theorem lk_X10_230 : Cond.methodLink RX10 230 yX10_enters ∈ tblG ∧ Cond.instanceMethod yX10_enters ∈ tblG ∧ Cond.selects yX10_enters.cls yX10_enters yX10_enters ∈ tblG := ⟨tin 1141 (by decide +kernel) (by decide +kernel), tin 1143 (by decide +kernel) (by decide +kernel), tsel (q := (yX10_enters, 25)) (List.mem_of_getElem? (i := 52) (by decide +kernel))⟩
theorem LB_X10_betters : LB yX10_betters cX10_betters 3 none 2 := ⟨tin 1149 (by decide +kernel) (by decide +kernel), tin 8 (by decide +kernel) (by decide +kernel), by decide, by decide, by decide, by decide +kernel⟩
theorem lk_X10_233 : Cond.methodLink RX10 233 yX10_betters ∈ tblG ∧ Cond.instanceMethod yX10_betters ∈ tblG ∧ Cond.selects yX10_betters.cls yX10_betters yX10_betters ∈ tblG := ⟨tin 1146 (by decide +kernel) (by decide +kernel), tin 1148 (by decide +kernel) (by decide +kernel), tsel (q := (yX10_betters, 25)) (List.mem_of_getElem? (i := 53) (by decide +kernel))⟩
theorem LB_X10_takesBack : LB yX10_takesBack cX10_takesBack 3 none 1 := ⟨tin 1153 (by decide +kernel) (by decide +kernel), tin 8 (by decide +kernel) (by decide +kernel), by decide, by decide, by decide, by decide +kernel⟩
theorem lk_X10_236 : Cond.methodLink RX10 236 yX10_takesBack ∈ tblG ∧ Cond.instanceMethod yX10_takesBack ∈ tblG ∧ Cond.selects yX10_takesBack.cls yX10_takesBack yX10_takesBack ∈ tblG := ⟨tin 1150 (by decide +kernel) (by decide +kernel), tin 1152 (by decide +kernel) (by decide +kernel), tsel (q := (yX10_takesBack, 25)) (List.mem_of_getElem? (i := 54) (by decide +kernel))⟩
theorem LB_X10_laysBy : LB yX10_laysBy cX10_laysBy 4 none 2 := ⟨tin 1157 (by decide +kernel) (by decide +kernel), tin 8 (by decide +kernel) (by decide +kernel), by decide, by decide, by decide, by decide +kernel⟩
theorem lk_X10_239 : Cond.methodLink RX10 239 yX10_laysBy ∈ tblG ∧ Cond.instanceMethod yX10_laysBy ∈ tblG ∧ Cond.selects yX10_laysBy.cls yX10_laysBy yX10_laysBy ∈ tblG := ⟨tin 1154 (by decide +kernel) (by decide +kernel), tin 1156 (by decide +kernel) (by decide +kernel), tsel (q := (yX10_laysBy, 25)) (List.mem_of_getElem? (i := 55) (by decide +kernel))⟩
def f_X10_mayPlay (σ : St) (x1 : Int32) (x2 : Int32) : Option (Bool × St) := ixo (16) 373 (if (x2 - x2 / (30) * (30)) < (ga σ 0 (Int32.toNatClampNeg (16))) then (bno (f_X10_takesWord σ (x2 - x2 / (30) * (30))) fun r1 => lt ((x2 / (30)) - (x2 / (30)) / (49) * (49)) fun t1 => bno (f_X10_reason r1 x1 ((x2 / (30)) / (49)) (t1 / (7)) (t1 - t1 / (7) * (7))) fun r2 => if r2.1 = 0 then (some (true, r2.2)) else (some (false, r2.2))) else (some (false, σ)))
set_option maxHeartbeats 4000000 in
set_option maxRecDepth 100000 in
theorem v_X10_mayPlay {l : Launch} {G : Gv} {ad : Nat → Nat} {d : Nat} {av0 : List Value} {w1 : va_W} {q : (Bool × St)} {σ : St} {x1 : Int32} {x2 : Int32} (hd : 5 ≤ d) (hf : f_X10_mayPlay σ x1 x2 = some q) : VV l G yX10_mayPlay cX10_mayPlay 5 (some .boolean) d 0 0 av0 w1 (pD (some (.int (b2i q.1))) (wM G ad q.2)) 0 0 (wM G ad σ) 0 [(0, .ref (ad 0)), (1, .int x1), (2, .int x2)] [] := by
  unfold f_X10_mayPlay at hf
  refine V_iload_n 2 rfl dX10_mayPlay_0 rfl ?_
  refine V_bipush 30 dX10_mayPlay_1 (by decide) ?_
  refine V_irem dX10_mayPlay_3 (by decide) ?_
  refine V_istore_n [(0, .ref (ad 0)), (1, .int x1), (2, .int x2), (3, .int (x2 - x2 / (30) * (30)))] [1, 2, 3, 0] dX10_mayPlay_4 rfl (by decide) rfl ?_
  refine V_iload_n 3 rfl dX10_mayPlay_5 rfl ?_
  refine V_aload_n 0 rfl dX10_mayPlay_6 rfl ?_
  refine V_get (k := 0) RC_X10 fl_X10_7 rfl (by decide) dX10_mayPlay_7 0 rfl rfl ?_
  refine V_bipush 16 dX10_mayPlay_10 (by decide) ?_
  obtain ⟨hi, hf⟩ := ixo_some hf
  refine V_iaload dX10_mayPlay_12 1 rfl hi ?_
  refine V_icmp_lt 18 dX10_mayPlay_13 (by decide) (fun c1 => ?_) (fun c1 => ?_)
  · replace hf := (if_pos c1).symm.trans hf
    refine V_aload_n 0 rfl dX10_mayPlay_18 rfl ?_
    refine V_iload_n 3 rfl dX10_mayPlay_19 rfl ?_
    obtain ⟨r1, hr1, hf⟩ := bno_some hf
    refine V_cV (As := [.int (x2 - x2 / (30) * (30))]) (rest := []) (k_X10_takesWord (d := 0) (Nat.le_refl _) hr1) LB_X10_takesWord lk_X10_190 (by omega) dX10_mayPlay_20 rfl rfl (Nat.le_of_ble_eq_true rfl) (Nat.le_refl _) (Nat.le_refl _) 0 rfl ⟨rfl, rfl⟩ [] rfl ?_
    refine V_iload_n 2 rfl dX10_mayPlay_23 rfl ?_
    refine V_bipush 30 dX10_mayPlay_24 (by decide) ?_
    refine V_idiv dX10_mayPlay_26 (by decide) ?_
    refine V_bipush 49 dX10_mayPlay_27 (by decide) ?_
    refine V_irem dX10_mayPlay_29 (by decide) ?_
    obtain ⟨t1, et1, hf⟩ := lt_some hf
    refine V_topi et1 ?_
    refine V_istore [(0, .ref (ad 0)), (1, .int x1), (2, .int x2), (3, .int (x2 - x2 / (30) * (30))), (4, .int t1)] [1, 2, 3, 4, 0] dX10_mayPlay_30 (by decide) rfl ?_
    refine V_aload_n 0 rfl dX10_mayPlay_32 rfl ?_
    refine V_iload_n 1 rfl dX10_mayPlay_33 rfl ?_
    refine V_iload_n 2 rfl dX10_mayPlay_34 rfl ?_
    refine V_bipush 30 dX10_mayPlay_35 (by decide) ?_
    refine V_idiv dX10_mayPlay_37 (by decide) ?_
    refine V_bipush 49 dX10_mayPlay_38 (by decide) ?_
    refine V_idiv dX10_mayPlay_40 (by decide) ?_
    refine V_iload 4 rfl dX10_mayPlay_41 ?_
    refine V_bipush 7 dX10_mayPlay_43 (by decide) ?_
    refine V_idiv dX10_mayPlay_45 (by decide) ?_
    refine V_iload 4 rfl dX10_mayPlay_46 ?_
    refine V_bipush 7 dX10_mayPlay_48 (by decide) ?_
    refine V_irem dX10_mayPlay_50 (by decide) ?_
    obtain ⟨r2, hr2, hf⟩ := bno_some hf
    refine V_cV (As := [.int x1, .int ((x2 / (30)) / (49)), .int (t1 / (7)), .int (t1 - t1 / (7) * (7))]) (rest := []) (k_X10_reason (d := 4) (Nat.le_refl _) hr2) LB_X10_reason lk_X10_174 (by omega) dX10_mayPlay_51 rfl rfl (Nat.le_of_ble_eq_true rfl) (Nat.le_refl _) (Nat.le_refl _) 0 rfl ⟨rfl, rfl⟩ [.int r2.1] rfl ?_
    refine V_if_ne 61 dX10_mayPlay_54 (by decide) (fun c2 => ?_) (fun c2 => ?_)
    · replace hf := (if_neg c2).symm.trans hf
      refine V_iconst 0 dX10_mayPlay_61 (by decide) ?_
      cases hf
      exact V_zret (ty := .boolean) rfl rfl dX10_mayPlay_62 ⟨rfl, rfl⟩
    · replace hf := (if_pos c2).symm.trans hf
      refine V_iconst 1 dX10_mayPlay_57 (by decide) ?_
      refine V_goto 62 dX10_mayPlay_58 (by decide) ?_
      cases hf
      exact V_zret (ty := .boolean) rfl rfl dX10_mayPlay_62 ⟨rfl, rfl⟩
  · replace hf := (if_neg c1).symm.trans hf
    refine V_iconst 0 dX10_mayPlay_16 (by decide) ?_
    cases hf
    exact V_zret (ty := .boolean) rfl rfl dX10_mayPlay_17 ⟨rfl, rfl⟩
theorem k_X10_mayPlay {l : Launch} {G : Gv} {ad : Nat → Nat} {d : Nat} {σ : St} {q : (Bool × St)} {x1 : Int32} {x2 : Int32} (hd : 5 ≤ d) (hf : f_X10_mayPlay σ x1 x2 = some q) : K l G yX10_mayPlay cX10_mayPlay 5 (some .boolean) d 0 0 [.ref (ad 0), .int x1, .int x2] (wM G ad σ) (pD (some (.int (b2i q.1))) (wM G ad q.2)) := K_intro (by decide) (Nat.le_of_ble_eq_true rfl) (v_X10_mayPlay hd hf)
def f_X10_scoreBy (σ : St) (x1 : Int32) : Option (Int32 × St) := lt ((x1 / (30)) - (x1 / (30)) / (49) * (49)) fun t1 => bno (f_X10_scoreOf σ ((x1 / (30)) / (49)) (t1 / (7)) (t1 - t1 / (7) * (7))) fun r1 => some (r1.1, r1.2)
set_option maxHeartbeats 4000000 in
set_option maxRecDepth 100000 in
theorem v_X10_scoreBy {l : Launch} {G : Gv} {ad : Nat → Nat} {d : Nat} {av0 : List Value} {w1 : va_W} {q : (Int32 × St)} {σ : St} {x1 : Int32} (hd : 5 ≤ d) (hf : f_X10_scoreBy σ x1 = some q) : VV l G yX10_scoreBy cX10_scoreBy 3 (some .int) d 0 0 av0 w1 (pD (some (.int q.1)) (wM G ad q.2)) 0 0 (wM G ad σ) 0 [(0, .ref (ad 0)), (1, .int x1)] [] := by
  unfold f_X10_scoreBy at hf
  refine V_iload_n 1 rfl dX10_scoreBy_0 rfl ?_
  refine V_bipush 30 dX10_scoreBy_1 (by decide) ?_
  refine V_idiv dX10_scoreBy_3 (by decide) ?_
  refine V_bipush 49 dX10_scoreBy_4 (by decide) ?_
  refine V_irem dX10_scoreBy_6 (by decide) ?_
  obtain ⟨t1, et1, hf⟩ := lt_some hf
  refine V_topi et1 ?_
  refine V_istore_n [(0, .ref (ad 0)), (1, .int x1), (2, .int t1)] [1, 2, 0] dX10_scoreBy_7 rfl (by decide) rfl ?_
  refine V_aload_n 0 rfl dX10_scoreBy_8 rfl ?_
  refine V_iload_n 1 rfl dX10_scoreBy_9 rfl ?_
  refine V_bipush 30 dX10_scoreBy_10 (by decide) ?_
  refine V_idiv dX10_scoreBy_12 (by decide) ?_
  refine V_bipush 49 dX10_scoreBy_13 (by decide) ?_
  refine V_idiv dX10_scoreBy_15 (by decide) ?_
  refine V_iload_n 2 rfl dX10_scoreBy_16 rfl ?_
  refine V_bipush 7 dX10_scoreBy_17 (by decide) ?_
  refine V_idiv dX10_scoreBy_19 (by decide) ?_
  refine V_iload_n 2 rfl dX10_scoreBy_20 rfl ?_
  refine V_bipush 7 dX10_scoreBy_21 (by decide) ?_
  refine V_irem dX10_scoreBy_23 (by decide) ?_
  obtain ⟨r1, hr1, hf⟩ := bno_some hf
  refine V_cV (As := [.int ((x1 / (30)) / (49)), .int (t1 / (7)), .int (t1 - t1 / (7) * (7))]) (rest := []) (k_X10_scoreOf (d := 4) (Nat.le_refl _) hr1) LB_X10_scoreOf lk_X10_180 (by omega) dX10_scoreBy_24 rfl rfl (Nat.le_of_ble_eq_true rfl) (Nat.le_refl _) (Nat.le_refl _) 0 rfl ⟨rfl, rfl⟩ [.int r1.1] rfl ?_
  cases hf
  exact V_iret rfl dX10_scoreBy_27 ⟨rfl, rfl⟩
theorem k_X10_scoreBy {l : Launch} {G : Gv} {ad : Nat → Nat} {d : Nat} {σ : St} {q : (Int32 × St)} {x1 : Int32} (hd : 5 ≤ d) (hf : f_X10_scoreBy σ x1 = some q) : K l G yX10_scoreBy cX10_scoreBy 3 (some .int) d 0 0 [.ref (ad 0), .int x1] (wM G ad σ) (pD (some (.int q.1)) (wM G ad q.2)) := K_intro (by decide) (Nat.le_of_ble_eq_true rfl) (v_X10_scoreBy hd hf)
def f_X10_laysBy (σ : St) (x1 : Int32) (x2 : Int32) : Option St := lt ((x2 / (30)) - (x2 / (30)) / (49) * (49)) fun t1 => bno (f_X10_lays σ x1 ((x2 / (30)) / (49)) (t1 / (7)) (t1 - t1 / (7) * (7))) fun r1 => some r1
set_option maxHeartbeats 4000000 in
set_option maxRecDepth 100000 in
theorem v_X10_laysBy {l : Launch} {G : Gv} {ad : Nat → Nat} {d : Nat} {av0 : List Value} {w1 : va_W} {q : St} {σ : St} {x1 : Int32} {x2 : Int32} (hd : 2 ≤ d) (hf : f_X10_laysBy σ x1 x2 = some q) : VV l G yX10_laysBy cX10_laysBy 4 none d 0 0 av0 w1 (pD none (wM G ad q)) 0 0 (wM G ad σ) 0 [(0, .ref (ad 0)), (1, .int x1), (2, .int x2)] [] := by
  unfold f_X10_laysBy at hf
  refine V_iload_n 2 rfl dX10_laysBy_0 rfl ?_
  refine V_bipush 30 dX10_laysBy_1 (by decide) ?_
  refine V_idiv dX10_laysBy_3 (by decide) ?_
  refine V_bipush 49 dX10_laysBy_4 (by decide) ?_
  refine V_irem dX10_laysBy_6 (by decide) ?_
  obtain ⟨t1, et1, hf⟩ := lt_some hf
  refine V_topi et1 ?_
  refine V_istore_n [(0, .ref (ad 0)), (1, .int x1), (2, .int x2), (3, .int t1)] [1, 2, 3, 0] dX10_laysBy_7 rfl (by decide) rfl ?_
  refine V_aload_n 0 rfl dX10_laysBy_8 rfl ?_
  refine V_iload_n 1 rfl dX10_laysBy_9 rfl ?_
  refine V_iload_n 2 rfl dX10_laysBy_10 rfl ?_
  refine V_bipush 30 dX10_laysBy_11 (by decide) ?_
  refine V_idiv dX10_laysBy_13 (by decide) ?_
  refine V_bipush 49 dX10_laysBy_14 (by decide) ?_
  refine V_idiv dX10_laysBy_16 (by decide) ?_
  refine V_iload_n 3 rfl dX10_laysBy_17 rfl ?_
  refine V_bipush 7 dX10_laysBy_18 (by decide) ?_
  refine V_idiv dX10_laysBy_20 (by decide) ?_
  refine V_iload_n 3 rfl dX10_laysBy_21 rfl ?_
  refine V_bipush 7 dX10_laysBy_22 (by decide) ?_
  refine V_irem dX10_laysBy_24 (by decide) ?_
  obtain ⟨r1, hr1, hf⟩ := bno_some hf
  refine V_cV (As := [.int x1, .int ((x2 / (30)) / (49)), .int (t1 / (7)), .int (t1 - t1 / (7) * (7))]) (rest := []) (k_X10_lays (d := 1) (Nat.le_refl _) hr1) LB_X10_lays lk_X10_183 (by omega) dX10_laysBy_25 rfl rfl (Nat.le_of_ble_eq_true rfl) (Nat.le_refl _) (Nat.le_refl _) 0 rfl ⟨rfl, rfl⟩ [] rfl ?_
  cases hf
  exact V_vret rfl dX10_laysBy_28 ⟨rfl, rfl⟩
theorem k_X10_laysBy {l : Launch} {G : Gv} {ad : Nat → Nat} {d : Nat} {σ : St} {q : St} {x1 : Int32} {x2 : Int32} (hd : 2 ≤ d) (hf : f_X10_laysBy σ x1 x2 = some q) : K l G yX10_laysBy cX10_laysBy 4 none d 0 0 [.ref (ad 0), .int x1, .int x2] (wM G ad σ) (pD none (wM G ad q)) := K_intro (by decide) (Nat.le_of_ble_eq_true rfl) (v_X10_laysBy hd hf)
def f_X10_leaveOf_4 (σ : St) : Nat → Int32 → Int32 → Int32 → Option Int32
  | 0, _, _, _ => none
  | n + 1, x1, x2, x3 => if (8) ≤ x3 then (some x2) else (ixo (((8) * x1) + x3) 16 (ixo x3 8 (ixo ((8) + x3) 373 (lt (x2 + (((ga σ 9 (Int32.toNatClampNeg (((8) * x1) + x3))) - (ga σ 15 (Int32.toNatClampNeg x3))) * (ga σ 0 (Int32.toNatClampNeg ((8) + x3))))) fun t1 => f_X10_leaveOf_4 σ n x1 t1 (x3 + 1)))))
set_option maxHeartbeats 4000000 in
set_option maxRecDepth 100000 in
theorem v_X10_leaveOf_4 {l : Launch} {G : Gv} {ad : Nat → Nat} {d : Nat} {av0 : List Value} {w1 : va_W} {q : Int32} {σ : St} (hd : 0 ≤ d) : ∀ (n : Nat) (x1 : Int32) (x2 : Int32) (x3 : Int32), f_X10_leaveOf_4 σ n x1 x2 x3 = some q → VV l G yX10_leaveOf cX10_leaveOf 4 (some .int) d 0 0 av0 w1 (pD (some (.int q)) (wM G ad σ)) 0 0 (wM G ad σ) 4 [(0, .ref (ad 0)), (1, .int x1), (2, .int x2), (3, .int x3)] [] := by
  intro n
  induction n with
  | zero =>
    intro x1 x2 x3 hf
    cases hf
  | succ n ih =>
    intro x1 x2 x3 hf
    rw [f_X10_leaveOf_4] at hf
    refine V_iload_n 3 rfl dX10_leaveOf_4 rfl ?_
    refine V_bipush 8 dX10_leaveOf_5 (by decide) ?_
    refine V_icmp_ge 47 dX10_leaveOf_7 (by decide) (fun c1 => ?_) (fun c1 => ?_)
    · replace hf := (if_pos c1).symm.trans hf
      refine V_iload_n 2 rfl dX10_leaveOf_47 rfl ?_
      cases hf
      exact V_iret rfl dX10_leaveOf_48 ⟨rfl, rfl⟩
    · replace hf := (if_neg c1).symm.trans hf
      refine V_iload_n 2 rfl dX10_leaveOf_10 rfl ?_
      refine V_aload_n 0 rfl dX10_leaveOf_11 rfl ?_
      refine V_get (k := 9) RC_X10 fl_X10_25 rfl (by decide) dX10_leaveOf_12 0 rfl rfl ?_
      refine V_bipush 8 dX10_leaveOf_15 (by decide) ?_
      refine V_iload_n 1 rfl dX10_leaveOf_17 rfl ?_
      refine V_imul dX10_leaveOf_18 ?_
      refine V_iload_n 3 rfl dX10_leaveOf_19 rfl ?_
      refine V_iadd dX10_leaveOf_20 ?_
      obtain ⟨hi, hf⟩ := ixo_some hf
      refine V_iaload dX10_leaveOf_21 6 rfl hi ?_
      refine V_aload_n 0 rfl dX10_leaveOf_22 rfl ?_
      refine V_get (k := 15) RC_X10 fl_X10_31 rfl (by decide) dX10_leaveOf_23 0 rfl rfl ?_
      refine V_iload_n 3 rfl dX10_leaveOf_26 rfl ?_
      obtain ⟨hi, hf⟩ := ixo_some hf
      refine V_iaload dX10_leaveOf_27 8 rfl hi ?_
      refine V_isub dX10_leaveOf_28 ?_
      refine V_aload_n 0 rfl dX10_leaveOf_29 rfl ?_
      refine V_get (k := 0) RC_X10 fl_X10_7 rfl (by decide) dX10_leaveOf_30 0 rfl rfl ?_
      refine V_bipush 8 dX10_leaveOf_33 (by decide) ?_
      refine V_iload_n 3 rfl dX10_leaveOf_35 rfl ?_
      refine V_iadd dX10_leaveOf_36 ?_
      obtain ⟨hi, hf⟩ := ixo_some hf
      refine V_iaload dX10_leaveOf_37 1 rfl hi ?_
      refine V_imul dX10_leaveOf_38 ?_
      refine V_iadd dX10_leaveOf_39 ?_
      obtain ⟨t1, et1, hf⟩ := lt_some hf
      refine V_topi et1 ?_
      refine V_istore_n [(0, .ref (ad 0)), (1, .int x1), (2, .int t1), (3, .int x3)] [1, 2, 0, 3] dX10_leaveOf_40 rfl (by decide) rfl ?_
      refine V_iinc (1) 3 [(0, .ref (ad 0)), (1, .int x1), (2, .int t1), (3, .int (x3 + 1))] [1, 2, 3, 0] dX10_leaveOf_41 rfl (by decide) (by decide) rfl ?_
      refine V_goto 4 dX10_leaveOf_44 (by decide) ?_
      exact ih _ _ _ hf
def f_X10_leaveOf (σ : St) (x1 : Int32) : Option Int32 := f_X10_leaveOf_4 σ FU x1 (0) (0)
set_option maxHeartbeats 4000000 in
set_option maxRecDepth 100000 in
theorem v_X10_leaveOf {l : Launch} {G : Gv} {ad : Nat → Nat} {d : Nat} {av0 : List Value} {w1 : va_W} {q : Int32} {σ : St} {x1 : Int32} (hd : 0 ≤ d) (hf : f_X10_leaveOf σ x1 = some q) : VV l G yX10_leaveOf cX10_leaveOf 4 (some .int) d 0 0 av0 w1 (pD (some (.int q)) (wM G ad σ)) 0 0 (wM G ad σ) 0 [(0, .ref (ad 0)), (1, .int x1)] [] := by
  unfold f_X10_leaveOf at hf
  refine V_iconst 0 dX10_leaveOf_0 (by decide) ?_
  refine V_istore_n [(0, .ref (ad 0)), (1, .int x1), (2, .int (0))] [1, 2, 0] dX10_leaveOf_1 rfl (by decide) rfl ?_
  refine V_iconst 0 dX10_leaveOf_2 (by decide) ?_
  refine V_istore_n [(0, .ref (ad 0)), (1, .int x1), (2, .int (0)), (3, .int (0))] [1, 2, 3, 0] dX10_leaveOf_3 rfl (by decide) rfl ?_
  exact v_X10_leaveOf_4 hd _ _ _ _ hf
theorem k_X10_leaveOf {l : Launch} {G : Gv} {ad : Nat → Nat} {d : Nat} {σ : St} {q : Int32} {x1 : Int32} (hd : 0 ≤ d) (hf : f_X10_leaveOf σ x1 = some q) : K l G yX10_leaveOf cX10_leaveOf 4 (some .int) d 0 0 [.ref (ad 0), .int x1] (wM G ad σ) (pD (some (.int q)) (wM G ad σ)) := K_intro (by decide) (Nat.le_of_ble_eq_true rfl) (v_X10_leaveOf hd hf)
def f_X10_playsOf_26 (bk4 : St → Int32 → Int32 → Int32 → Option (Int32 × St)) (σ : St) (x1 : Int32) (x3 : Int32) (s0 : Int32) (s1 : Int32) : Option (Int32 × St) := bk4 σ x1 (s0 + s1) (x3 + 1)
set_option maxHeartbeats 4000000 in
set_option maxRecDepth 100000 in
theorem v_X10_playsOf_26 {l : Launch} {G : Gv} {ad : Nat → Nat} {d : Nat} {av0 : List Value} {w1 : va_W} {q : (Int32 × St)} {bk4 : St → Int32 → Int32 → Int32 → Option (Int32 × St)} {σ : St} {x1 : Int32} {x3 : Int32} {s0 : Int32} {s1 : Int32} (hd : 6 ≤ d) (hb4 : ∀ (σ : St) (x1 : Int32) (x2 : Int32) (x3 : Int32), bk4 σ x1 x2 x3 = some q → VV l G yX10_playsOf cX10_playsOf 4 (some .int) d 0 0 av0 w1 (pD (some (.int q.1)) (wM G ad q.2)) 0 0 (wM G ad σ) 4 [(0, .ref (ad 0)), (1, .int x1), (2, .int x2), (3, .int x3)] []) (hf : f_X10_playsOf_26 bk4 σ x1 x3 s0 s1 = some q) : VV l G yX10_playsOf cX10_playsOf 4 (some .int) d 0 0 av0 w1 (pD (some (.int q.1)) (wM G ad q.2)) 0 0 (wM G ad σ) 26 [(0, .ref (ad 0)), (1, .int x1), (3, .int x3)] [.int s1, .int s0] := by
  unfold f_X10_playsOf_26 at hf
  refine V_iadd dX10_playsOf_26 ?_
  refine V_istore_n [(0, .ref (ad 0)), (1, .int x1), (2, .int (s0 + s1)), (3, .int x3)] [1, 2, 0, 3] dX10_playsOf_27 rfl (by decide) rfl ?_
  refine V_iinc (1) 3 [(0, .ref (ad 0)), (1, .int x1), (2, .int (s0 + s1)), (3, .int (x3 + 1))] [1, 2, 3, 0] dX10_playsOf_28 rfl (by decide) (by decide) rfl ?_
  refine V_goto 4 dX10_playsOf_31 (by decide) ?_
  exact hb4 _ _ _ _ hf
def f_X10_playsOf_4 : Nat → St → Int32 → Int32 → Int32 → Option (Int32 × St)
  | 0, _, _, _, _ => none
  | n + 1, σ, x1, x2, x3 => if (2940) ≤ x3 then (some (x2, σ)) else (bno (f_X10_mayPlay σ x1 x3) fun r1 => if (b2i r1.1) = 0 then (f_X10_playsOf_26 (f_X10_playsOf_4 n) r1.2 x1 x3 x2 (0)) else (f_X10_playsOf_26 (f_X10_playsOf_4 n) r1.2 x1 x3 x2 (1)))
set_option maxHeartbeats 4000000 in
set_option maxRecDepth 100000 in
theorem v_X10_playsOf_4 {l : Launch} {G : Gv} {ad : Nat → Nat} {d : Nat} {av0 : List Value} {w1 : va_W} {q : (Int32 × St)} (hd : 6 ≤ d) : ∀ (n : Nat) (σ : St) (x1 : Int32) (x2 : Int32) (x3 : Int32), f_X10_playsOf_4 n σ x1 x2 x3 = some q → VV l G yX10_playsOf cX10_playsOf 4 (some .int) d 0 0 av0 w1 (pD (some (.int q.1)) (wM G ad q.2)) 0 0 (wM G ad σ) 4 [(0, .ref (ad 0)), (1, .int x1), (2, .int x2), (3, .int x3)] [] := by
  intro n
  induction n with
  | zero =>
    intro σ x1 x2 x3 hf
    cases hf
  | succ n ih =>
    intro σ x1 x2 x3 hf
    rw [f_X10_playsOf_4] at hf
    refine V_iload_n 3 rfl dX10_playsOf_4 rfl ?_
    refine V_sipush 2940 dX10_playsOf_5 (by decide) ?_
    refine V_icmp_ge 34 dX10_playsOf_8 (by decide) (fun c1 => ?_) (fun c1 => ?_)
    · replace hf := (if_pos c1).symm.trans hf
      refine V_iload_n 2 rfl dX10_playsOf_34 rfl ?_
      cases hf
      exact V_iret rfl dX10_playsOf_35 ⟨rfl, rfl⟩
    · replace hf := (if_neg c1).symm.trans hf
      refine V_iload_n 2 rfl dX10_playsOf_11 rfl ?_
      refine V_aload_n 0 rfl dX10_playsOf_12 rfl ?_
      refine V_iload_n 1 rfl dX10_playsOf_13 rfl ?_
      refine V_iload_n 3 rfl dX10_playsOf_14 rfl ?_
      obtain ⟨r1, hr1, hf⟩ := bno_some hf
      refine V_cV (As := [.int x1, .int x3]) (rest := [.int x2]) (k_X10_mayPlay (d := 5) (Nat.le_refl _) hr1) LB_X10_mayPlay lk_X10_194 (by omega) dX10_playsOf_15 rfl rfl (Nat.le_of_ble_eq_true rfl) (Nat.le_refl _) (Nat.le_refl _) 0 rfl ⟨rfl, rfl⟩ [.int (b2i r1.1), .int x2] rfl ?_
      refine V_if_eq 25 dX10_playsOf_18 (by decide) (fun c2 => ?_) (fun c2 => ?_)
      · replace hf := (if_pos c2).symm.trans hf
        refine V_iconst 0 dX10_playsOf_25 (by decide) ?_
        refine V_lv [(0, .ref (ad 0)), (1, .int x1), (3, .int x3)] [0, 1, 3] rfl ?_
        exact v_X10_playsOf_26 hd ih hf
      · replace hf := (if_neg c2).symm.trans hf
        refine V_iconst 1 dX10_playsOf_21 (by decide) ?_
        refine V_goto 26 dX10_playsOf_22 (by decide) ?_
        refine V_lv [(0, .ref (ad 0)), (1, .int x1), (3, .int x3)] [0, 1, 3] rfl ?_
        exact v_X10_playsOf_26 hd ih hf
def f_X10_playsOf (σ : St) (x1 : Int32) : Option (Int32 × St) := f_X10_playsOf_4 FU σ x1 (0) (0)
set_option maxHeartbeats 4000000 in
set_option maxRecDepth 100000 in
theorem v_X10_playsOf {l : Launch} {G : Gv} {ad : Nat → Nat} {d : Nat} {av0 : List Value} {w1 : va_W} {q : (Int32 × St)} {σ : St} {x1 : Int32} (hd : 6 ≤ d) (hf : f_X10_playsOf σ x1 = some q) : VV l G yX10_playsOf cX10_playsOf 4 (some .int) d 0 0 av0 w1 (pD (some (.int q.1)) (wM G ad q.2)) 0 0 (wM G ad σ) 0 [(0, .ref (ad 0)), (1, .int x1)] [] := by
  unfold f_X10_playsOf at hf
  refine V_iconst 0 dX10_playsOf_0 (by decide) ?_
  refine V_istore_n [(0, .ref (ad 0)), (1, .int x1), (2, .int (0))] [1, 2, 0] dX10_playsOf_1 rfl (by decide) rfl ?_
  refine V_iconst 0 dX10_playsOf_2 (by decide) ?_
  refine V_istore_n [(0, .ref (ad 0)), (1, .int x1), (2, .int (0)), (3, .int (0))] [1, 2, 3, 0] dX10_playsOf_3 rfl (by decide) rfl ?_
  exact v_X10_playsOf_4 hd _ _ _ _ _ hf
theorem k_X10_playsOf {l : Launch} {G : Gv} {ad : Nat → Nat} {d : Nat} {σ : St} {q : (Int32 × St)} {x1 : Int32} (hd : 6 ≤ d) (hf : f_X10_playsOf σ x1 = some q) : K l G yX10_playsOf cX10_playsOf 4 (some .int) d 0 0 [.ref (ad 0), .int x1] (wM G ad σ) (pD (some (.int q.1)) (wM G ad q.2)) := K_intro (by decide) (Nat.le_of_ble_eq_true rfl) (v_X10_playsOf hd hf)
def f_X10_plays (σ : St) (x1 : Int32) : Option (Int32 × St) := bno (f_X10_laysNow σ) fun r1 => bno (f_X10_isPlayer x1) fun r2 => bno (f_X10_goes r1 (b2i r2) (1) (1)) fun r3 => if (b2i r3.1) = 0 then (some ((0), r3.2)) else (bno (f_X10_playsOf r3.2 x1) fun r4 => some (r4.1, r4.2))
set_option maxHeartbeats 4000000 in
set_option maxRecDepth 100000 in
theorem v_X10_plays {l : Launch} {G : Gv} {ad : Nat → Nat} {d : Nat} {av0 : List Value} {w1 : va_W} {q : (Int32 × St)} {σ : St} {x1 : Int32} (hd : 7 ≤ d) (hf : f_X10_plays σ x1 = some q) : VV l G yX10_plays cX10_plays 2 (some .int) d 0 0 av0 w1 (pD (some (.int q.1)) (wM G ad q.2)) 0 0 (wM G ad σ) 0 [(0, .ref (ad 0)), (1, .int x1)] [] := by
  unfold f_X10_plays at hf
  refine V_aload_n 0 rfl dX10_plays_0 rfl ?_
  obtain ⟨r1, hr1, hf⟩ := bno_some hf
  refine V_cV (As := []) (rest := []) (k_X10_laysNow (d := 0) (Nat.le_refl _) hr1) LB_X10_laysNow lk_X10_130 (by omega) dX10_plays_1 rfl rfl (Nat.le_of_ble_eq_true rfl) (Nat.le_refl _) (Nat.le_refl _) 0 rfl ⟨rfl, rfl⟩ [] rfl ?_
  refine V_aload_n 0 rfl dX10_plays_4 rfl ?_
  refine V_iload_n 1 rfl dX10_plays_5 rfl ?_
  obtain ⟨r2, hr2, hf⟩ := bno_some hf
  refine V_cS (As := [.int x1]) (rest := [.ref (ad 0)]) (k_X10_isPlayer (d := 1) (Nat.le_refl _) hr2) LB_X10_isPlayer lk_X10_107 (by omega) dX10_plays_6 rfl rfl (Nat.le_of_ble_eq_true rfl) (Nat.le_refl _) (Nat.le_refl _) [.int (b2i r2), .ref (ad 0)] rfl ?_
  refine V_iconst 1 dX10_plays_9 (by decide) ?_
  refine V_iconst 1 dX10_plays_10 (by decide) ?_
  obtain ⟨r3, hr3, hf⟩ := bno_some hf
  refine V_cV (As := [.int (b2i r2), .int (1), .int (1)]) (rest := []) (k_X10_goes (d := 0) (Nat.le_refl _) hr3) LB_X10_goes lk_X10_74 (by omega) dX10_plays_11 rfl rfl (Nat.le_of_ble_eq_true rfl) (Nat.le_refl _) (Nat.le_refl _) 0 rfl ⟨rfl, rfl⟩ [.int (b2i r3.1)] rfl ?_
  refine V_if_eq 25 dX10_plays_14 (by decide) (fun c1 => ?_) (fun c1 => ?_)
  · replace hf := (if_pos c1).symm.trans hf
    refine V_iconst 0 dX10_plays_25 (by decide) ?_
    cases hf
    exact V_iret rfl dX10_plays_26 ⟨rfl, rfl⟩
  · replace hf := (if_neg c1).symm.trans hf
    refine V_aload_n 0 rfl dX10_plays_17 rfl ?_
    refine V_iload_n 1 rfl dX10_plays_18 rfl ?_
    obtain ⟨r4, hr4, hf⟩ := bno_some hf
    refine V_cV (As := [.int x1]) (rest := []) (k_X10_playsOf (d := 6) (Nat.le_refl _) hr4) LB_X10_playsOf lk_X10_197 (by omega) dX10_plays_19 rfl rfl (Nat.le_of_ble_eq_true rfl) (Nat.le_refl _) (Nat.le_refl _) 0 rfl ⟨rfl, rfl⟩ [.int r4.1] rfl ?_
    refine V_goto 26 dX10_plays_22 (by decide) ?_
    cases hf
    exact V_iret rfl dX10_plays_26 ⟨rfl, rfl⟩
theorem k_X10_plays {l : Launch} {G : Gv} {ad : Nat → Nat} {d : Nat} {σ : St} {q : (Int32 × St)} {x1 : Int32} (hd : 7 ≤ d) (hf : f_X10_plays σ x1 = some q) : K l G yX10_plays cX10_plays 2 (some .int) d 0 0 [.ref (ad 0), .int x1] (wM G ad σ) (pD (some (.int q.1)) (wM G ad q.2)) := K_intro (by decide) (Nat.le_of_ble_eq_true rfl) (v_X10_plays hd hf)
def f_X10_codeAt_38 (bk5 : St → Int32 → Int32 → Int32 → Int32 → Option (Int32 × St)) (σ : St) (x1 : Int32) (x2 : Int32) (x3 : Int32) (x4 : Int32) : Option (Int32 × St) := bk5 σ x1 x2 x3 (x4 + 1)
set_option maxHeartbeats 4000000 in
set_option maxRecDepth 100000 in
theorem v_X10_codeAt_38 {l : Launch} {G : Gv} {ad : Nat → Nat} {d : Nat} {av0 : List Value} {w1 : va_W} {q : (Int32 × St)} {bk5 : St → Int32 → Int32 → Int32 → Int32 → Option (Int32 × St)} {σ : St} {x1 : Int32} {x2 : Int32} {x3 : Int32} {x4 : Int32} (hd : 6 ≤ d) (hb5 : ∀ (σ : St) (x1 : Int32) (x2 : Int32) (x3 : Int32) (x4 : Int32), bk5 σ x1 x2 x3 x4 = some q → VV l G yX10_codeAt cX10_codeAt 5 (some .int) d 0 0 av0 w1 (pD (some (.int q.1)) (wM G ad q.2)) 0 0 (wM G ad σ) 5 [(0, .ref (ad 0)), (1, .int x1), (2, .int x2), (3, .int x3), (4, .int x4)] []) (hf : f_X10_codeAt_38 bk5 σ x1 x2 x3 x4 = some q) : VV l G yX10_codeAt cX10_codeAt 5 (some .int) d 0 0 av0 w1 (pD (some (.int q.1)) (wM G ad q.2)) 0 0 (wM G ad σ) 38 [(0, .ref (ad 0)), (1, .int x1), (2, .int x2), (3, .int x3), (4, .int x4)] [] := by
  unfold f_X10_codeAt_38 at hf
  refine V_iinc (1) 4 [(0, .ref (ad 0)), (1, .int x1), (2, .int x2), (3, .int x3), (4, .int (x4 + 1))] [1, 2, 3, 4, 0] dX10_codeAt_38 rfl (by decide) (by decide) rfl ?_
  refine V_goto 5 dX10_codeAt_41 (by decide) ?_
  exact hb5 _ _ _ _ _ hf
def f_X10_codeAt_5 : Nat → St → Int32 → Int32 → Int32 → Int32 → Option (Int32 × St)
  | 0, _, _, _, _, _ => none
  | n + 1, σ, x1, x2, x3, x4 => if (2940) ≤ x4 then (some ((-1), σ)) else (if x2 < 0 then (some ((-1), σ)) else (bno (f_X10_mayPlay σ x1 x4) fun r1 => if (b2i r1.1) = 0 then (f_X10_codeAt_38 (f_X10_codeAt_5 n) r1.2 x1 x2 x3 x4) else (if x3 = x2 then (some (x4, r1.2)) else (f_X10_codeAt_38 (f_X10_codeAt_5 n) r1.2 x1 x2 (x3 + 1) x4))))
set_option maxHeartbeats 4000000 in
set_option maxRecDepth 100000 in
theorem v_X10_codeAt_5 {l : Launch} {G : Gv} {ad : Nat → Nat} {d : Nat} {av0 : List Value} {w1 : va_W} {q : (Int32 × St)} (hd : 6 ≤ d) : ∀ (n : Nat) (σ : St) (x1 : Int32) (x2 : Int32) (x3 : Int32) (x4 : Int32), f_X10_codeAt_5 n σ x1 x2 x3 x4 = some q → VV l G yX10_codeAt cX10_codeAt 5 (some .int) d 0 0 av0 w1 (pD (some (.int q.1)) (wM G ad q.2)) 0 0 (wM G ad σ) 5 [(0, .ref (ad 0)), (1, .int x1), (2, .int x2), (3, .int x3), (4, .int x4)] [] := by
  intro n
  induction n with
  | zero =>
    intro σ x1 x2 x3 x4 hf
    cases hf
  | succ n ih =>
    intro σ x1 x2 x3 x4 hf
    rw [f_X10_codeAt_5] at hf
    refine V_iload 4 rfl dX10_codeAt_5 ?_
    refine V_sipush 2940 dX10_codeAt_7 (by decide) ?_
    refine V_icmp_ge 44 dX10_codeAt_10 (by decide) (fun c1 => ?_) (fun c1 => ?_)
    · replace hf := (if_pos c1).symm.trans hf
      refine V_iconst (-1) dX10_codeAt_44 (by decide) ?_
      cases hf
      exact V_iret rfl dX10_codeAt_45 ⟨rfl, rfl⟩
    · replace hf := (if_neg c1).symm.trans hf
      refine V_iload_n 2 rfl dX10_codeAt_13 rfl ?_
      refine V_if_lt 44 dX10_codeAt_14 (by decide) (fun c2 => ?_) (fun c2 => ?_)
      · replace hf := (if_pos c2).symm.trans hf
        refine V_iconst (-1) dX10_codeAt_44 (by decide) ?_
        cases hf
        exact V_iret rfl dX10_codeAt_45 ⟨rfl, rfl⟩
      · replace hf := (if_neg c2).symm.trans hf
        refine V_aload_n 0 rfl dX10_codeAt_17 rfl ?_
        refine V_iload_n 1 rfl dX10_codeAt_18 rfl ?_
        refine V_iload 4 rfl dX10_codeAt_19 ?_
        obtain ⟨r1, hr1, hf⟩ := bno_some hf
        refine V_cV (As := [.int x1, .int x4]) (rest := []) (k_X10_mayPlay (d := 5) (Nat.le_refl _) hr1) LB_X10_mayPlay lk_X10_194 (by omega) dX10_codeAt_21 rfl rfl (Nat.le_of_ble_eq_true rfl) (Nat.le_refl _) (Nat.le_refl _) 0 rfl ⟨rfl, rfl⟩ [.int (b2i r1.1)] rfl ?_
        refine V_if_eq 38 dX10_codeAt_24 (by decide) (fun c3 => ?_) (fun c3 => ?_)
        · replace hf := (if_pos c3).symm.trans hf
          exact v_X10_codeAt_38 hd ih hf
        · replace hf := (if_neg c3).symm.trans hf
          refine V_iload_n 3 rfl dX10_codeAt_27 rfl ?_
          refine V_iload_n 2 rfl dX10_codeAt_28 rfl ?_
          refine V_icmp_ne 35 dX10_codeAt_29 (by decide) (fun c4 => ?_) (fun c4 => ?_)
          · replace hf := (if_neg c4).symm.trans hf
            refine V_iinc (1) 3 [(0, .ref (ad 0)), (1, .int x1), (2, .int x2), (3, .int (x3 + 1)), (4, .int x4)] [1, 2, 3, 0, 4] dX10_codeAt_35 rfl (by decide) (by decide) rfl ?_
            exact v_X10_codeAt_38 hd ih hf
          · replace hf := (if_pos c4).symm.trans hf
            refine V_iload 4 rfl dX10_codeAt_32 ?_
            cases hf
            exact V_iret rfl dX10_codeAt_34 ⟨rfl, rfl⟩
def f_X10_codeAt (σ : St) (x1 : Int32) (x2 : Int32) : Option (Int32 × St) := f_X10_codeAt_5 FU σ x1 x2 (0) (0)
set_option maxHeartbeats 4000000 in
set_option maxRecDepth 100000 in
theorem v_X10_codeAt {l : Launch} {G : Gv} {ad : Nat → Nat} {d : Nat} {av0 : List Value} {w1 : va_W} {q : (Int32 × St)} {σ : St} {x1 : Int32} {x2 : Int32} (hd : 6 ≤ d) (hf : f_X10_codeAt σ x1 x2 = some q) : VV l G yX10_codeAt cX10_codeAt 5 (some .int) d 0 0 av0 w1 (pD (some (.int q.1)) (wM G ad q.2)) 0 0 (wM G ad σ) 0 [(0, .ref (ad 0)), (1, .int x1), (2, .int x2)] [] := by
  unfold f_X10_codeAt at hf
  refine V_iconst 0 dX10_codeAt_0 (by decide) ?_
  refine V_istore_n [(0, .ref (ad 0)), (1, .int x1), (2, .int x2), (3, .int (0))] [1, 2, 3, 0] dX10_codeAt_1 rfl (by decide) rfl ?_
  refine V_iconst 0 dX10_codeAt_2 (by decide) ?_
  refine V_istore [(0, .ref (ad 0)), (1, .int x1), (2, .int x2), (3, .int (0)), (4, .int (0))] [1, 2, 3, 4, 0] dX10_codeAt_3 (by decide) rfl ?_
  exact v_X10_codeAt_5 hd _ _ _ _ _ _ hf
theorem k_X10_codeAt {l : Launch} {G : Gv} {ad : Nat → Nat} {d : Nat} {σ : St} {q : (Int32 × St)} {x1 : Int32} {x2 : Int32} (hd : 6 ≤ d) (hf : f_X10_codeAt σ x1 x2 = some q) : K l G yX10_codeAt cX10_codeAt 5 (some .int) d 0 0 [.ref (ad 0), .int x1, .int x2] (wM G ad σ) (pD (some (.int q.1)) (wM G ad q.2)) := K_intro (by decide) (Nat.le_of_ble_eq_true rfl) (v_X10_codeAt hd hf)
def f_X10_playAt_35 (σ : St) (x1 : Int32) (x3 : Int32) (x4 : Int32) (s1 : Int32) : Option (Int32 × St) := bno (f_X10_in (Int32.toInt64 x3) (0) (5)) fun r1 => bno (f_X10_goes σ s1 (b2i r1) (1)) fun r2 => if (b2i r2.1) = 0 then (some ((0), r2.2)) else (lt ((x4 / (30)) - (x4 / (30)) / (49) * (49)) fun t1 => bno (f_X10_scoreBy r2.2 x4) fun r3 => if x3 = 0 then (some (((x4 / (30)) / (49)), r3.2)) else (if x3 = 1 then (some ((t1 / (7)), r3.2)) else (if x3 = 2 then (some ((t1 - t1 / (7) * (7)), r3.2)) else (if x3 = 3 then (some ((x4 - x4 / (30) * (30)), r3.2)) else (if x3 = 4 then (some (r3.1, r3.2)) else (bno (f_X10_leaveOf r3.2 x1) fun r4 => some ((r3.1 + r4), r3.2)))))))
set_option maxHeartbeats 4000000 in
set_option maxRecDepth 100000 in
theorem v_X10_playAt_35 {l : Launch} {G : Gv} {ad : Nat → Nat} {d : Nat} {av0 : List Value} {w1 : va_W} {q : (Int32 × St)} {σ : St} {x1 : Int32} {x3 : Int32} {x4 : Int32} {s1 : Int32} (hd : 7 ≤ d) (hf : f_X10_playAt_35 σ x1 x3 x4 s1 = some q) : VV l G yX10_playAt cX10_playAt 7 (some .int) d 0 0 av0 w1 (pD (some (.int q.1)) (wM G ad q.2)) 0 0 (wM G ad σ) 35 [(0, .ref (ad 0)), (1, .int x1), (3, .int x3), (4, .int x4)] [.int s1, .ref (ad 0)] := by
  unfold f_X10_playAt_35 at hf
  refine V_iload_n 2 rfl dX10_playAt_35 rfl ?_
  refine V_i2l dX10_playAt_36 ?_
  refine V_lconst 0 dX10_playAt_37 (by decide) ?_
  refine V_ldc2 (5) kc_X10_203 dX10_playAt_38 ?_
  obtain ⟨r1, hr1, hf⟩ := bno_some hf
  refine V_cS (As := [.long (Int32.toInt64 x3), .long (0), .long (5)]) (rest := [.int s1, .ref (ad 0)]) (k_X10_in (d := 0) (Nat.le_refl _) hr1) LB_X10_in lk_X10_61 (by omega) dX10_playAt_41 rfl rfl (Nat.le_of_ble_eq_true rfl) (Nat.le_refl _) (Nat.le_refl _) [.int (b2i r1), .int s1, .ref (ad 0)] rfl ?_
  refine V_iconst 1 dX10_playAt_44 (by decide) ?_
  obtain ⟨r2, hr2, hf⟩ := bno_some hf
  refine V_cV (As := [.int s1, .int (b2i r1), .int (1)]) (rest := []) (k_X10_goes (d := 0) (Nat.le_refl _) hr2) LB_X10_goes lk_X10_74 (by omega) dX10_playAt_45 rfl rfl (Nat.le_of_ble_eq_true rfl) (Nat.le_refl _) (Nat.le_refl _) 0 rfl ⟨rfl, rfl⟩ [.int (b2i r2.1)] rfl ?_
  refine V_if_ne 53 dX10_playAt_48 (by decide) (fun c1 => ?_) (fun c1 => ?_)
  · replace hf := (if_neg c1).symm.trans hf
    refine V_iload 3 rfl dX10_playAt_53 ?_
    refine V_bipush 30 dX10_playAt_55 (by decide) ?_
    refine V_idiv dX10_playAt_57 (by decide) ?_
    refine V_bipush 49 dX10_playAt_58 (by decide) ?_
    refine V_irem dX10_playAt_60 (by decide) ?_
    obtain ⟨t1, et1, hf⟩ := lt_some hf
    refine V_topi et1 ?_
    refine V_istore [(0, .ref (ad 0)), (1, .int x1), (3, .int x3), (4, .int x4), (5, .int t1)] [1, 2, 3, 4, 0] dX10_playAt_61 (by decide) rfl ?_
    refine V_aload_n 0 rfl dX10_playAt_63 rfl ?_
    refine V_iload 3 rfl dX10_playAt_64 ?_
    obtain ⟨r3, hr3, hf⟩ := bno_some hf
    refine V_cV (As := [.int x4]) (rest := []) (k_X10_scoreBy (d := 5) (Nat.le_refl _) hr3) LB_X10_scoreBy lk_X10_205 (by omega) dX10_playAt_66 rfl rfl (Nat.le_of_ble_eq_true rfl) (Nat.le_refl _) (Nat.le_refl _) 0 rfl ⟨rfl, rfl⟩ [.int r3.1] rfl ?_
    refine V_istore [(0, .ref (ad 0)), (1, .int x1), (3, .int x3), (4, .int x4), (5, .int t1), (6, .int r3.1)] [1, 2, 3, 4, 5, 0] dX10_playAt_69 (by decide) rfl ?_
    refine V_iload_n 2 rfl dX10_playAt_71 rfl ?_
    by_cases c2 : x3 = 0
    · replace hf := (if_pos c2).symm.trans hf
      refine V_tabIn 108 dX10_playAt_72 (by rw [c2]; decide) (by rw [c2]; decide) (by rw [c2]; rfl) (by decide) ?_
      refine V_iload 3 rfl dX10_playAt_108 ?_
      refine V_bipush 30 dX10_playAt_110 (by decide) ?_
      refine V_idiv dX10_playAt_112 (by decide) ?_
      refine V_bipush 49 dX10_playAt_113 (by decide) ?_
      refine V_idiv dX10_playAt_115 (by decide) ?_
      cases hf
      exact V_iret rfl dX10_playAt_116 ⟨rfl, rfl⟩
    · replace hf := (if_neg c2).symm.trans hf
      by_cases c3 : x3 = 1
      · replace hf := (if_pos c3).symm.trans hf
        refine V_tabIn 117 dX10_playAt_72 (by rw [c3]; decide) (by rw [c3]; decide) (by rw [c3]; rfl) (by decide) ?_
        refine V_iload 4 rfl dX10_playAt_117 ?_
        refine V_bipush 7 dX10_playAt_119 (by decide) ?_
        refine V_idiv dX10_playAt_121 (by decide) ?_
        cases hf
        exact V_iret rfl dX10_playAt_122 ⟨rfl, rfl⟩
      · replace hf := (if_neg c3).symm.trans hf
        by_cases c4 : x3 = 2
        · replace hf := (if_pos c4).symm.trans hf
          refine V_tabIn 123 dX10_playAt_72 (by rw [c4]; decide) (by rw [c4]; decide) (by rw [c4]; rfl) (by decide) ?_
          refine V_iload 4 rfl dX10_playAt_123 ?_
          refine V_bipush 7 dX10_playAt_125 (by decide) ?_
          refine V_irem dX10_playAt_127 (by decide) ?_
          cases hf
          exact V_iret rfl dX10_playAt_128 ⟨rfl, rfl⟩
        · replace hf := (if_neg c4).symm.trans hf
          by_cases c5 : x3 = 3
          · replace hf := (if_pos c5).symm.trans hf
            refine V_tabIn 129 dX10_playAt_72 (by rw [c5]; decide) (by rw [c5]; decide) (by rw [c5]; rfl) (by decide) ?_
            refine V_iload 3 rfl dX10_playAt_129 ?_
            refine V_bipush 30 dX10_playAt_131 (by decide) ?_
            refine V_irem dX10_playAt_133 (by decide) ?_
            cases hf
            exact V_iret rfl dX10_playAt_134 ⟨rfl, rfl⟩
          · replace hf := (if_neg c5).symm.trans hf
            by_cases c6 : x3 = 4
            · replace hf := (if_pos c6).symm.trans hf
              refine V_tabIn 135 dX10_playAt_72 (by rw [c6]; decide) (by rw [c6]; decide) (by rw [c6]; rfl) (by decide) ?_
              refine V_iload 5 rfl dX10_playAt_135 ?_
              cases hf
              exact V_iret rfl dX10_playAt_137 ⟨rfl, rfl⟩
            · replace hf := (if_neg c6).symm.trans hf
              refine V_tabOut 138 dX10_playAt_72 (sw_out5 c2 c3 c4 c5 c6) (by decide) ?_
              refine V_iload 5 rfl dX10_playAt_138 ?_
              refine V_aload_n 0 rfl dX10_playAt_140 rfl ?_
              refine V_iload_n 1 rfl dX10_playAt_141 rfl ?_
              obtain ⟨r4, hr4, hf⟩ := bno_some hf
              refine V_cV (As := [.int x1]) (rest := [.int r3.1]) (k_X10_leaveOf (d := 0) (Nat.le_refl _) hr4) LB_X10_leaveOf lk_X10_208 (by omega) dX10_playAt_142 rfl rfl (Nat.le_of_ble_eq_true rfl) (Nat.le_refl _) (Nat.le_refl _) 0 rfl ⟨rfl, rfl⟩ [.int r4, .int r3.1] rfl ?_
              refine V_iadd dX10_playAt_145 ?_
              cases hf
              exact V_iret rfl dX10_playAt_146 ⟨rfl, rfl⟩
  · replace hf := (if_pos c1).symm.trans hf
    refine V_iconst 0 dX10_playAt_51 (by decide) ?_
    cases hf
    exact V_iret rfl dX10_playAt_52 ⟨rfl, rfl⟩
def f_X10_playAt_21 (σ : St) (x1 : Int32) (x3 : Int32) (s0 : Int32) : Option (Int32 × St) := if s0 = (-1) then (f_X10_playAt_35 σ x1 x3 s0 (0)) else (f_X10_playAt_35 σ x1 x3 s0 (1))
set_option maxHeartbeats 4000000 in
set_option maxRecDepth 100000 in
theorem v_X10_playAt_21 {l : Launch} {G : Gv} {ad : Nat → Nat} {d : Nat} {av0 : List Value} {w1 : va_W} {q : (Int32 × St)} {σ : St} {x1 : Int32} {x3 : Int32} {s0 : Int32} (hd : 7 ≤ d) (hf : f_X10_playAt_21 σ x1 x3 s0 = some q) : VV l G yX10_playAt cX10_playAt 7 (some .int) d 0 0 av0 w1 (pD (some (.int q.1)) (wM G ad q.2)) 0 0 (wM G ad σ) 21 [(0, .ref (ad 0)), (1, .int x1), (3, .int x3)] [.int s0] := by
  unfold f_X10_playAt_21 at hf
  refine V_istore [(0, .ref (ad 0)), (1, .int x1), (3, .int x3), (4, .int s0)] [1, 2, 3, 0] dX10_playAt_21 (by decide) rfl ?_
  refine V_aload_n 0 rfl dX10_playAt_23 rfl ?_
  refine V_iload 3 rfl dX10_playAt_24 ?_
  refine V_iconst (-1) dX10_playAt_26 (by decide) ?_
  refine V_icmp_eq 34 dX10_playAt_27 (by decide) (fun c1 => ?_) (fun c1 => ?_)
  · replace hf := (if_pos c1).symm.trans hf
    refine V_iconst 0 dX10_playAt_34 (by decide) ?_
    exact v_X10_playAt_35 hd hf
  · replace hf := (if_neg c1).symm.trans hf
    refine V_iconst 1 dX10_playAt_30 (by decide) ?_
    refine V_goto 35 dX10_playAt_31 (by decide) ?_
    exact v_X10_playAt_35 hd hf
def f_X10_playAt (σ : St) (x1 : Int32) (x2 : Int32) (x3 : Int32) : Option (Int32 × St) := bno (f_X10_laysNow σ) fun r1 => bno (f_X10_isPlayer x1) fun r2 => if (b2i r2) = 0 then (f_X10_playAt_21 r1 x1 x3 (-1)) else (bno (f_X10_codeAt r1 x1 x2) fun r3 => f_X10_playAt_21 r3.2 x1 x3 r3.1)
set_option maxHeartbeats 4000000 in
set_option maxRecDepth 100000 in
theorem v_X10_playAt {l : Launch} {G : Gv} {ad : Nat → Nat} {d : Nat} {av0 : List Value} {w1 : va_W} {q : (Int32 × St)} {σ : St} {x1 : Int32} {x2 : Int32} {x3 : Int32} (hd : 7 ≤ d) (hf : f_X10_playAt σ x1 x2 x3 = some q) : VV l G yX10_playAt cX10_playAt 7 (some .int) d 0 0 av0 w1 (pD (some (.int q.1)) (wM G ad q.2)) 0 0 (wM G ad σ) 0 [(0, .ref (ad 0)), (1, .int x1), (2, .int x2), (3, .int x3)] [] := by
  unfold f_X10_playAt at hf
  refine V_aload_n 0 rfl dX10_playAt_0 rfl ?_
  obtain ⟨r1, hr1, hf⟩ := bno_some hf
  refine V_cV (As := []) (rest := []) (k_X10_laysNow (d := 0) (Nat.le_refl _) hr1) LB_X10_laysNow lk_X10_130 (by omega) dX10_playAt_1 rfl rfl (Nat.le_of_ble_eq_true rfl) (Nat.le_refl _) (Nat.le_refl _) 0 rfl ⟨rfl, rfl⟩ [] rfl ?_
  refine V_iload_n 1 rfl dX10_playAt_4 rfl ?_
  obtain ⟨r2, hr2, hf⟩ := bno_some hf
  refine V_cS (As := [.int x1]) (rest := []) (k_X10_isPlayer (d := 1) (Nat.le_refl _) hr2) LB_X10_isPlayer lk_X10_107 (by omega) dX10_playAt_5 rfl rfl (Nat.le_of_ble_eq_true rfl) (Nat.le_refl _) (Nat.le_refl _) [.int (b2i r2)] rfl ?_
  refine V_if_eq 20 dX10_playAt_8 (by decide) (fun c1 => ?_) (fun c1 => ?_)
  · replace hf := (if_pos c1).symm.trans hf
    refine V_iconst (-1) dX10_playAt_20 (by decide) ?_
    refine V_lv [(0, .ref (ad 0)), (1, .int x1), (3, .int x3)] [0, 1, 3] rfl ?_
    exact v_X10_playAt_21 hd hf
  · replace hf := (if_neg c1).symm.trans hf
    refine V_aload_n 0 rfl dX10_playAt_11 rfl ?_
    refine V_iload_n 1 rfl dX10_playAt_12 rfl ?_
    refine V_iload_n 2 rfl dX10_playAt_13 rfl ?_
    obtain ⟨r3, hr3, hf⟩ := bno_some hf
    refine V_cV (As := [.int x1, .int x2]) (rest := []) (k_X10_codeAt (d := 6) (Nat.le_refl _) hr3) LB_X10_codeAt lk_X10_200 (by omega) dX10_playAt_14 rfl rfl (Nat.le_of_ble_eq_true rfl) (Nat.le_refl _) (Nat.le_refl _) 0 rfl ⟨rfl, rfl⟩ [.int r3.1] rfl ?_
    refine V_goto 21 dX10_playAt_17 (by decide) ?_
    refine V_lv [(0, .ref (ad 0)), (1, .int x1), (3, .int x3)] [0, 1, 3] rfl ?_
    exact v_X10_playAt_21 hd hf
theorem k_X10_playAt {l : Launch} {G : Gv} {ad : Nat → Nat} {d : Nat} {σ : St} {q : (Int32 × St)} {x1 : Int32} {x2 : Int32} {x3 : Int32} (hd : 7 ≤ d) (hf : f_X10_playAt σ x1 x2 x3 = some q) : K l G yX10_playAt cX10_playAt 7 (some .int) d 0 0 [.ref (ad 0), .int x1, .int x2, .int x3] (wM G ad σ) (pD (some (.int q.1)) (wM G ad q.2)) := K_intro (by decide) (Nat.le_of_ble_eq_true rfl) (v_X10_playAt hd hf)
def f_X10_findsBest_80 (bk17 : St → Int32 → Int32 → Int32 → Int32 → Option St) (σ : St) (x1 : Int32) (x2 : Int32) (x3 : Int32) (x4 : Int32) : Option St := bk17 σ x1 x2 x3 (x4 + 1)
set_option maxHeartbeats 4000000 in
set_option maxRecDepth 100000 in
theorem v_X10_findsBest_80 {l : Launch} {G : Gv} {ad : Nat → Nat} {d : Nat} {av0 : List Value} {w1 : va_W} {q : St} {bk17 : St → Int32 → Int32 → Int32 → Int32 → Option St} {σ : St} {x1 : Int32} {x2 : Int32} {x3 : Int32} {x4 : Int32} (hd : 6 ≤ d) (hb17 : ∀ (σ : St) (x1 : Int32) (x2 : Int32) (x3 : Int32) (x4 : Int32), bk17 σ x1 x2 x3 x4 = some q → VV l G yX10_findsBest cX10_findsBest 6 none d 0 0 av0 w1 (pD none (wM G ad q)) 0 0 (wM G ad σ) 17 [(0, .ref (ad 0)), (1, .int x1), (2, .int x2), (3, .int x3), (4, .int x4)] []) (hf : f_X10_findsBest_80 bk17 σ x1 x2 x3 x4 = some q) : VV l G yX10_findsBest cX10_findsBest 6 none d 0 0 av0 w1 (pD none (wM G ad q)) 0 0 (wM G ad σ) 80 [(0, .ref (ad 0)), (1, .int x1), (2, .int x2), (3, .int x3), (4, .int x4)] [] := by
  unfold f_X10_findsBest_80 at hf
  refine V_iinc (1) 4 [(0, .ref (ad 0)), (1, .int x1), (2, .int x2), (3, .int x3), (4, .int (x4 + 1))] [1, 2, 3, 4, 0] dX10_findsBest_80 rfl (by decide) (by decide) rfl ?_
  refine V_goto 17 dX10_findsBest_83 (by decide) ?_
  exact hb17 _ _ _ _ _ hf
def f_X10_findsBest_77 (bk17 : St → Int32 → Int32 → Int32 → Int32 → Option St) (σ : St) (x1 : Int32) (x2 : Int32) (x3 : Int32) (x4 : Int32) : Option St := f_X10_findsBest_80 bk17 σ x1 x2 (x3 + 1) x4
set_option maxHeartbeats 4000000 in
set_option maxRecDepth 100000 in
theorem v_X10_findsBest_77 {l : Launch} {G : Gv} {ad : Nat → Nat} {d : Nat} {av0 : List Value} {w1 : va_W} {q : St} {bk17 : St → Int32 → Int32 → Int32 → Int32 → Option St} {σ : St} {x1 : Int32} {x2 : Int32} {x3 : Int32} {x4 : Int32} (hd : 6 ≤ d) (hb17 : ∀ (σ : St) (x1 : Int32) (x2 : Int32) (x3 : Int32) (x4 : Int32), bk17 σ x1 x2 x3 x4 = some q → VV l G yX10_findsBest cX10_findsBest 6 none d 0 0 av0 w1 (pD none (wM G ad q)) 0 0 (wM G ad σ) 17 [(0, .ref (ad 0)), (1, .int x1), (2, .int x2), (3, .int x3), (4, .int x4)] []) (hf : f_X10_findsBest_77 bk17 σ x1 x2 x3 x4 = some q) : VV l G yX10_findsBest cX10_findsBest 6 none d 0 0 av0 w1 (pD none (wM G ad q)) 0 0 (wM G ad σ) 77 [(0, .ref (ad 0)), (1, .int x1), (2, .int x2), (3, .int x3), (4, .int x4)] [] := by
  unfold f_X10_findsBest_77 at hf
  refine V_iinc (1) 3 [(0, .ref (ad 0)), (1, .int x1), (2, .int x2), (3, .int (x3 + 1)), (4, .int x4)] [1, 2, 3, 0, 4] dX10_findsBest_77 rfl (by decide) (by decide) rfl ?_
  exact v_X10_findsBest_80 hd hb17 hf
def f_X10_findsBest_63 (bk17 : St → Int32 → Int32 → Int32 → Int32 → Option St) (σ : St) (x1 : Int32) (x3 : Int32) (x4 : Int32) (x5 : Int32) : Option St := lt (si σ 16 x3) fun σ1 => lt (si σ1 17 x4) fun σ2 => f_X10_findsBest_77 bk17 σ2 x1 x5 x3 x4
set_option maxHeartbeats 4000000 in
set_option maxRecDepth 100000 in
theorem v_X10_findsBest_63 {l : Launch} {G : Gv} {ad : Nat → Nat} {d : Nat} {av0 : List Value} {w1 : va_W} {q : St} {bk17 : St → Int32 → Int32 → Int32 → Int32 → Option St} {σ : St} {x1 : Int32} {x3 : Int32} {x4 : Int32} {x5 : Int32} (hd : 6 ≤ d) (hb17 : ∀ (σ : St) (x1 : Int32) (x2 : Int32) (x3 : Int32) (x4 : Int32), bk17 σ x1 x2 x3 x4 = some q → VV l G yX10_findsBest cX10_findsBest 6 none d 0 0 av0 w1 (pD none (wM G ad q)) 0 0 (wM G ad σ) 17 [(0, .ref (ad 0)), (1, .int x1), (2, .int x2), (3, .int x3), (4, .int x4)] []) (hf : f_X10_findsBest_63 bk17 σ x1 x3 x4 x5 = some q) : VV l G yX10_findsBest cX10_findsBest 6 none d 0 0 av0 w1 (pD none (wM G ad q)) 0 0 (wM G ad σ) 63 [(0, .ref (ad 0)), (1, .int x1), (3, .int x3), (4, .int x4), (5, .int x5)] [] := by
  unfold f_X10_findsBest_63 at hf
  refine V_aload_n 0 rfl dX10_findsBest_63 rfl ?_
  refine V_iload_n 2 rfl dX10_findsBest_64 rfl ?_
  obtain ⟨σ1, eσ1, hf⟩ := lt_some hf
  refine V_put (k := 16) RC_X10 fl_X10_211 rfl (by decide) rfl dX10_findsBest_65 0 rfl (Nat.le_of_ble_eq_true rfl) rfl rfl (wM G ad σ1) (by rw [eσ1]; rfl) ?_
  refine V_aload_n 0 rfl dX10_findsBest_68 rfl ?_
  refine V_iload 3 rfl dX10_findsBest_69 ?_
  obtain ⟨σ2, eσ2, hf⟩ := lt_some hf
  refine V_put (k := 17) RC_X10 fl_X10_214 rfl (by decide) rfl dX10_findsBest_71 0 rfl (Nat.le_of_ble_eq_true rfl) rfl rfl (wM G ad σ2) (by rw [eσ2]; rfl) ?_
  refine V_iload 4 rfl dX10_findsBest_74 ?_
  refine V_istore_n [(0, .ref (ad 0)), (1, .int x1), (2, .int x5), (3, .int x3), (4, .int x4), (5, .int x5)] [1, 2, 0, 3, 4, 5] dX10_findsBest_76 rfl (by decide) rfl ?_
  refine V_lv [(0, .ref (ad 0)), (1, .int x1), (2, .int x5), (3, .int x3), (4, .int x4)] [0, 1, 2, 3, 4] rfl ?_
  exact v_X10_findsBest_77 hd hb17 hf
def f_X10_findsBest_17 : Nat → St → Int32 → Int32 → Int32 → Int32 → Option St
  | 0, _, _, _, _, _ => none
  | n + 1, σ, x1, x2, x3, x4 => if (2940) ≤ x4 then (some σ) else (bno (f_X10_mayPlay σ x1 x4) fun r1 => if (b2i r1.1) = 0 then (f_X10_findsBest_80 (f_X10_findsBest_17 n) r1.2 x1 x2 x3 x4) else (bno (f_X10_scoreBy r1.2 x4) fun r2 => bno (f_X10_leaveOf r2.2 x1) fun r3 => if (gi r2.2 16) = (-1) then (f_X10_findsBest_63 (f_X10_findsBest_17 n) r2.2 x1 x3 x4 (r2.1 + r3)) else (if (r2.1 + r3) ≤ x2 then (f_X10_findsBest_77 (f_X10_findsBest_17 n) r2.2 x1 x2 x3 x4) else (f_X10_findsBest_63 (f_X10_findsBest_17 n) r2.2 x1 x3 x4 (r2.1 + r3)))))
set_option maxHeartbeats 4000000 in
set_option maxRecDepth 100000 in
theorem v_X10_findsBest_17 {l : Launch} {G : Gv} {ad : Nat → Nat} {d : Nat} {av0 : List Value} {w1 : va_W} {q : St} (hd : 6 ≤ d) : ∀ (n : Nat) (σ : St) (x1 : Int32) (x2 : Int32) (x3 : Int32) (x4 : Int32), f_X10_findsBest_17 n σ x1 x2 x3 x4 = some q → VV l G yX10_findsBest cX10_findsBest 6 none d 0 0 av0 w1 (pD none (wM G ad q)) 0 0 (wM G ad σ) 17 [(0, .ref (ad 0)), (1, .int x1), (2, .int x2), (3, .int x3), (4, .int x4)] [] := by
  intro n
  induction n with
  | zero =>
    intro σ x1 x2 x3 x4 hf
    cases hf
  | succ n ih =>
    intro σ x1 x2 x3 x4 hf
    rw [f_X10_findsBest_17] at hf
    refine V_iload 4 rfl dX10_findsBest_17 ?_
    refine V_sipush 2940 dX10_findsBest_19 (by decide) ?_
    refine V_icmp_ge 86 dX10_findsBest_22 (by decide) (fun c1 => ?_) (fun c1 => ?_)
    · replace hf := (if_pos c1).symm.trans hf
      cases hf
      exact V_vret rfl dX10_findsBest_86 ⟨rfl, rfl⟩
    · replace hf := (if_neg c1).symm.trans hf
      refine V_aload_n 0 rfl dX10_findsBest_25 rfl ?_
      refine V_iload_n 1 rfl dX10_findsBest_26 rfl ?_
      refine V_iload 4 rfl dX10_findsBest_27 ?_
      obtain ⟨r1, hr1, hf⟩ := bno_some hf
      refine V_cV (As := [.int x1, .int x4]) (rest := []) (k_X10_mayPlay (d := 5) (Nat.le_refl _) hr1) LB_X10_mayPlay lk_X10_194 (by omega) dX10_findsBest_29 rfl rfl (Nat.le_of_ble_eq_true rfl) (Nat.le_refl _) (Nat.le_refl _) 0 rfl ⟨rfl, rfl⟩ [.int (b2i r1.1)] rfl ?_
      refine V_if_eq 80 dX10_findsBest_32 (by decide) (fun c2 => ?_) (fun c2 => ?_)
      · replace hf := (if_pos c2).symm.trans hf
        exact v_X10_findsBest_80 hd ih hf
      · replace hf := (if_neg c2).symm.trans hf
        refine V_aload_n 0 rfl dX10_findsBest_35 rfl ?_
        refine V_iload 4 rfl dX10_findsBest_36 ?_
        obtain ⟨r2, hr2, hf⟩ := bno_some hf
        refine V_cV (As := [.int x4]) (rest := []) (k_X10_scoreBy (d := 5) (Nat.le_refl _) hr2) LB_X10_scoreBy lk_X10_205 (by omega) dX10_findsBest_38 rfl rfl (Nat.le_of_ble_eq_true rfl) (Nat.le_refl _) (Nat.le_refl _) 0 rfl ⟨rfl, rfl⟩ [.int r2.1] rfl ?_
        refine V_aload_n 0 rfl dX10_findsBest_41 rfl ?_
        refine V_iload_n 1 rfl dX10_findsBest_42 rfl ?_
        obtain ⟨r3, hr3, hf⟩ := bno_some hf
        refine V_cV (As := [.int x1]) (rest := [.int r2.1]) (k_X10_leaveOf (d := 0) (Nat.le_refl _) hr3) LB_X10_leaveOf lk_X10_208 (by omega) dX10_findsBest_43 rfl rfl (Nat.le_of_ble_eq_true rfl) (Nat.le_refl _) (Nat.le_refl _) 0 rfl ⟨rfl, rfl⟩ [.int r3, .int r2.1] rfl ?_
        refine V_iadd dX10_findsBest_46 ?_
        refine V_istore [(0, .ref (ad 0)), (1, .int x1), (2, .int x2), (3, .int x3), (4, .int x4), (5, .int (r2.1 + r3))] [1, 2, 3, 4, 5, 0] dX10_findsBest_47 (by decide) rfl ?_
        refine V_aload_n 0 rfl dX10_findsBest_49 rfl ?_
        refine V_get (k := 16) RC_X10 fl_X10_211 rfl (by decide) dX10_findsBest_50 0 rfl rfl ?_
        refine V_iconst (-1) dX10_findsBest_53 (by decide) ?_
        refine V_icmp_eq 63 dX10_findsBest_54 (by decide) (fun c3 => ?_) (fun c3 => ?_)
        · replace hf := (if_pos c3).symm.trans hf
          refine V_lv [(0, .ref (ad 0)), (1, .int x1), (3, .int x3), (4, .int x4), (5, .int (r2.1 + r3))] [0, 1, 3, 4, 5] rfl ?_
          exact v_X10_findsBest_63 hd ih hf
        · replace hf := (if_neg c3).symm.trans hf
          refine V_iload 5 rfl dX10_findsBest_57 ?_
          refine V_iload_n 2 rfl dX10_findsBest_59 rfl ?_
          refine V_icmp_le 77 dX10_findsBest_60 (by decide) (fun c4 => ?_) (fun c4 => ?_)
          · replace hf := (if_pos c4).symm.trans hf
            refine V_lv [(0, .ref (ad 0)), (1, .int x1), (2, .int x2), (3, .int x3), (4, .int x4)] [0, 1, 2, 3, 4] rfl ?_
            exact v_X10_findsBest_77 hd ih hf
          · replace hf := (if_neg c4).symm.trans hf
            refine V_lv [(0, .ref (ad 0)), (1, .int x1), (3, .int x3), (4, .int x4), (5, .int (r2.1 + r3))] [0, 1, 3, 4, 5] rfl ?_
            exact v_X10_findsBest_63 hd ih hf
def f_X10_findsBest (σ : St) (x1 : Int32) : Option St := lt (si σ 16 (-1)) fun σ1 => lt (si σ1 17 (-1)) fun σ2 => f_X10_findsBest_17 FU σ2 x1 (0) (0) (0)
set_option maxHeartbeats 4000000 in
set_option maxRecDepth 100000 in
theorem v_X10_findsBest {l : Launch} {G : Gv} {ad : Nat → Nat} {d : Nat} {av0 : List Value} {w1 : va_W} {q : St} {σ : St} {x1 : Int32} (hd : 6 ≤ d) (hf : f_X10_findsBest σ x1 = some q) : VV l G yX10_findsBest cX10_findsBest 6 none d 0 0 av0 w1 (pD none (wM G ad q)) 0 0 (wM G ad σ) 0 [(0, .ref (ad 0)), (1, .int x1)] [] := by
  unfold f_X10_findsBest at hf
  refine V_aload_n 0 rfl dX10_findsBest_0 rfl ?_
  refine V_iconst (-1) dX10_findsBest_1 (by decide) ?_
  obtain ⟨σ1, eσ1, hf⟩ := lt_some hf
  refine V_put (k := 16) RC_X10 fl_X10_211 rfl (by decide) rfl dX10_findsBest_2 0 rfl (Nat.le_of_ble_eq_true rfl) rfl rfl (wM G ad σ1) (by rw [eσ1]; rfl) ?_
  refine V_aload_n 0 rfl dX10_findsBest_5 rfl ?_
  refine V_iconst (-1) dX10_findsBest_6 (by decide) ?_
  obtain ⟨σ2, eσ2, hf⟩ := lt_some hf
  refine V_put (k := 17) RC_X10 fl_X10_214 rfl (by decide) rfl dX10_findsBest_7 0 rfl (Nat.le_of_ble_eq_true rfl) rfl rfl (wM G ad σ2) (by rw [eσ2]; rfl) ?_
  refine V_iconst 0 dX10_findsBest_10 (by decide) ?_
  refine V_istore_n [(0, .ref (ad 0)), (1, .int x1), (2, .int (0))] [1, 2, 0] dX10_findsBest_11 rfl (by decide) rfl ?_
  refine V_iconst 0 dX10_findsBest_12 (by decide) ?_
  refine V_istore_n [(0, .ref (ad 0)), (1, .int x1), (2, .int (0)), (3, .int (0))] [1, 2, 3, 0] dX10_findsBest_13 rfl (by decide) rfl ?_
  refine V_iconst 0 dX10_findsBest_14 (by decide) ?_
  refine V_istore [(0, .ref (ad 0)), (1, .int x1), (2, .int (0)), (3, .int (0)), (4, .int (0))] [1, 2, 3, 4, 0] dX10_findsBest_15 (by decide) rfl ?_
  exact v_X10_findsBest_17 hd _ _ _ _ _ _ hf
theorem k_X10_findsBest {l : Launch} {G : Gv} {ad : Nat → Nat} {d : Nat} {σ : St} {q : St} {x1 : Int32} (hd : 6 ≤ d) (hf : f_X10_findsBest σ x1 = some q) : K l G yX10_findsBest cX10_findsBest 6 none d 0 0 [.ref (ad 0), .int x1] (wM G ad σ) (pD none (wM G ad q)) := K_intro (by decide) (Nat.le_of_ble_eq_true rfl) (v_X10_findsBest hd hf)
def f_X10_bestPlay (σ : St) (x1 : Int32) : Option (Int32 × St) := bno (f_X10_isPlayer x1) fun r1 => bno (f_X10_goes σ (b2i r1) (1) (1)) fun r2 => if (b2i r2.1) = 0 then (some ((0), r2.2)) else (bno (f_X10_laysNow r2.2) fun r3 => bno (f_X10_findsBest r3 x1) fun r4 => some ((gi r4 16), r4))
set_option maxHeartbeats 4000000 in
set_option maxRecDepth 100000 in
theorem v_X10_bestPlay {l : Launch} {G : Gv} {ad : Nat → Nat} {d : Nat} {av0 : List Value} {w1 : va_W} {q : (Int32 × St)} {σ : St} {x1 : Int32} (hd : 7 ≤ d) (hf : f_X10_bestPlay σ x1 = some q) : VV l G yX10_bestPlay cX10_bestPlay 2 (some .int) d 0 0 av0 w1 (pD (some (.int q.1)) (wM G ad q.2)) 0 0 (wM G ad σ) 0 [(0, .ref (ad 0)), (1, .int x1)] [] := by
  unfold f_X10_bestPlay at hf
  refine V_aload_n 0 rfl dX10_bestPlay_0 rfl ?_
  refine V_iload_n 1 rfl dX10_bestPlay_1 rfl ?_
  obtain ⟨r1, hr1, hf⟩ := bno_some hf
  refine V_cS (As := [.int x1]) (rest := [.ref (ad 0)]) (k_X10_isPlayer (d := 1) (Nat.le_refl _) hr1) LB_X10_isPlayer lk_X10_107 (by omega) dX10_bestPlay_2 rfl rfl (Nat.le_of_ble_eq_true rfl) (Nat.le_refl _) (Nat.le_refl _) [.int (b2i r1), .ref (ad 0)] rfl ?_
  refine V_iconst 1 dX10_bestPlay_5 (by decide) ?_
  refine V_iconst 1 dX10_bestPlay_6 (by decide) ?_
  obtain ⟨r2, hr2, hf⟩ := bno_some hf
  refine V_cV (As := [.int (b2i r1), .int (1), .int (1)]) (rest := []) (k_X10_goes (d := 0) (Nat.le_refl _) hr2) LB_X10_goes lk_X10_74 (by omega) dX10_bestPlay_7 rfl rfl (Nat.le_of_ble_eq_true rfl) (Nat.le_refl _) (Nat.le_refl _) 0 rfl ⟨rfl, rfl⟩ [.int (b2i r2.1)] rfl ?_
  refine V_if_ne 15 dX10_bestPlay_10 (by decide) (fun c1 => ?_) (fun c1 => ?_)
  · replace hf := (if_neg c1).symm.trans hf
    refine V_aload_n 0 rfl dX10_bestPlay_15 rfl ?_
    obtain ⟨r3, hr3, hf⟩ := bno_some hf
    refine V_cV (As := []) (rest := []) (k_X10_laysNow (d := 0) (Nat.le_refl _) hr3) LB_X10_laysNow lk_X10_130 (by omega) dX10_bestPlay_16 rfl rfl (Nat.le_of_ble_eq_true rfl) (Nat.le_refl _) (Nat.le_refl _) 0 rfl ⟨rfl, rfl⟩ [] rfl ?_
    refine V_aload_n 0 rfl dX10_bestPlay_19 rfl ?_
    refine V_iload_n 1 rfl dX10_bestPlay_20 rfl ?_
    obtain ⟨r4, hr4, hf⟩ := bno_some hf
    refine V_cV (As := [.int x1]) (rest := []) (k_X10_findsBest (d := 6) (Nat.le_refl _) hr4) LB_X10_findsBest lk_X10_217 (by omega) dX10_bestPlay_21 rfl rfl (Nat.le_of_ble_eq_true rfl) (Nat.le_refl _) (Nat.le_refl _) 0 rfl ⟨rfl, rfl⟩ [] rfl ?_
    refine V_aload_n 0 rfl dX10_bestPlay_24 rfl ?_
    refine V_get (k := 16) RC_X10 fl_X10_211 rfl (by decide) dX10_bestPlay_25 0 rfl rfl ?_
    cases hf
    exact V_iret rfl dX10_bestPlay_28 ⟨rfl, rfl⟩
  · replace hf := (if_pos c1).symm.trans hf
    refine V_iconst 0 dX10_bestPlay_13 (by decide) ?_
    cases hf
    exact V_iret rfl dX10_bestPlay_14 ⟨rfl, rfl⟩
theorem k_X10_bestPlay {l : Launch} {G : Gv} {ad : Nat → Nat} {d : Nat} {σ : St} {q : (Int32 × St)} {x1 : Int32} (hd : 7 ≤ d) (hf : f_X10_bestPlay σ x1 = some q) : K l G yX10_bestPlay cX10_bestPlay 2 (some .int) d 0 0 [.ref (ad 0), .int x1] (wM G ad σ) (pD (some (.int q.1)) (wM G ad q.2)) := K_intro (by decide) (Nat.le_of_ble_eq_true rfl) (v_X10_bestPlay hd hf)
def f_X10_playBest_34 (σ : St) (x1 : Int32) (s1 : Int32) (s2 : Int32) : Option (Int32 × St) := bno (f_X10_goes σ s1 s2 (1)) fun r1 => if (b2i r1.1) = 0 then (some ((0), r1.2)) else (bno (f_X10_save r1.2) fun r2 => bno (f_X10_mayPlay r2 x1 (gi r2 17)) fun r3 => lt (((gi r3.2 17) / (30)) - ((gi r3.2 17) / (30)) / (49) * (49)) fun t1 => bno (f_X10_makes r3.2 x1 (((gi r3.2 17) / (30)) / (49)) (t1 / (7)) (t1 - t1 / (7) * (7))) fun r4 => some (r4.1, r4.2))
set_option maxHeartbeats 4000000 in
set_option maxRecDepth 100000 in
theorem v_X10_playBest_34 {l : Launch} {G : Gv} {ad : Nat → Nat} {d : Nat} {av0 : List Value} {w1 : va_W} {q : (Int32 × St)} {σ : St} {x1 : Int32} {s1 : Int32} {s2 : Int32} (hd : 7 ≤ d) (hf : f_X10_playBest_34 σ x1 s1 s2 = some q) : VV l G yX10_playBest cX10_playBest 4 (some .int) d 0 0 av0 w1 (pD (some (.int q.1)) (wM G ad q.2)) 0 0 (wM G ad σ) 34 [(0, .ref (ad 0)), (1, .int x1)] [.int s2, .int s1, .ref (ad 0)] := by
  unfold f_X10_playBest_34 at hf
  refine V_iconst 1 dX10_playBest_34 (by decide) ?_
  obtain ⟨r1, hr1, hf⟩ := bno_some hf
  refine V_cV (As := [.int s1, .int s2, .int (1)]) (rest := []) (k_X10_goes (d := 0) (Nat.le_refl _) hr1) LB_X10_goes lk_X10_74 (by omega) dX10_playBest_35 rfl rfl (Nat.le_of_ble_eq_true rfl) (Nat.le_refl _) (Nat.le_refl _) 0 rfl ⟨rfl, rfl⟩ [.int (b2i r1.1)] rfl ?_
  refine V_if_ne 43 dX10_playBest_38 (by decide) (fun c1 => ?_) (fun c1 => ?_)
  · replace hf := (if_neg c1).symm.trans hf
    refine V_aload_n 0 rfl dX10_playBest_43 rfl ?_
    obtain ⟨r2, hr2, hf⟩ := bno_some hf
    refine V_cV (As := []) (rest := []) (k_X10_save (d := 0) (Nat.le_refl _) hr2) LB_X10_save lk_X10_85 (by omega) dX10_playBest_44 rfl rfl (Nat.le_of_ble_eq_true rfl) (Nat.le_refl _) (Nat.le_refl _) 0 rfl ⟨rfl, rfl⟩ [] rfl ?_
    refine V_aload_n 0 rfl dX10_playBest_47 rfl ?_
    refine V_iload_n 1 rfl dX10_playBest_48 rfl ?_
    refine V_aload_n 0 rfl dX10_playBest_49 rfl ?_
    refine V_get (k := 17) RC_X10 fl_X10_214 rfl (by decide) dX10_playBest_50 0 rfl rfl ?_
    obtain ⟨r3, hr3, hf⟩ := bno_some hf
    refine V_cV (As := [.int x1, .int (gi r2 17)]) (rest := []) (k_X10_mayPlay (d := 5) (Nat.le_refl _) hr3) LB_X10_mayPlay lk_X10_194 (by omega) dX10_playBest_53 rfl rfl (Nat.le_of_ble_eq_true rfl) (Nat.le_refl _) (Nat.le_refl _) 0 rfl ⟨rfl, rfl⟩ [.int (b2i r3.1)] rfl ?_
    refine V_istore_n [(0, .ref (ad 0)), (1, .int x1), (2, .int (b2i r3.1))] [1, 2, 0] dX10_playBest_56 rfl (by decide) rfl ?_
    refine V_aload_n 0 rfl dX10_playBest_57 rfl ?_
    refine V_get (k := 17) RC_X10 fl_X10_214 rfl (by decide) dX10_playBest_58 0 rfl rfl ?_
    refine V_bipush 30 dX10_playBest_61 (by decide) ?_
    refine V_idiv dX10_playBest_63 (by decide) ?_
    refine V_bipush 49 dX10_playBest_64 (by decide) ?_
    refine V_irem dX10_playBest_66 (by decide) ?_
    obtain ⟨t1, et1, hf⟩ := lt_some hf
    refine V_topi et1 ?_
    refine V_istore_n [(0, .ref (ad 0)), (1, .int x1), (2, .int (b2i r3.1)), (3, .int t1)] [1, 2, 3, 0] dX10_playBest_67 rfl (by decide) rfl ?_
    refine V_aload_n 0 rfl dX10_playBest_68 rfl ?_
    refine V_iload_n 1 rfl dX10_playBest_69 rfl ?_
    refine V_aload_n 0 rfl dX10_playBest_70 rfl ?_
    refine V_get (k := 17) RC_X10 fl_X10_214 rfl (by decide) dX10_playBest_71 0 rfl rfl ?_
    refine V_bipush 30 dX10_playBest_74 (by decide) ?_
    refine V_idiv dX10_playBest_76 (by decide) ?_
    refine V_bipush 49 dX10_playBest_77 (by decide) ?_
    refine V_idiv dX10_playBest_79 (by decide) ?_
    refine V_iload_n 3 rfl dX10_playBest_80 rfl ?_
    refine V_bipush 7 dX10_playBest_81 (by decide) ?_
    refine V_idiv dX10_playBest_83 (by decide) ?_
    refine V_iload_n 3 rfl dX10_playBest_84 rfl ?_
    refine V_bipush 7 dX10_playBest_85 (by decide) ?_
    refine V_irem dX10_playBest_87 (by decide) ?_
    obtain ⟨r4, hr4, hf⟩ := bno_some hf
    refine V_cV (As := [.int x1, .int (((gi r3.2 17) / (30)) / (49)), .int (t1 / (7)), .int (t1 - t1 / (7) * (7))]) (rest := []) (k_X10_makes (d := 5) (Nat.le_refl _) hr4) LB_X10_makes lk_X10_177 (by omega) dX10_playBest_88 rfl rfl (Nat.le_of_ble_eq_true rfl) (Nat.le_refl _) (Nat.le_refl _) 0 rfl ⟨rfl, rfl⟩ [.int r4.1] rfl ?_
    cases hf
    exact V_iret rfl dX10_playBest_91 ⟨rfl, rfl⟩
  · replace hf := (if_pos c1).symm.trans hf
    refine V_iconst 0 dX10_playBest_41 (by decide) ?_
    cases hf
    exact V_iret rfl dX10_playBest_42 ⟨rfl, rfl⟩
def f_X10_playBest_16 (σ : St) (x1 : Int32) : Option (Int32 × St) := bno (f_X10_isPlayer x1) fun r1 => if (gi σ 16) = (-1) then (f_X10_playBest_34 σ x1 (b2i r1) (0)) else (f_X10_playBest_34 σ x1 (b2i r1) (1))
set_option maxHeartbeats 4000000 in
set_option maxRecDepth 100000 in
theorem v_X10_playBest_16 {l : Launch} {G : Gv} {ad : Nat → Nat} {d : Nat} {av0 : List Value} {w1 : va_W} {q : (Int32 × St)} {σ : St} {x1 : Int32} (hd : 7 ≤ d) (hf : f_X10_playBest_16 σ x1 = some q) : VV l G yX10_playBest cX10_playBest 4 (some .int) d 0 0 av0 w1 (pD (some (.int q.1)) (wM G ad q.2)) 0 0 (wM G ad σ) 16 [(0, .ref (ad 0)), (1, .int x1)] [] := by
  unfold f_X10_playBest_16 at hf
  refine V_aload_n 0 rfl dX10_playBest_16 rfl ?_
  refine V_iload_n 1 rfl dX10_playBest_17 rfl ?_
  obtain ⟨r1, hr1, hf⟩ := bno_some hf
  refine V_cS (As := [.int x1]) (rest := [.ref (ad 0)]) (k_X10_isPlayer (d := 1) (Nat.le_refl _) hr1) LB_X10_isPlayer lk_X10_107 (by omega) dX10_playBest_18 rfl rfl (Nat.le_of_ble_eq_true rfl) (Nat.le_refl _) (Nat.le_refl _) [.int (b2i r1), .ref (ad 0)] rfl ?_
  refine V_aload_n 0 rfl dX10_playBest_21 rfl ?_
  refine V_get (k := 16) RC_X10 fl_X10_211 rfl (by decide) dX10_playBest_22 0 rfl rfl ?_
  refine V_iconst (-1) dX10_playBest_25 (by decide) ?_
  refine V_icmp_eq 33 dX10_playBest_26 (by decide) (fun c1 => ?_) (fun c1 => ?_)
  · replace hf := (if_pos c1).symm.trans hf
    refine V_iconst 0 dX10_playBest_33 (by decide) ?_
    exact v_X10_playBest_34 hd hf
  · replace hf := (if_neg c1).symm.trans hf
    refine V_iconst 1 dX10_playBest_29 (by decide) ?_
    refine V_goto 34 dX10_playBest_30 (by decide) ?_
    exact v_X10_playBest_34 hd hf
def f_X10_playBest (σ : St) (x1 : Int32) : Option (Int32 × St) := bno (f_X10_laysNow σ) fun r1 => bno (f_X10_isPlayer x1) fun r2 => if (b2i r2) = 0 then (f_X10_playBest_16 r1 x1) else (bno (f_X10_findsBest r1 x1) fun r3 => f_X10_playBest_16 r3 x1)
set_option maxHeartbeats 4000000 in
set_option maxRecDepth 100000 in
theorem v_X10_playBest {l : Launch} {G : Gv} {ad : Nat → Nat} {d : Nat} {av0 : List Value} {w1 : va_W} {q : (Int32 × St)} {σ : St} {x1 : Int32} (hd : 7 ≤ d) (hf : f_X10_playBest σ x1 = some q) : VV l G yX10_playBest cX10_playBest 4 (some .int) d 0 0 av0 w1 (pD (some (.int q.1)) (wM G ad q.2)) 0 0 (wM G ad σ) 0 [(0, .ref (ad 0)), (1, .int x1)] [] := by
  unfold f_X10_playBest at hf
  refine V_aload_n 0 rfl dX10_playBest_0 rfl ?_
  obtain ⟨r1, hr1, hf⟩ := bno_some hf
  refine V_cV (As := []) (rest := []) (k_X10_laysNow (d := 0) (Nat.le_refl _) hr1) LB_X10_laysNow lk_X10_130 (by omega) dX10_playBest_1 rfl rfl (Nat.le_of_ble_eq_true rfl) (Nat.le_refl _) (Nat.le_refl _) 0 rfl ⟨rfl, rfl⟩ [] rfl ?_
  refine V_iload_n 1 rfl dX10_playBest_4 rfl ?_
  obtain ⟨r2, hr2, hf⟩ := bno_some hf
  refine V_cS (As := [.int x1]) (rest := []) (k_X10_isPlayer (d := 1) (Nat.le_refl _) hr2) LB_X10_isPlayer lk_X10_107 (by omega) dX10_playBest_5 rfl rfl (Nat.le_of_ble_eq_true rfl) (Nat.le_refl _) (Nat.le_refl _) [.int (b2i r2)] rfl ?_
  refine V_if_eq 16 dX10_playBest_8 (by decide) (fun c1 => ?_) (fun c1 => ?_)
  · replace hf := (if_pos c1).symm.trans hf
    exact v_X10_playBest_16 hd hf
  · replace hf := (if_neg c1).symm.trans hf
    refine V_aload_n 0 rfl dX10_playBest_11 rfl ?_
    refine V_iload_n 1 rfl dX10_playBest_12 rfl ?_
    obtain ⟨r3, hr3, hf⟩ := bno_some hf
    refine V_cV (As := [.int x1]) (rest := []) (k_X10_findsBest (d := 6) (Nat.le_refl _) hr3) LB_X10_findsBest lk_X10_217 (by omega) dX10_playBest_13 rfl rfl (Nat.le_of_ble_eq_true rfl) (Nat.le_refl _) (Nat.le_refl _) 0 rfl ⟨rfl, rfl⟩ [] rfl ?_
    exact v_X10_playBest_16 hd hf
theorem k_X10_playBest {l : Launch} {G : Gv} {ad : Nat → Nat} {d : Nat} {σ : St} {q : (Int32 × St)} {x1 : Int32} (hd : 7 ≤ d) (hf : f_X10_playBest σ x1 = some q) : K l G yX10_playBest cX10_playBest 4 (some .int) d 0 0 [.ref (ad 0), .int x1] (wM G ad σ) (pD (some (.int q.1)) (wM G ad q.2)) := K_intro (by decide) (Nat.le_of_ble_eq_true rfl) (v_X10_playBest hd hf)
def f_X10_sumOn_4 (σ : St) : Nat → Int32 → Int32 → Int32 → Option Int32
  | 0, _, _, _ => none
  | n + 1, x1, x2, x3 => if (8) ≤ x3 then (some x2) else (ixo (((8) * x1) + x3) 16 (ixo ((0) + x3) 373 (lt (x2 + ((ga σ 9 (Int32.toNatClampNeg (((8) * x1) + x3))) * (ga σ 0 (Int32.toNatClampNeg ((0) + x3))))) fun t1 => f_X10_sumOn_4 σ n x1 t1 (x3 + 1))))
set_option maxHeartbeats 4000000 in
set_option maxRecDepth 100000 in
theorem v_X10_sumOn_4 {l : Launch} {G : Gv} {ad : Nat → Nat} {d : Nat} {av0 : List Value} {w1 : va_W} {q : Int32} {σ : St} (hd : 0 ≤ d) : ∀ (n : Nat) (x1 : Int32) (x2 : Int32) (x3 : Int32), f_X10_sumOn_4 σ n x1 x2 x3 = some q → VV l G yX10_sumOn cX10_sumOn 4 (some .int) d 0 0 av0 w1 (pD (some (.int q)) (wM G ad σ)) 0 0 (wM G ad σ) 4 [(0, .ref (ad 0)), (1, .int x1), (2, .int x2), (3, .int x3)] [] := by
  intro n
  induction n with
  | zero =>
    intro x1 x2 x3 hf
    cases hf
  | succ n ih =>
    intro x1 x2 x3 hf
    rw [f_X10_sumOn_4] at hf
    refine V_iload_n 3 rfl dX10_sumOn_4 rfl ?_
    refine V_bipush 8 dX10_sumOn_5 (by decide) ?_
    refine V_icmp_ge 39 dX10_sumOn_7 (by decide) (fun c1 => ?_) (fun c1 => ?_)
    · replace hf := (if_pos c1).symm.trans hf
      refine V_iload_n 2 rfl dX10_sumOn_39 rfl ?_
      cases hf
      exact V_iret rfl dX10_sumOn_40 ⟨rfl, rfl⟩
    · replace hf := (if_neg c1).symm.trans hf
      refine V_iload_n 2 rfl dX10_sumOn_10 rfl ?_
      refine V_aload_n 0 rfl dX10_sumOn_11 rfl ?_
      refine V_get (k := 9) RC_X10 fl_X10_25 rfl (by decide) dX10_sumOn_12 0 rfl rfl ?_
      refine V_bipush 8 dX10_sumOn_15 (by decide) ?_
      refine V_iload_n 1 rfl dX10_sumOn_17 rfl ?_
      refine V_imul dX10_sumOn_18 ?_
      refine V_iload_n 3 rfl dX10_sumOn_19 rfl ?_
      refine V_iadd dX10_sumOn_20 ?_
      obtain ⟨hi, hf⟩ := ixo_some hf
      refine V_iaload dX10_sumOn_21 6 rfl hi ?_
      refine V_aload_n 0 rfl dX10_sumOn_22 rfl ?_
      refine V_get (k := 0) RC_X10 fl_X10_7 rfl (by decide) dX10_sumOn_23 0 rfl rfl ?_
      refine V_iconst 0 dX10_sumOn_26 (by decide) ?_
      refine V_iload_n 3 rfl dX10_sumOn_27 rfl ?_
      refine V_iadd dX10_sumOn_28 ?_
      obtain ⟨hi, hf⟩ := ixo_some hf
      refine V_iaload dX10_sumOn_29 1 rfl hi ?_
      refine V_imul dX10_sumOn_30 ?_
      refine V_iadd dX10_sumOn_31 ?_
      obtain ⟨t1, et1, hf⟩ := lt_some hf
      refine V_topi et1 ?_
      refine V_istore_n [(0, .ref (ad 0)), (1, .int x1), (2, .int t1), (3, .int x3)] [1, 2, 0, 3] dX10_sumOn_32 rfl (by decide) rfl ?_
      refine V_iinc (1) 3 [(0, .ref (ad 0)), (1, .int x1), (2, .int t1), (3, .int (x3 + 1))] [1, 2, 3, 0] dX10_sumOn_33 rfl (by decide) (by decide) rfl ?_
      refine V_goto 4 dX10_sumOn_36 (by decide) ?_
      exact ih _ _ _ hf
def f_X10_sumOn (σ : St) (x1 : Int32) : Option Int32 := f_X10_sumOn_4 σ FU x1 (0) (0)
set_option maxHeartbeats 4000000 in
set_option maxRecDepth 100000 in
theorem v_X10_sumOn {l : Launch} {G : Gv} {ad : Nat → Nat} {d : Nat} {av0 : List Value} {w1 : va_W} {q : Int32} {σ : St} {x1 : Int32} (hd : 0 ≤ d) (hf : f_X10_sumOn σ x1 = some q) : VV l G yX10_sumOn cX10_sumOn 4 (some .int) d 0 0 av0 w1 (pD (some (.int q)) (wM G ad σ)) 0 0 (wM G ad σ) 0 [(0, .ref (ad 0)), (1, .int x1)] [] := by
  unfold f_X10_sumOn at hf
  refine V_iconst 0 dX10_sumOn_0 (by decide) ?_
  refine V_istore_n [(0, .ref (ad 0)), (1, .int x1), (2, .int (0))] [1, 2, 0] dX10_sumOn_1 rfl (by decide) rfl ?_
  refine V_iconst 0 dX10_sumOn_2 (by decide) ?_
  refine V_istore_n [(0, .ref (ad 0)), (1, .int x1), (2, .int (0)), (3, .int (0))] [1, 2, 3, 0] dX10_sumOn_3 rfl (by decide) rfl ?_
  exact v_X10_sumOn_4 hd _ _ _ _ hf
theorem k_X10_sumOn {l : Launch} {G : Gv} {ad : Nat → Nat} {d : Nat} {σ : St} {q : Int32} {x1 : Int32} (hd : 0 ≤ d) (hf : f_X10_sumOn σ x1 = some q) : K l G yX10_sumOn cX10_sumOn 4 (some .int) d 0 0 [.ref (ad 0), .int x1] (wM G ad σ) (pD (some (.int q)) (wM G ad σ)) := K_intro (by decide) (Nat.le_of_ble_eq_true rfl) (v_X10_sumOn hd hf)
def f_X10_isOut (σ : St) (x1 : Int32) : Option Bool := bno (f_X10_sumOn σ x1) fun r1 => if r1 = 0 then (some true) else (some false)
set_option maxHeartbeats 4000000 in
set_option maxRecDepth 100000 in
theorem v_X10_isOut {l : Launch} {G : Gv} {ad : Nat → Nat} {d : Nat} {av0 : List Value} {w1 : va_W} {q : Bool} {σ : St} {x1 : Int32} (hd : 1 ≤ d) (hf : f_X10_isOut σ x1 = some q) : VV l G yX10_isOut cX10_isOut 2 (some .boolean) d 0 0 av0 w1 (pD (some (.int (b2i q))) (wM G ad σ)) 0 0 (wM G ad σ) 0 [(0, .ref (ad 0)), (1, .int x1)] [] := by
  unfold f_X10_isOut at hf
  refine V_aload_n 0 rfl dX10_isOut_0 rfl ?_
  refine V_iload_n 1 rfl dX10_isOut_1 rfl ?_
  obtain ⟨r1, hr1, hf⟩ := bno_some hf
  refine V_cV (As := [.int x1]) (rest := []) (k_X10_sumOn (d := 0) (Nat.le_refl _) hr1) LB_X10_sumOn lk_X10_220 (by omega) dX10_isOut_2 rfl rfl (Nat.le_of_ble_eq_true rfl) (Nat.le_refl _) (Nat.le_refl _) 0 rfl ⟨rfl, rfl⟩ [.int r1] rfl ?_
  refine V_if_ne 12 dX10_isOut_5 (by decide) (fun c1 => ?_) (fun c1 => ?_)
  · replace hf := (if_neg c1).symm.trans hf
    refine V_iconst 0 dX10_isOut_12 (by decide) ?_
    cases hf
    exact V_zret (ty := .boolean) rfl rfl dX10_isOut_13 ⟨rfl, rfl⟩
  · replace hf := (if_pos c1).symm.trans hf
    refine V_iconst 1 dX10_isOut_8 (by decide) ?_
    refine V_goto 13 dX10_isOut_9 (by decide) ?_
    cases hf
    exact V_zret (ty := .boolean) rfl rfl dX10_isOut_13 ⟨rfl, rfl⟩
theorem k_X10_isOut {l : Launch} {G : Gv} {ad : Nat → Nat} {d : Nat} {σ : St} {q : Bool} {x1 : Int32} (hd : 1 ≤ d) (hf : f_X10_isOut σ x1 = some q) : K l G yX10_isOut cX10_isOut 2 (some .boolean) d 0 0 [.ref (ad 0), .int x1] (wM G ad σ) (pD (some (.int (b2i q))) (wM G ad σ)) := K_intro (by decide) (Nat.le_of_ble_eq_true rfl) (v_X10_isOut hd hf)
def f_X10_enters_48 : Nat → St → Int32 → Int32 → Int32 → Int32 → Option St
  | 0, _, _, _, _, _ => none
  | n + 1, σ, x1, x2, x3, x4 => if (16) ≤ x4 then (ixo x1 26 (lt (sa σ 20 (upd (ga σ 20) (Int32.toNatClampNeg x1) x2)) fun σ1 => ixo x1 26 (lt (sa σ1 21 (upd (ga σ1 21) (Int32.toNatClampNeg x1) (0))) fun σ2 => ixo x1 26 (lt (sa σ2 22 (upd (ga σ2 22) (Int32.toNatClampNeg x1) (-1000000))) fun σ3 => ixo x1 26 (lt (sa σ3 23 (upd (ga σ3 23) (Int32.toNatClampNeg x1) x3)) fun σ4 => some σ4))))) else (ixo x4 16 (ixo (((16) * x1) + x4) 416 (lt (sa σ 19 (upd (ga σ 19) (Int32.toNatClampNeg (((16) * x1) + x4)) (ga σ 9 (Int32.toNatClampNeg x4)))) fun σ5 => f_X10_enters_48 n σ5 x1 x2 x3 (x4 + 1))))
set_option maxHeartbeats 4000000 in
set_option maxRecDepth 100000 in
theorem v_X10_enters_48 {l : Launch} {G : Gv} {ad : Nat → Nat} {d : Nat} {av0 : List Value} {w1 : va_W} {q : St} (hd : 0 ≤ d) : ∀ (n : Nat) (σ : St) (x1 : Int32) (x2 : Int32) (x3 : Int32) (x4 : Int32), f_X10_enters_48 n σ x1 x2 x3 x4 = some q → VV l G yX10_enters cX10_enters 5 none d 0 0 av0 w1 (pD none (wM G ad q)) 0 0 (wM G ad σ) 48 [(0, .ref (ad 0)), (1, .int x1), (2, .int x2), (3, .int x3), (4, .int x4)] [] := by
  intro n
  induction n with
  | zero =>
    intro σ x1 x2 x3 x4 hf
    cases hf
  | succ n ih =>
    intro σ x1 x2 x3 x4 hf
    rw [f_X10_enters_48] at hf
    refine V_iload 4 rfl dX10_enters_48 ?_
    refine V_bipush 16 dX10_enters_50 (by decide) ?_
    refine V_icmp_ge 80 dX10_enters_52 (by decide) (fun c1 => ?_) (fun c1 => ?_)
    · replace hf := (if_pos c1).symm.trans hf
      refine V_aload_n 0 rfl dX10_enters_80 rfl ?_
      refine V_get (k := 20) RC_X10 fl_X10_40 rfl (by decide) dX10_enters_81 0 rfl rfl ?_
      refine V_iload_n 1 rfl dX10_enters_84 rfl ?_
      refine V_iload_n 2 rfl dX10_enters_85 rfl ?_
      obtain ⟨hi, hf⟩ := ixo_some hf
      obtain ⟨σ1, eσ1, hf⟩ := lt_some hf
      refine V_iastore dX10_enters_86 11 rfl hi (wM G ad σ1) (by rw [eσ1]; rfl) ?_
      refine V_aload_n 0 rfl dX10_enters_87 rfl ?_
      refine V_get (k := 21) RC_X10 fl_X10_43 rfl (by decide) dX10_enters_88 0 rfl rfl ?_
      refine V_iload_n 1 rfl dX10_enters_91 rfl ?_
      refine V_iconst 0 dX10_enters_92 (by decide) ?_
      obtain ⟨hi, hf⟩ := ixo_some hf
      obtain ⟨σ2, eσ2, hf⟩ := lt_some hf
      refine V_iastore dX10_enters_93 12 rfl hi (wM G ad σ2) (by rw [eσ2]; rfl) ?_
      refine V_aload_n 0 rfl dX10_enters_94 rfl ?_
      refine V_get (k := 22) RC_X10 fl_X10_46 rfl (by decide) dX10_enters_95 0 rfl rfl ?_
      refine V_iload_n 1 rfl dX10_enters_98 rfl ?_
      refine V_ldc (-1000000) kc_X10_226 dX10_enters_99 ?_
      obtain ⟨hi, hf⟩ := ixo_some hf
      obtain ⟨σ3, eσ3, hf⟩ := lt_some hf
      refine V_iastore dX10_enters_101 13 rfl hi (wM G ad σ3) (by rw [eσ3]; rfl) ?_
      refine V_aload_n 0 rfl dX10_enters_102 rfl ?_
      refine V_get (k := 23) RC_X10 fl_X10_49 rfl (by decide) dX10_enters_103 0 rfl rfl ?_
      refine V_iload_n 1 rfl dX10_enters_106 rfl ?_
      refine V_iload_n 3 rfl dX10_enters_107 rfl ?_
      obtain ⟨hi, hf⟩ := ixo_some hf
      obtain ⟨σ4, eσ4, hf⟩ := lt_some hf
      refine V_iastore dX10_enters_108 14 rfl hi (wM G ad σ4) (by rw [eσ4]; rfl) ?_
      cases hf
      exact V_vret rfl dX10_enters_109 ⟨rfl, rfl⟩
    · replace hf := (if_neg c1).symm.trans hf
      refine V_aload_n 0 rfl dX10_enters_55 rfl ?_
      refine V_get (k := 19) RC_X10 fl_X10_37 rfl (by decide) dX10_enters_56 0 rfl rfl ?_
      refine V_bipush 16 dX10_enters_59 (by decide) ?_
      refine V_iload_n 1 rfl dX10_enters_61 rfl ?_
      refine V_imul dX10_enters_62 ?_
      refine V_iload 4 rfl dX10_enters_63 ?_
      refine V_iadd dX10_enters_65 ?_
      refine V_aload_n 0 rfl dX10_enters_66 rfl ?_
      refine V_get (k := 9) RC_X10 fl_X10_25 rfl (by decide) dX10_enters_67 0 rfl rfl ?_
      refine V_iload 4 rfl dX10_enters_70 ?_
      obtain ⟨hi, hf⟩ := ixo_some hf
      refine V_iaload dX10_enters_72 6 rfl hi ?_
      obtain ⟨hi, hf⟩ := ixo_some hf
      obtain ⟨σ5, eσ5, hf⟩ := lt_some hf
      refine V_iastore dX10_enters_73 10 rfl hi (wM G ad σ5) (by rw [eσ5]; rfl) ?_
      refine V_iinc (1) 4 [(0, .ref (ad 0)), (1, .int x1), (2, .int x2), (3, .int x3), (4, .int (x4 + 1))] [1, 2, 3, 4, 0] dX10_enters_74 rfl (by decide) (by decide) rfl ?_
      refine V_goto 48 dX10_enters_77 (by decide) ?_
      exact ih _ _ _ _ _ hf
def f_X10_enters_13 : Nat → St → Int32 → Int32 → Int32 → Int32 → Option St
  | 0, _, _, _, _, _ => none
  | n + 1, σ, x1, x2, x3, x4 => if (49) ≤ x4 then (f_X10_enters_48 FU σ x1 x2 x3 (0)) else (ixo x4 49 (ixo (((49) * x1) + x4) 1274 (lt (sa σ 18 (upd (ga σ 18) (Int32.toNatClampNeg (((49) * x1) + x4)) (ga σ 8 (Int32.toNatClampNeg x4)))) fun σ1 => f_X10_enters_13 n σ1 x1 x2 x3 (x4 + 1))))
set_option maxHeartbeats 4000000 in
set_option maxRecDepth 100000 in
theorem v_X10_enters_13 {l : Launch} {G : Gv} {ad : Nat → Nat} {d : Nat} {av0 : List Value} {w1 : va_W} {q : St} (hd : 0 ≤ d) : ∀ (n : Nat) (σ : St) (x1 : Int32) (x2 : Int32) (x3 : Int32) (x4 : Int32), f_X10_enters_13 n σ x1 x2 x3 x4 = some q → VV l G yX10_enters cX10_enters 5 none d 0 0 av0 w1 (pD none (wM G ad q)) 0 0 (wM G ad σ) 13 [(0, .ref (ad 0)), (1, .int x1), (2, .int x2), (3, .int x3), (4, .int x4)] [] := by
  intro n
  induction n with
  | zero =>
    intro σ x1 x2 x3 x4 hf
    cases hf
  | succ n ih =>
    intro σ x1 x2 x3 x4 hf
    rw [f_X10_enters_13] at hf
    refine V_iload 4 rfl dX10_enters_13 ?_
    refine V_bipush 49 dX10_enters_15 (by decide) ?_
    refine V_icmp_ge 45 dX10_enters_17 (by decide) (fun c1 => ?_) (fun c1 => ?_)
    · replace hf := (if_pos c1).symm.trans hf
      refine V_iconst 0 dX10_enters_45 (by decide) ?_
      refine V_istore [(0, .ref (ad 0)), (1, .int x1), (2, .int x2), (3, .int x3), (4, .int (0))] [1, 2, 3, 4, 0] dX10_enters_46 (by decide) rfl ?_
      exact v_X10_enters_48 hd _ _ _ _ _ _ hf
    · replace hf := (if_neg c1).symm.trans hf
      refine V_aload_n 0 rfl dX10_enters_20 rfl ?_
      refine V_get (k := 18) RC_X10 fl_X10_34 rfl (by decide) dX10_enters_21 0 rfl rfl ?_
      refine V_bipush 49 dX10_enters_24 (by decide) ?_
      refine V_iload_n 1 rfl dX10_enters_26 rfl ?_
      refine V_imul dX10_enters_27 ?_
      refine V_iload 4 rfl dX10_enters_28 ?_
      refine V_iadd dX10_enters_30 ?_
      refine V_aload_n 0 rfl dX10_enters_31 rfl ?_
      refine V_get (k := 8) RC_X10 fl_X10_22 rfl (by decide) dX10_enters_32 0 rfl rfl ?_
      refine V_iload 4 rfl dX10_enters_35 ?_
      obtain ⟨hi, hf⟩ := ixo_some hf
      refine V_iaload dX10_enters_37 5 rfl hi ?_
      obtain ⟨hi, hf⟩ := ixo_some hf
      obtain ⟨σ1, eσ1, hf⟩ := lt_some hf
      refine V_iastore dX10_enters_38 9 rfl hi (wM G ad σ1) (by rw [eσ1]; rfl) ?_
      refine V_iinc (1) 4 [(0, .ref (ad 0)), (1, .int x1), (2, .int x2), (3, .int x3), (4, .int (x4 + 1))] [1, 2, 3, 4, 0] dX10_enters_39 rfl (by decide) (by decide) rfl ?_
      refine V_goto 13 dX10_enters_42 (by decide) ?_
      exact ih _ _ _ _ _ hf
def f_X10_enters (σ : St) (x1 : Int32) (x2 : Int32) (x3 : Int32) : Option St := lt (si σ 24 ((gi σ 24) + (1))) fun σ1 => f_X10_enters_13 FU σ1 x1 x2 x3 (0)
set_option maxHeartbeats 4000000 in
set_option maxRecDepth 100000 in
theorem v_X10_enters {l : Launch} {G : Gv} {ad : Nat → Nat} {d : Nat} {av0 : List Value} {w1 : va_W} {q : St} {σ : St} {x1 : Int32} {x2 : Int32} {x3 : Int32} (hd : 0 ≤ d) (hf : f_X10_enters σ x1 x2 x3 = some q) : VV l G yX10_enters cX10_enters 5 none d 0 0 av0 w1 (pD none (wM G ad q)) 0 0 (wM G ad σ) 0 [(0, .ref (ad 0)), (1, .int x1), (2, .int x2), (3, .int x3)] [] := by
  unfold f_X10_enters at hf
  refine V_aload_n 0 rfl dX10_enters_0 rfl ?_
  refine V_dup rfl dX10_enters_1 ?_
  refine V_get (k := 24) RC_X10 fl_X10_223 rfl (by decide) dX10_enters_2 0 rfl rfl ?_
  refine V_iconst 1 dX10_enters_5 (by decide) ?_
  refine V_iadd dX10_enters_6 ?_
  obtain ⟨σ1, eσ1, hf⟩ := lt_some hf
  refine V_put (k := 24) RC_X10 fl_X10_223 rfl (by decide) rfl dX10_enters_7 0 rfl (Nat.le_of_ble_eq_true rfl) rfl rfl (wM G ad σ1) (by rw [eσ1]; rfl) ?_
  refine V_iconst 0 dX10_enters_10 (by decide) ?_
  refine V_istore [(0, .ref (ad 0)), (1, .int x1), (2, .int x2), (3, .int x3), (4, .int (0))] [1, 2, 3, 4, 0] dX10_enters_11 (by decide) rfl ?_
  exact v_X10_enters_13 hd _ _ _ _ _ _ hf
theorem k_X10_enters {l : Launch} {G : Gv} {ad : Nat → Nat} {d : Nat} {σ : St} {q : St} {x1 : Int32} {x2 : Int32} {x3 : Int32} (hd : 0 ≤ d) (hf : f_X10_enters σ x1 x2 x3 = some q) : K l G yX10_enters cX10_enters 5 none d 0 0 [.ref (ad 0), .int x1, .int x2, .int x3] (wM G ad σ) (pD none (wM G ad q)) := K_intro (by decide) (Nat.le_of_ble_eq_true rfl) (v_X10_enters hd hf)
def f_X10_takesBack_33 : Nat → St → Int32 → Int32 → Option St
  | 0, _, _, _ => none
  | n + 1, σ, x1, x2 => if (16) ≤ x2 then (some σ) else (ixo (((16) * x1) + x2) 416 (ixo x2 16 (lt (sa σ 9 (upd (ga σ 9) (Int32.toNatClampNeg x2) (ga σ 19 (Int32.toNatClampNeg (((16) * x1) + x2))))) fun σ1 => f_X10_takesBack_33 n σ1 x1 (x2 + 1))))
set_option maxHeartbeats 4000000 in
set_option maxRecDepth 100000 in
theorem v_X10_takesBack_33 {l : Launch} {G : Gv} {ad : Nat → Nat} {d : Nat} {av0 : List Value} {w1 : va_W} {q : St} (hd : 0 ≤ d) : ∀ (n : Nat) (σ : St) (x1 : Int32) (x2 : Int32), f_X10_takesBack_33 n σ x1 x2 = some q → VV l G yX10_takesBack cX10_takesBack 3 none d 0 0 av0 w1 (pD none (wM G ad q)) 0 0 (wM G ad σ) 33 [(0, .ref (ad 0)), (1, .int x1), (2, .int x2)] [] := by
  intro n
  induction n with
  | zero =>
    intro σ x1 x2 hf
    cases hf
  | succ n ih =>
    intro σ x1 x2 hf
    rw [f_X10_takesBack_33] at hf
    refine V_iload_n 2 rfl dX10_takesBack_33 rfl ?_
    refine V_bipush 16 dX10_takesBack_34 (by decide) ?_
    refine V_icmp_ge 62 dX10_takesBack_36 (by decide) (fun c1 => ?_) (fun c1 => ?_)
    · replace hf := (if_pos c1).symm.trans hf
      cases hf
      exact V_vret rfl dX10_takesBack_62 ⟨rfl, rfl⟩
    · replace hf := (if_neg c1).symm.trans hf
      refine V_aload_n 0 rfl dX10_takesBack_39 rfl ?_
      refine V_get (k := 9) RC_X10 fl_X10_25 rfl (by decide) dX10_takesBack_40 0 rfl rfl ?_
      refine V_iload_n 2 rfl dX10_takesBack_43 rfl ?_
      refine V_aload_n 0 rfl dX10_takesBack_44 rfl ?_
      refine V_get (k := 19) RC_X10 fl_X10_37 rfl (by decide) dX10_takesBack_45 0 rfl rfl ?_
      refine V_bipush 16 dX10_takesBack_48 (by decide) ?_
      refine V_iload_n 1 rfl dX10_takesBack_50 rfl ?_
      refine V_imul dX10_takesBack_51 ?_
      refine V_iload_n 2 rfl dX10_takesBack_52 rfl ?_
      refine V_iadd dX10_takesBack_53 ?_
      obtain ⟨hi, hf⟩ := ixo_some hf
      refine V_iaload dX10_takesBack_54 10 rfl hi ?_
      obtain ⟨hi, hf⟩ := ixo_some hf
      obtain ⟨σ1, eσ1, hf⟩ := lt_some hf
      refine V_iastore dX10_takesBack_55 6 rfl hi (wM G ad σ1) (by rw [eσ1]; rfl) ?_
      refine V_iinc (1) 2 [(0, .ref (ad 0)), (1, .int x1), (2, .int (x2 + 1))] [1, 2, 0] dX10_takesBack_56 rfl (by decide) (by decide) rfl ?_
      refine V_goto 33 dX10_takesBack_59 (by decide) ?_
      exact ih _ _ _ hf
def f_X10_takesBack_2 : Nat → St → Int32 → Int32 → Option St
  | 0, _, _, _ => none
  | n + 1, σ, x1, x2 => if (49) ≤ x2 then (f_X10_takesBack_33 FU σ x1 (0)) else (ixo (((49) * x1) + x2) 1274 (ixo x2 49 (lt (sa σ 8 (upd (ga σ 8) (Int32.toNatClampNeg x2) (ga σ 18 (Int32.toNatClampNeg (((49) * x1) + x2))))) fun σ1 => f_X10_takesBack_2 n σ1 x1 (x2 + 1))))
set_option maxHeartbeats 4000000 in
set_option maxRecDepth 100000 in
theorem v_X10_takesBack_2 {l : Launch} {G : Gv} {ad : Nat → Nat} {d : Nat} {av0 : List Value} {w1 : va_W} {q : St} (hd : 0 ≤ d) : ∀ (n : Nat) (σ : St) (x1 : Int32) (x2 : Int32), f_X10_takesBack_2 n σ x1 x2 = some q → VV l G yX10_takesBack cX10_takesBack 3 none d 0 0 av0 w1 (pD none (wM G ad q)) 0 0 (wM G ad σ) 2 [(0, .ref (ad 0)), (1, .int x1), (2, .int x2)] [] := by
  intro n
  induction n with
  | zero =>
    intro σ x1 x2 hf
    cases hf
  | succ n ih =>
    intro σ x1 x2 hf
    rw [f_X10_takesBack_2] at hf
    refine V_iload_n 2 rfl dX10_takesBack_2 rfl ?_
    refine V_bipush 49 dX10_takesBack_3 (by decide) ?_
    refine V_icmp_ge 31 dX10_takesBack_5 (by decide) (fun c1 => ?_) (fun c1 => ?_)
    · replace hf := (if_pos c1).symm.trans hf
      refine V_iconst 0 dX10_takesBack_31 (by decide) ?_
      refine V_istore_n [(0, .ref (ad 0)), (1, .int x1), (2, .int (0))] [1, 2, 0] dX10_takesBack_32 rfl (by decide) rfl ?_
      exact v_X10_takesBack_33 hd _ _ _ _ hf
    · replace hf := (if_neg c1).symm.trans hf
      refine V_aload_n 0 rfl dX10_takesBack_8 rfl ?_
      refine V_get (k := 8) RC_X10 fl_X10_22 rfl (by decide) dX10_takesBack_9 0 rfl rfl ?_
      refine V_iload_n 2 rfl dX10_takesBack_12 rfl ?_
      refine V_aload_n 0 rfl dX10_takesBack_13 rfl ?_
      refine V_get (k := 18) RC_X10 fl_X10_34 rfl (by decide) dX10_takesBack_14 0 rfl rfl ?_
      refine V_bipush 49 dX10_takesBack_17 (by decide) ?_
      refine V_iload_n 1 rfl dX10_takesBack_19 rfl ?_
      refine V_imul dX10_takesBack_20 ?_
      refine V_iload_n 2 rfl dX10_takesBack_21 rfl ?_
      refine V_iadd dX10_takesBack_22 ?_
      obtain ⟨hi, hf⟩ := ixo_some hf
      refine V_iaload dX10_takesBack_23 9 rfl hi ?_
      obtain ⟨hi, hf⟩ := ixo_some hf
      obtain ⟨σ1, eσ1, hf⟩ := lt_some hf
      refine V_iastore dX10_takesBack_24 5 rfl hi (wM G ad σ1) (by rw [eσ1]; rfl) ?_
      refine V_iinc (1) 2 [(0, .ref (ad 0)), (1, .int x1), (2, .int (x2 + 1))] [1, 2, 0] dX10_takesBack_25 rfl (by decide) (by decide) rfl ?_
      refine V_goto 2 dX10_takesBack_28 (by decide) ?_
      exact ih _ _ _ hf
def f_X10_takesBack (σ : St) (x1 : Int32) : Option St := f_X10_takesBack_2 FU σ x1 (0)
set_option maxHeartbeats 4000000 in
set_option maxRecDepth 100000 in
theorem v_X10_takesBack {l : Launch} {G : Gv} {ad : Nat → Nat} {d : Nat} {av0 : List Value} {w1 : va_W} {q : St} {σ : St} {x1 : Int32} (hd : 0 ≤ d) (hf : f_X10_takesBack σ x1 = some q) : VV l G yX10_takesBack cX10_takesBack 3 none d 0 0 av0 w1 (pD none (wM G ad q)) 0 0 (wM G ad σ) 0 [(0, .ref (ad 0)), (1, .int x1)] [] := by
  unfold f_X10_takesBack at hf
  refine V_iconst 0 dX10_takesBack_0 (by decide) ?_
  refine V_istore_n [(0, .ref (ad 0)), (1, .int x1), (2, .int (0))] [1, 2, 0] dX10_takesBack_1 rfl (by decide) rfl ?_
  exact v_X10_takesBack_2 hd _ _ _ _ hf
theorem k_X10_takesBack {l : Launch} {G : Gv} {ad : Nat → Nat} {d : Nat} {σ : St} {q : St} {x1 : Int32} (hd : 0 ≤ d) (hf : f_X10_takesBack σ x1 = some q) : K l G yX10_takesBack cX10_takesBack 3 none d 0 0 [.ref (ad 0), .int x1] (wM G ad σ) (pD none (wM G ad q)) := K_intro (by decide) (Nat.le_of_ble_eq_true rfl) (v_X10_takesBack hd hf)
def f_X10_betters (σ : St) (x1 : Int32) (x2 : Int32) : Option St := ixo x1 26 (if x2 ≤ (ga σ 22 (Int32.toNatClampNeg x1)) then (ixo x1 26 (ixo x1 26 (lt (sa σ 22 (upd (ga σ 22) (Int32.toNatClampNeg x1) (ga σ 22 (Int32.toNatClampNeg x1)))) fun σ1 => some σ1))) else (ixo x1 26 (lt (sa σ 22 (upd (ga σ 22) (Int32.toNatClampNeg x1) x2)) fun σ2 => some σ2)))
set_option maxHeartbeats 4000000 in
set_option maxRecDepth 100000 in
theorem v_X10_betters {l : Launch} {G : Gv} {ad : Nat → Nat} {d : Nat} {av0 : List Value} {w1 : va_W} {q : St} {σ : St} {x1 : Int32} {x2 : Int32} (hd : 0 ≤ d) (hf : f_X10_betters σ x1 x2 = some q) : VV l G yX10_betters cX10_betters 3 none d 0 0 av0 w1 (pD none (wM G ad q)) 0 0 (wM G ad σ) 0 [(0, .ref (ad 0)), (1, .int x1), (2, .int x2)] [] := by
  unfold f_X10_betters at hf
  refine V_aload_n 0 rfl dX10_betters_0 rfl ?_
  refine V_get (k := 22) RC_X10 fl_X10_46 rfl (by decide) dX10_betters_1 0 rfl rfl ?_
  refine V_iload_n 1 rfl dX10_betters_4 rfl ?_
  refine V_iload_n 2 rfl dX10_betters_5 rfl ?_
  refine V_aload_n 0 rfl dX10_betters_6 rfl ?_
  refine V_get (k := 22) RC_X10 fl_X10_46 rfl (by decide) dX10_betters_7 0 rfl rfl ?_
  refine V_iload_n 1 rfl dX10_betters_10 rfl ?_
  obtain ⟨hi, hf⟩ := ixo_some hf
  refine V_iaload dX10_betters_11 13 rfl hi ?_
  refine V_icmp_le 19 dX10_betters_12 (by decide) (fun c1 => ?_) (fun c1 => ?_)
  · replace hf := (if_pos c1).symm.trans hf
    refine V_aload_n 0 rfl dX10_betters_19 rfl ?_
    refine V_get (k := 22) RC_X10 fl_X10_46 rfl (by decide) dX10_betters_20 0 rfl rfl ?_
    refine V_iload_n 1 rfl dX10_betters_23 rfl ?_
    obtain ⟨hi, hf⟩ := ixo_some hf
    refine V_iaload dX10_betters_24 13 rfl hi ?_
    obtain ⟨hi, hf⟩ := ixo_some hf
    obtain ⟨σ1, eσ1, hf⟩ := lt_some hf
    refine V_iastore dX10_betters_25 13 rfl hi (wM G ad σ1) (by rw [eσ1]; rfl) ?_
    cases hf
    exact V_vret rfl dX10_betters_26 ⟨rfl, rfl⟩
  · replace hf := (if_neg c1).symm.trans hf
    refine V_iload_n 2 rfl dX10_betters_15 rfl ?_
    refine V_goto 25 dX10_betters_16 (by decide) ?_
    obtain ⟨hi, hf⟩ := ixo_some hf
    obtain ⟨σ2, eσ2, hf⟩ := lt_some hf
    refine V_iastore dX10_betters_25 13 rfl hi (wM G ad σ2) (by rw [eσ2]; rfl) ?_
    cases hf
    exact V_vret rfl dX10_betters_26 ⟨rfl, rfl⟩
theorem k_X10_betters {l : Launch} {G : Gv} {ad : Nat → Nat} {d : Nat} {σ : St} {q : St} {x1 : Int32} {x2 : Int32} (hd : 0 ≤ d) (hf : f_X10_betters σ x1 x2 = some q) : K l G yX10_betters cX10_betters 3 none d 0 0 [.ref (ad 0), .int x1, .int x2] (wM G ad σ) (pD none (wM G ad q)) := K_intro (by decide) (Nat.le_of_ble_eq_true rfl) (v_X10_betters hd hf)
def f_X10_searched_296 (bk61 : St → Int32 → Int32 → Option (Int32 × St)) (σ : St) (x1 : Int32) (x2 : Int32) : Option (Int32 × St) := bk61 σ x1 x2
set_option maxHeartbeats 4000000 in
set_option maxRecDepth 100000 in
theorem v_X10_searched_296 {l : Launch} {G : Gv} {ad : Nat → Nat} {d : Nat} {av0 : List Value} {w1 : va_W} {q : (Int32 × St)} {bk61 : St → Int32 → Int32 → Option (Int32 × St)} {σ : St} {x1 : Int32} {x2 : Int32} (hd : 6 ≤ d) (hb61 : ∀ (σ : St) (x1 : Int32) (x2 : Int32), bk61 σ x1 x2 = some q → VV l G yX10_searched cX10_searched 6 (some .int) d 0 0 av0 w1 (pD (some (.int q.1)) (wM G ad q.2)) 0 0 (wM G ad σ) 61 [(0, .ref (ad 0)), (1, .int x1), (2, .int x2)] []) (hf : f_X10_searched_296 bk61 σ x1 x2 = some q) : VV l G yX10_searched cX10_searched 6 (some .int) d 0 0 av0 w1 (pD (some (.int q.1)) (wM G ad q.2)) 0 0 (wM G ad σ) 296 [(0, .ref (ad 0)), (1, .int x1), (2, .int x2)] [] := by
  unfold f_X10_searched_296 at hf
  refine V_goto 61 dX10_searched_296 (by decide) ?_
  exact hb61 _ _ _ hf
def f_X10_searched_84 (bk61 : St → Int32 → Int32 → Option (Int32 × St)) (σ : St) (x1 : Int32) (x2 : Int32) (s0 : Int32) : Option (Int32 × St) := ixo x2 26 (ixo x2 26 (ixo x2 26 (lt (sa σ 21 (upd (ga σ 21) (Int32.toNatClampNeg x2) ((ga σ 21 (Int32.toNatClampNeg x2)) + (1)))) fun σ1 => if (ga σ 21 (Int32.toNatClampNeg x2)) ≤ (2940) then (if (ga σ 21 (Int32.toNatClampNeg x2)) = (2940) then (ixo x2 26 (if (ga σ1 20 (Int32.toNatClampNeg x2)) = (1) then (lt (si σ1 24 ((gi σ1 24) + (1))) fun σ3 => bno (f_X10_sumOn σ3 ((1) - s0)) fun r10 => bno (f_X10_sumOn σ3 s0) fun r11 => bno (f_X10_betters σ3 x2 (r10 - r11)) fun r12 => f_X10_searched_296 bk61 r12 x1 x2) else (bno (f_X10_enters σ1 (x2 + 1) (1) (0)) fun r9 => f_X10_searched_296 bk61 r9 x1 (x2 + 1)))) else (bno (f_X10_mayPlay σ1 s0 (ga σ 21 (Int32.toNatClampNeg x2))) fun r1 => if (b2i r1.1) = 0 then (f_X10_searched_296 bk61 r1.2 x1 x2) else (bno (f_X10_scoreBy r1.2 (ga σ 21 (Int32.toNatClampNeg x2))) fun r2 => bno (f_X10_laysBy r2.2 s0 (ga σ 21 (Int32.toNatClampNeg x2))) fun r3 => bno (f_X10_isOut r3 s0) fun r4 => if (b2i r4) = 0 then (bno (f_X10_enters r3 (x2 + 1) (0) r2.1) fun r5 => f_X10_searched_296 bk61 r5 x1 (x2 + 1)) else (lt (si r3 24 ((gi r3 24) + (1))) fun σ2 => bno (f_X10_sumOn σ2 ((1) - s0)) fun r6 => bno (f_X10_betters σ2 x2 (r2.1 + ((2) * r6))) fun r7 => bno (f_X10_takesBack r7 x2) fun r8 => f_X10_searched_296 bk61 r8 x1 x2)))) else (if x2 = 0 then (ixo (0) 26 (some ((ga σ1 22 (Int32.toNatClampNeg (0))), σ1))) else (ixo ((x2 + (-1)) + (1)) 26 (ixo ((x2 + (-1)) + (1)) 26 (bno (f_X10_betters σ1 (x2 + (-1)) ((ga σ1 23 (Int32.toNatClampNeg ((x2 + (-1)) + (1)))) - (ga σ1 22 (Int32.toNatClampNeg ((x2 + (-1)) + (1)))))) fun r13 => bno (f_X10_takesBack r13 (x2 + (-1))) fun r14 => f_X10_searched_296 bk61 r14 x1 (x2 + (-1)))))))))
set_option maxHeartbeats 4000000 in
set_option maxRecDepth 100000 in
theorem v_X10_searched_84 {l : Launch} {G : Gv} {ad : Nat → Nat} {d : Nat} {av0 : List Value} {w1 : va_W} {q : (Int32 × St)} {bk61 : St → Int32 → Int32 → Option (Int32 × St)} {σ : St} {x1 : Int32} {x2 : Int32} {s0 : Int32} (hd : 6 ≤ d) (hb61 : ∀ (σ : St) (x1 : Int32) (x2 : Int32), bk61 σ x1 x2 = some q → VV l G yX10_searched cX10_searched 6 (some .int) d 0 0 av0 w1 (pD (some (.int q.1)) (wM G ad q.2)) 0 0 (wM G ad σ) 61 [(0, .ref (ad 0)), (1, .int x1), (2, .int x2)] []) (hf : f_X10_searched_84 bk61 σ x1 x2 s0 = some q) : VV l G yX10_searched cX10_searched 6 (some .int) d 0 0 av0 w1 (pD (some (.int q.1)) (wM G ad q.2)) 0 0 (wM G ad σ) 84 [(0, .ref (ad 0)), (1, .int x1), (2, .int x2)] [.int s0] := by
  unfold f_X10_searched_84 at hf
  refine V_istore_n [(0, .ref (ad 0)), (1, .int x1), (2, .int x2), (3, .int s0)] [1, 2, 3, 0] dX10_searched_84 rfl (by decide) rfl ?_
  refine V_aload_n 0 rfl dX10_searched_85 rfl ?_
  refine V_get (k := 21) RC_X10 fl_X10_43 rfl (by decide) dX10_searched_86 0 rfl rfl ?_
  refine V_iload_n 2 rfl dX10_searched_89 rfl ?_
  obtain ⟨hi, hf⟩ := ixo_some hf
  refine V_iaload dX10_searched_90 12 rfl hi ?_
  refine V_istore [(0, .ref (ad 0)), (1, .int x1), (2, .int x2), (3, .int s0), (4, .int (ga σ 21 (Int32.toNatClampNeg x2)))] [1, 2, 3, 4, 0] dX10_searched_91 (by decide) rfl ?_
  refine V_aload_n 0 rfl dX10_searched_93 rfl ?_
  refine V_get (k := 21) RC_X10 fl_X10_43 rfl (by decide) dX10_searched_94 0 rfl rfl ?_
  refine V_iload_n 2 rfl dX10_searched_97 rfl ?_
  refine V_dup2 rfl rfl dX10_searched_98 ?_
  obtain ⟨hi, hf⟩ := ixo_some hf
  refine V_iaload dX10_searched_99 12 rfl hi ?_
  refine V_iconst 1 dX10_searched_100 (by decide) ?_
  refine V_iadd dX10_searched_101 ?_
  obtain ⟨hi, hf⟩ := ixo_some hf
  obtain ⟨σ1, eσ1, hf⟩ := lt_some hf
  refine V_iastore dX10_searched_102 12 rfl hi (wM G ad σ1) (by rw [eσ1]; rfl) ?_
  refine V_iload 4 rfl dX10_searched_103 ?_
  refine V_sipush 2940 dX10_searched_105 (by decide) ?_
  refine V_icmp_le 155 dX10_searched_108 (by decide) (fun c1 => ?_) (fun c1 => ?_)
  · replace hf := (if_pos c1).symm.trans hf
    refine V_iload 4 rfl dX10_searched_155 ?_
    refine V_sipush 2940 dX10_searched_157 (by decide) ?_
    refine V_icmp_ne 217 dX10_searched_160 (by decide) (fun c2 => ?_) (fun c2 => ?_)
    · replace hf := (if_neg c2).symm.trans hf
      refine V_aload_n 0 rfl dX10_searched_217 rfl ?_
      refine V_iload_n 3 rfl dX10_searched_218 rfl ?_
      refine V_iload 4 rfl dX10_searched_219 ?_
      obtain ⟨r1, hr1, hf⟩ := bno_some hf
      refine V_cV (As := [.int s0, .int (ga σ 21 (Int32.toNatClampNeg x2))]) (rest := []) (k_X10_mayPlay (d := 5) (Nat.le_refl _) hr1) LB_X10_mayPlay lk_X10_194 (by omega) dX10_searched_221 rfl rfl (Nat.le_of_ble_eq_true rfl) (Nat.le_refl _) (Nat.le_refl _) 0 rfl ⟨rfl, rfl⟩ [.int (b2i r1.1)] rfl ?_
      refine V_if_eq 296 dX10_searched_224 (by decide) (fun c3 => ?_) (fun c3 => ?_)
      · replace hf := (if_pos c3).symm.trans hf
        refine V_lv [(0, .ref (ad 0)), (1, .int x1), (2, .int x2)] [0, 1, 2] rfl ?_
        exact v_X10_searched_296 hd hb61 hf
      · replace hf := (if_neg c3).symm.trans hf
        refine V_aload_n 0 rfl dX10_searched_227 rfl ?_
        refine V_iload 4 rfl dX10_searched_228 ?_
        obtain ⟨r2, hr2, hf⟩ := bno_some hf
        refine V_cV (As := [.int (ga σ 21 (Int32.toNatClampNeg x2))]) (rest := []) (k_X10_scoreBy (d := 5) (Nat.le_refl _) hr2) LB_X10_scoreBy lk_X10_205 (by omega) dX10_searched_230 rfl rfl (Nat.le_of_ble_eq_true rfl) (Nat.le_refl _) (Nat.le_refl _) 0 rfl ⟨rfl, rfl⟩ [.int r2.1] rfl ?_
        refine V_istore [(0, .ref (ad 0)), (1, .int x1), (2, .int x2), (3, .int s0), (4, .int (ga σ 21 (Int32.toNatClampNeg x2))), (5, .int r2.1)] [1, 2, 3, 4, 5, 0] dX10_searched_233 (by decide) rfl ?_
        refine V_aload_n 0 rfl dX10_searched_235 rfl ?_
        refine V_iload_n 3 rfl dX10_searched_236 rfl ?_
        refine V_iload 4 rfl dX10_searched_237 ?_
        obtain ⟨r3, hr3, hf⟩ := bno_some hf
        refine V_cV (As := [.int s0, .int (ga σ 21 (Int32.toNatClampNeg x2))]) (rest := []) (k_X10_laysBy (d := 2) (Nat.le_refl _) hr3) LB_X10_laysBy lk_X10_239 (by omega) dX10_searched_239 rfl rfl (Nat.le_of_ble_eq_true rfl) (Nat.le_refl _) (Nat.le_refl _) 0 rfl ⟨rfl, rfl⟩ [] rfl ?_
        refine V_aload_n 0 rfl dX10_searched_242 rfl ?_
        refine V_iload_n 3 rfl dX10_searched_243 rfl ?_
        obtain ⟨r4, hr4, hf⟩ := bno_some hf
        refine V_cV (As := [.int s0]) (rest := []) (k_X10_isOut (d := 1) (Nat.le_refl _) hr4) LB_X10_isOut lk_X10_227 (by omega) dX10_searched_244 rfl rfl (Nat.le_of_ble_eq_true rfl) (Nat.le_refl _) (Nat.le_refl _) 0 rfl ⟨rfl, rfl⟩ [.int (b2i r4)] rfl ?_
        refine V_if_eq 285 dX10_searched_247 (by decide) (fun c4 => ?_) (fun c4 => ?_)
        · replace hf := (if_pos c4).symm.trans hf
          refine V_iinc (1) 2 [(0, .ref (ad 0)), (1, .int x1), (2, .int (x2 + 1)), (3, .int s0), (4, .int (ga σ 21 (Int32.toNatClampNeg x2))), (5, .int r2.1)] [1, 2, 0, 3, 4, 5] dX10_searched_285 rfl (by decide) (by decide) rfl ?_
          refine V_aload_n 0 rfl dX10_searched_288 rfl ?_
          refine V_iload_n 2 rfl dX10_searched_289 rfl ?_
          refine V_iconst 0 dX10_searched_290 (by decide) ?_
          refine V_iload 5 rfl dX10_searched_291 ?_
          obtain ⟨r5, hr5, hf⟩ := bno_some hf
          refine V_cV (As := [.int (x2 + 1), .int (0), .int r2.1]) (rest := []) (k_X10_enters (d := 0) (Nat.le_refl _) hr5) LB_X10_enters lk_X10_230 (by omega) dX10_searched_293 rfl rfl (Nat.le_of_ble_eq_true rfl) (Nat.le_refl _) (Nat.le_refl _) 0 rfl ⟨rfl, rfl⟩ [] rfl ?_
          refine V_lv [(0, .ref (ad 0)), (1, .int x1), (2, .int (x2 + 1))] [0, 1, 2] rfl ?_
          exact v_X10_searched_296 hd hb61 hf
        · replace hf := (if_neg c4).symm.trans hf
          refine V_aload_n 0 rfl dX10_searched_250 rfl ?_
          refine V_dup rfl dX10_searched_251 ?_
          refine V_get (k := 24) RC_X10 fl_X10_223 rfl (by decide) dX10_searched_252 0 rfl rfl ?_
          refine V_iconst 1 dX10_searched_255 (by decide) ?_
          refine V_iadd dX10_searched_256 ?_
          obtain ⟨σ2, eσ2, hf⟩ := lt_some hf
          refine V_put (k := 24) RC_X10 fl_X10_223 rfl (by decide) rfl dX10_searched_257 0 rfl (Nat.le_of_ble_eq_true rfl) rfl rfl (wM G ad σ2) (by rw [eσ2]; rfl) ?_
          refine V_aload_n 0 rfl dX10_searched_260 rfl ?_
          refine V_iload_n 2 rfl dX10_searched_261 rfl ?_
          refine V_iload 5 rfl dX10_searched_262 ?_
          refine V_iconst 2 dX10_searched_264 (by decide) ?_
          refine V_aload_n 0 rfl dX10_searched_265 rfl ?_
          refine V_iconst 1 dX10_searched_266 (by decide) ?_
          refine V_iload_n 3 rfl dX10_searched_267 rfl ?_
          refine V_isub dX10_searched_268 ?_
          obtain ⟨r6, hr6, hf⟩ := bno_some hf
          refine V_cV (As := [.int ((1) - s0)]) (rest := [.int (2), .int r2.1, .int x2, .ref (ad 0)]) (k_X10_sumOn (d := 0) (Nat.le_refl _) hr6) LB_X10_sumOn lk_X10_220 (by omega) dX10_searched_269 rfl rfl (Nat.le_of_ble_eq_true rfl) (Nat.le_refl _) (Nat.le_refl _) 0 rfl ⟨rfl, rfl⟩ [.int r6, .int (2), .int r2.1, .int x2, .ref (ad 0)] rfl ?_
          refine V_imul dX10_searched_272 ?_
          refine V_iadd dX10_searched_273 ?_
          obtain ⟨r7, hr7, hf⟩ := bno_some hf
          refine V_cV (As := [.int x2, .int (r2.1 + ((2) * r6))]) (rest := []) (k_X10_betters (d := 0) (Nat.le_refl _) hr7) LB_X10_betters lk_X10_233 (by omega) dX10_searched_274 rfl rfl (Nat.le_of_ble_eq_true rfl) (Nat.le_refl _) (Nat.le_refl _) 0 rfl ⟨rfl, rfl⟩ [] rfl ?_
          refine V_aload_n 0 rfl dX10_searched_277 rfl ?_
          refine V_iload_n 2 rfl dX10_searched_278 rfl ?_
          obtain ⟨r8, hr8, hf⟩ := bno_some hf
          refine V_cV (As := [.int x2]) (rest := []) (k_X10_takesBack (d := 0) (Nat.le_refl _) hr8) LB_X10_takesBack lk_X10_236 (by omega) dX10_searched_279 rfl rfl (Nat.le_of_ble_eq_true rfl) (Nat.le_refl _) (Nat.le_refl _) 0 rfl ⟨rfl, rfl⟩ [] rfl ?_
          refine V_goto 296 dX10_searched_282 (by decide) ?_
          refine V_lv [(0, .ref (ad 0)), (1, .int x1), (2, .int x2)] [0, 1, 2] rfl ?_
          exact v_X10_searched_296 hd hb61 hf
    · replace hf := (if_pos c2).symm.trans hf
      refine V_aload_n 0 rfl dX10_searched_163 rfl ?_
      refine V_get (k := 20) RC_X10 fl_X10_40 rfl (by decide) dX10_searched_164 0 rfl rfl ?_
      refine V_iload_n 2 rfl dX10_searched_167 rfl ?_
      obtain ⟨hi, hf⟩ := ixo_some hf
      refine V_iaload dX10_searched_168 11 rfl hi ?_
      refine V_iconst 1 dX10_searched_169 (by decide) ?_
      refine V_icmp_ne 204 dX10_searched_170 (by decide) (fun c5 => ?_) (fun c5 => ?_)
      · replace hf := (if_neg c5).symm.trans hf
        refine V_iinc (1) 2 [(0, .ref (ad 0)), (1, .int x1), (2, .int (x2 + 1)), (3, .int s0), (4, .int (ga σ 21 (Int32.toNatClampNeg x2)))] [1, 2, 0, 3, 4] dX10_searched_204 rfl (by decide) (by decide) rfl ?_
        refine V_aload_n 0 rfl dX10_searched_207 rfl ?_
        refine V_iload_n 2 rfl dX10_searched_208 rfl ?_
        refine V_iconst 1 dX10_searched_209 (by decide) ?_
        refine V_iconst 0 dX10_searched_210 (by decide) ?_
        obtain ⟨r9, hr9, hf⟩ := bno_some hf
        refine V_cV (As := [.int (x2 + 1), .int (1), .int (0)]) (rest := []) (k_X10_enters (d := 0) (Nat.le_refl _) hr9) LB_X10_enters lk_X10_230 (by omega) dX10_searched_211 rfl rfl (Nat.le_of_ble_eq_true rfl) (Nat.le_refl _) (Nat.le_refl _) 0 rfl ⟨rfl, rfl⟩ [] rfl ?_
        refine V_goto 296 dX10_searched_214 (by decide) ?_
        refine V_lv [(0, .ref (ad 0)), (1, .int x1), (2, .int (x2 + 1))] [0, 1, 2] rfl ?_
        exact v_X10_searched_296 hd hb61 hf
      · replace hf := (if_pos c5).symm.trans hf
        refine V_aload_n 0 rfl dX10_searched_173 rfl ?_
        refine V_dup rfl dX10_searched_174 ?_
        refine V_get (k := 24) RC_X10 fl_X10_223 rfl (by decide) dX10_searched_175 0 rfl rfl ?_
        refine V_iconst 1 dX10_searched_178 (by decide) ?_
        refine V_iadd dX10_searched_179 ?_
        obtain ⟨σ3, eσ3, hf⟩ := lt_some hf
        refine V_put (k := 24) RC_X10 fl_X10_223 rfl (by decide) rfl dX10_searched_180 0 rfl (Nat.le_of_ble_eq_true rfl) rfl rfl (wM G ad σ3) (by rw [eσ3]; rfl) ?_
        refine V_aload_n 0 rfl dX10_searched_183 rfl ?_
        refine V_iload_n 2 rfl dX10_searched_184 rfl ?_
        refine V_aload_n 0 rfl dX10_searched_185 rfl ?_
        refine V_iconst 1 dX10_searched_186 (by decide) ?_
        refine V_iload_n 3 rfl dX10_searched_187 rfl ?_
        refine V_isub dX10_searched_188 ?_
        obtain ⟨r10, hr10, hf⟩ := bno_some hf
        refine V_cV (As := [.int ((1) - s0)]) (rest := [.int x2, .ref (ad 0)]) (k_X10_sumOn (d := 0) (Nat.le_refl _) hr10) LB_X10_sumOn lk_X10_220 (by omega) dX10_searched_189 rfl rfl (Nat.le_of_ble_eq_true rfl) (Nat.le_refl _) (Nat.le_refl _) 0 rfl ⟨rfl, rfl⟩ [.int r10, .int x2, .ref (ad 0)] rfl ?_
        refine V_aload_n 0 rfl dX10_searched_192 rfl ?_
        refine V_iload_n 3 rfl dX10_searched_193 rfl ?_
        obtain ⟨r11, hr11, hf⟩ := bno_some hf
        refine V_cV (As := [.int s0]) (rest := [.int r10, .int x2, .ref (ad 0)]) (k_X10_sumOn (d := 0) (Nat.le_refl _) hr11) LB_X10_sumOn lk_X10_220 (by omega) dX10_searched_194 rfl rfl (Nat.le_of_ble_eq_true rfl) (Nat.le_refl _) (Nat.le_refl _) 0 rfl ⟨rfl, rfl⟩ [.int r11, .int r10, .int x2, .ref (ad 0)] rfl ?_
        refine V_isub dX10_searched_197 ?_
        obtain ⟨r12, hr12, hf⟩ := bno_some hf
        refine V_cV (As := [.int x2, .int (r10 - r11)]) (rest := []) (k_X10_betters (d := 0) (Nat.le_refl _) hr12) LB_X10_betters lk_X10_233 (by omega) dX10_searched_198 rfl rfl (Nat.le_of_ble_eq_true rfl) (Nat.le_refl _) (Nat.le_refl _) 0 rfl ⟨rfl, rfl⟩ [] rfl ?_
        refine V_goto 296 dX10_searched_201 (by decide) ?_
        refine V_lv [(0, .ref (ad 0)), (1, .int x1), (2, .int x2)] [0, 1, 2] rfl ?_
        exact v_X10_searched_296 hd hb61 hf
  · replace hf := (if_neg c1).symm.trans hf
    refine V_iload_n 2 rfl dX10_searched_111 rfl ?_
    refine V_if_ne 122 dX10_searched_112 (by decide) (fun c6 => ?_) (fun c6 => ?_)
    · replace hf := (if_neg c6).symm.trans hf
      refine V_iinc (-1) 2 [(0, .ref (ad 0)), (1, .int x1), (2, .int (x2 + (-1))), (3, .int s0), (4, .int (ga σ 21 (Int32.toNatClampNeg x2)))] [1, 2, 0, 3, 4] dX10_searched_122 rfl (by decide) (by decide) rfl ?_
      refine V_aload_n 0 rfl dX10_searched_125 rfl ?_
      refine V_iload_n 2 rfl dX10_searched_126 rfl ?_
      refine V_aload_n 0 rfl dX10_searched_127 rfl ?_
      refine V_get (k := 23) RC_X10 fl_X10_49 rfl (by decide) dX10_searched_128 0 rfl rfl ?_
      refine V_iload_n 2 rfl dX10_searched_131 rfl ?_
      refine V_iconst 1 dX10_searched_132 (by decide) ?_
      refine V_iadd dX10_searched_133 ?_
      obtain ⟨hi, hf⟩ := ixo_some hf
      refine V_iaload dX10_searched_134 14 rfl hi ?_
      refine V_aload_n 0 rfl dX10_searched_135 rfl ?_
      refine V_get (k := 22) RC_X10 fl_X10_46 rfl (by decide) dX10_searched_136 0 rfl rfl ?_
      refine V_iload_n 2 rfl dX10_searched_139 rfl ?_
      refine V_iconst 1 dX10_searched_140 (by decide) ?_
      refine V_iadd dX10_searched_141 ?_
      obtain ⟨hi, hf⟩ := ixo_some hf
      refine V_iaload dX10_searched_142 13 rfl hi ?_
      refine V_isub dX10_searched_143 ?_
      obtain ⟨r13, hr13, hf⟩ := bno_some hf
      refine V_cV (As := [.int (x2 + (-1)), .int ((ga σ1 23 (Int32.toNatClampNeg ((x2 + (-1)) + (1)))) - (ga σ1 22 (Int32.toNatClampNeg ((x2 + (-1)) + (1)))))]) (rest := []) (k_X10_betters (d := 0) (Nat.le_refl _) hr13) LB_X10_betters lk_X10_233 (by omega) dX10_searched_144 rfl rfl (Nat.le_of_ble_eq_true rfl) (Nat.le_refl _) (Nat.le_refl _) 0 rfl ⟨rfl, rfl⟩ [] rfl ?_
      refine V_aload_n 0 rfl dX10_searched_147 rfl ?_
      refine V_iload_n 2 rfl dX10_searched_148 rfl ?_
      obtain ⟨r14, hr14, hf⟩ := bno_some hf
      refine V_cV (As := [.int (x2 + (-1))]) (rest := []) (k_X10_takesBack (d := 0) (Nat.le_refl _) hr14) LB_X10_takesBack lk_X10_236 (by omega) dX10_searched_149 rfl rfl (Nat.le_of_ble_eq_true rfl) (Nat.le_refl _) (Nat.le_refl _) 0 rfl ⟨rfl, rfl⟩ [] rfl ?_
      refine V_goto 296 dX10_searched_152 (by decide) ?_
      refine V_lv [(0, .ref (ad 0)), (1, .int x1), (2, .int (x2 + (-1)))] [0, 1, 2] rfl ?_
      exact v_X10_searched_296 hd hb61 hf
    · replace hf := (if_pos c6).symm.trans hf
      refine V_aload_n 0 rfl dX10_searched_115 rfl ?_
      refine V_get (k := 22) RC_X10 fl_X10_46 rfl (by decide) dX10_searched_116 0 rfl rfl ?_
      refine V_iconst 0 dX10_searched_119 (by decide) ?_
      obtain ⟨hi, hf⟩ := ixo_some hf
      refine V_iaload dX10_searched_120 13 rfl hi ?_
      cases hf
      exact V_iret rfl dX10_searched_121 ⟨rfl, rfl⟩
def f_X10_searched_61 : Nat → St → Int32 → Int32 → Option (Int32 × St)
  | 0, _, _, _ => none
  | n + 1, σ, x1, x2 => if (400) < (gi σ 24) then (some ((0), σ)) else (if (x2 - x2 / (2) * (2)) = 0 then (f_X10_searched_84 (f_X10_searched_61 n) σ x1 x2 x1) else (f_X10_searched_84 (f_X10_searched_61 n) σ x1 x2 ((1) - x1)))
set_option maxHeartbeats 4000000 in
set_option maxRecDepth 100000 in
theorem v_X10_searched_61 {l : Launch} {G : Gv} {ad : Nat → Nat} {d : Nat} {av0 : List Value} {w1 : va_W} {q : (Int32 × St)} (hd : 6 ≤ d) : ∀ (n : Nat) (σ : St) (x1 : Int32) (x2 : Int32), f_X10_searched_61 n σ x1 x2 = some q → VV l G yX10_searched cX10_searched 6 (some .int) d 0 0 av0 w1 (pD (some (.int q.1)) (wM G ad q.2)) 0 0 (wM G ad σ) 61 [(0, .ref (ad 0)), (1, .int x1), (2, .int x2)] [] := by
  intro n
  induction n with
  | zero =>
    intro σ x1 x2 hf
    cases hf
  | succ n ih =>
    intro σ x1 x2 hf
    rw [f_X10_searched_61] at hf
    refine V_aload_n 0 rfl dX10_searched_61 rfl ?_
    refine V_get (k := 24) RC_X10 fl_X10_223 rfl (by decide) dX10_searched_62 0 rfl rfl ?_
    refine V_sipush 400 dX10_searched_65 (by decide) ?_
    refine V_icmp_gt 299 dX10_searched_68 (by decide) (fun c1 => ?_) (fun c1 => ?_)
    · replace hf := (if_pos c1).symm.trans hf
      refine V_iconst 0 dX10_searched_299 (by decide) ?_
      cases hf
      exact V_iret rfl dX10_searched_300 ⟨rfl, rfl⟩
    · replace hf := (if_neg c1).symm.trans hf
      refine V_iload_n 2 rfl dX10_searched_71 rfl ?_
      refine V_iconst 2 dX10_searched_72 (by decide) ?_
      refine V_irem dX10_searched_73 (by decide) ?_
      refine V_if_ne 81 dX10_searched_74 (by decide) (fun c2 => ?_) (fun c2 => ?_)
      · replace hf := (if_neg c2).symm.trans hf
        refine V_iconst 1 dX10_searched_81 (by decide) ?_
        refine V_iload_n 1 rfl dX10_searched_82 rfl ?_
        refine V_isub dX10_searched_83 ?_
        exact v_X10_searched_84 hd ih hf
      · replace hf := (if_pos c2).symm.trans hf
        refine V_iload_n 1 rfl dX10_searched_77 rfl ?_
        refine V_goto 84 dX10_searched_78 (by decide) ?_
        exact v_X10_searched_84 hd ih hf
def f_X10_searched_23 (σ : St) (x1 : Int32) : Option (Int32 × St) := bno (f_X10_isOut σ x1) fun r1 => if (b2i r1) = 0 then (bno (f_X10_sumOn σ x1) fun r2 => some (((-2) * r2), σ)) else (bno (f_X10_sumOn σ ((1) - x1)) fun r3 => some (((2) * r3), σ))
set_option maxHeartbeats 4000000 in
set_option maxRecDepth 100000 in
theorem v_X10_searched_23 {l : Launch} {G : Gv} {ad : Nat → Nat} {d : Nat} {av0 : List Value} {w1 : va_W} {q : (Int32 × St)} {σ : St} {x1 : Int32} (hd : 6 ≤ d) (hf : f_X10_searched_23 σ x1 = some q) : VV l G yX10_searched cX10_searched 6 (some .int) d 0 0 av0 w1 (pD (some (.int q.1)) (wM G ad q.2)) 0 0 (wM G ad σ) 23 [(0, .ref (ad 0)), (1, .int x1)] [] := by
  unfold f_X10_searched_23 at hf
  refine V_aload_n 0 rfl dX10_searched_23 rfl ?_
  refine V_iload_n 1 rfl dX10_searched_24 rfl ?_
  obtain ⟨r1, hr1, hf⟩ := bno_some hf
  refine V_cV (As := [.int x1]) (rest := []) (k_X10_isOut (d := 1) (Nat.le_refl _) hr1) LB_X10_isOut lk_X10_227 (by omega) dX10_searched_25 rfl rfl (Nat.le_of_ble_eq_true rfl) (Nat.le_refl _) (Nat.le_refl _) 0 rfl ⟨rfl, rfl⟩ [.int (b2i r1)] rfl ?_
  refine V_if_eq 43 dX10_searched_28 (by decide) (fun c1 => ?_) (fun c1 => ?_)
  · replace hf := (if_pos c1).symm.trans hf
    refine V_bipush (-2) dX10_searched_43 (by decide) ?_
    refine V_aload_n 0 rfl dX10_searched_45 rfl ?_
    refine V_iload_n 1 rfl dX10_searched_46 rfl ?_
    obtain ⟨r2, hr2, hf⟩ := bno_some hf
    refine V_cV (As := [.int x1]) (rest := [.int (-2)]) (k_X10_sumOn (d := 0) (Nat.le_refl _) hr2) LB_X10_sumOn lk_X10_220 (by omega) dX10_searched_47 rfl rfl (Nat.le_of_ble_eq_true rfl) (Nat.le_refl _) (Nat.le_refl _) 0 rfl ⟨rfl, rfl⟩ [.int r2, .int (-2)] rfl ?_
    refine V_imul dX10_searched_50 ?_
    cases hf
    exact V_iret rfl dX10_searched_51 ⟨rfl, rfl⟩
  · replace hf := (if_neg c1).symm.trans hf
    refine V_iconst 2 dX10_searched_31 (by decide) ?_
    refine V_aload_n 0 rfl dX10_searched_32 rfl ?_
    refine V_iconst 1 dX10_searched_33 (by decide) ?_
    refine V_iload_n 1 rfl dX10_searched_34 rfl ?_
    refine V_isub dX10_searched_35 ?_
    obtain ⟨r3, hr3, hf⟩ := bno_some hf
    refine V_cV (As := [.int ((1) - x1)]) (rest := [.int (2)]) (k_X10_sumOn (d := 0) (Nat.le_refl _) hr3) LB_X10_sumOn lk_X10_220 (by omega) dX10_searched_36 rfl rfl (Nat.le_of_ble_eq_true rfl) (Nat.le_refl _) (Nat.le_refl _) 0 rfl ⟨rfl, rfl⟩ [.int r3, .int (2)] rfl ?_
    refine V_imul dX10_searched_39 ?_
    refine V_goto 51 dX10_searched_40 (by decide) ?_
    cases hf
    exact V_iret rfl dX10_searched_51 ⟨rfl, rfl⟩
def f_X10_searched (σ : St) (x1 : Int32) : Option (Int32 × St) := lt (si σ 24 (0)) fun σ1 => bno (f_X10_isOut σ1 x1) fun r1 => if (b2i r1) = 0 then (bno (f_X10_isOut σ1 ((1) - x1)) fun r2 => if (b2i r2) = 0 then (bno (f_X10_enters σ1 (0) (0) (0)) fun r3 => f_X10_searched_61 FU r3 x1 (0)) else (f_X10_searched_23 σ1 x1)) else (f_X10_searched_23 σ1 x1)
set_option maxHeartbeats 4000000 in
set_option maxRecDepth 100000 in
theorem v_X10_searched {l : Launch} {G : Gv} {ad : Nat → Nat} {d : Nat} {av0 : List Value} {w1 : va_W} {q : (Int32 × St)} {σ : St} {x1 : Int32} (hd : 6 ≤ d) (hf : f_X10_searched σ x1 = some q) : VV l G yX10_searched cX10_searched 6 (some .int) d 0 0 av0 w1 (pD (some (.int q.1)) (wM G ad q.2)) 0 0 (wM G ad σ) 0 [(0, .ref (ad 0)), (1, .int x1)] [] := by
  unfold f_X10_searched at hf
  refine V_aload_n 0 rfl dX10_searched_0 rfl ?_
  refine V_iconst 0 dX10_searched_1 (by decide) ?_
  obtain ⟨σ1, eσ1, hf⟩ := lt_some hf
  refine V_put (k := 24) RC_X10 fl_X10_223 rfl (by decide) rfl dX10_searched_2 0 rfl (Nat.le_of_ble_eq_true rfl) rfl rfl (wM G ad σ1) (by rw [eσ1]; rfl) ?_
  refine V_aload_n 0 rfl dX10_searched_5 rfl ?_
  refine V_iload_n 1 rfl dX10_searched_6 rfl ?_
  obtain ⟨r1, hr1, hf⟩ := bno_some hf
  refine V_cV (As := [.int x1]) (rest := []) (k_X10_isOut (d := 1) (Nat.le_refl _) hr1) LB_X10_isOut lk_X10_227 (by omega) dX10_searched_7 rfl rfl (Nat.le_of_ble_eq_true rfl) (Nat.le_refl _) (Nat.le_refl _) 0 rfl ⟨rfl, rfl⟩ [.int (b2i r1)] rfl ?_
  refine V_if_ne 23 dX10_searched_10 (by decide) (fun c1 => ?_) (fun c1 => ?_)
  · replace hf := (if_neg c1).symm.trans hf
    exact v_X10_searched_23 hd hf
  · replace hf := (if_pos c1).symm.trans hf
    refine V_aload_n 0 rfl dX10_searched_13 rfl ?_
    refine V_iconst 1 dX10_searched_14 (by decide) ?_
    refine V_iload_n 1 rfl dX10_searched_15 rfl ?_
    refine V_isub dX10_searched_16 ?_
    obtain ⟨r2, hr2, hf⟩ := bno_some hf
    refine V_cV (As := [.int ((1) - x1)]) (rest := []) (k_X10_isOut (d := 1) (Nat.le_refl _) hr2) LB_X10_isOut lk_X10_227 (by omega) dX10_searched_17 rfl rfl (Nat.le_of_ble_eq_true rfl) (Nat.le_refl _) (Nat.le_refl _) 0 rfl ⟨rfl, rfl⟩ [.int (b2i r2)] rfl ?_
    refine V_if_eq 52 dX10_searched_20 (by decide) (fun c2 => ?_) (fun c2 => ?_)
    · replace hf := (if_pos c2).symm.trans hf
      refine V_aload_n 0 rfl dX10_searched_52 rfl ?_
      refine V_iconst 0 dX10_searched_53 (by decide) ?_
      refine V_iconst 0 dX10_searched_54 (by decide) ?_
      refine V_iconst 0 dX10_searched_55 (by decide) ?_
      obtain ⟨r3, hr3, hf⟩ := bno_some hf
      refine V_cV (As := [.int (0), .int (0), .int (0)]) (rest := []) (k_X10_enters (d := 0) (Nat.le_refl _) hr3) LB_X10_enters lk_X10_230 (by omega) dX10_searched_56 rfl rfl (Nat.le_of_ble_eq_true rfl) (Nat.le_refl _) (Nat.le_refl _) 0 rfl ⟨rfl, rfl⟩ [] rfl ?_
      refine V_iconst 0 dX10_searched_59 (by decide) ?_
      refine V_istore_n [(0, .ref (ad 0)), (1, .int x1), (2, .int (0))] [1, 2, 0] dX10_searched_60 rfl (by decide) rfl ?_
      exact v_X10_searched_61 hd _ _ _ _ hf
    · replace hf := (if_neg c2).symm.trans hf
      exact v_X10_searched_23 hd hf
theorem k_X10_searched {l : Launch} {G : Gv} {ad : Nat → Nat} {d : Nat} {σ : St} {q : (Int32 × St)} {x1 : Int32} (hd : 6 ≤ d) (hf : f_X10_searched σ x1 = some q) : K l G yX10_searched cX10_searched 6 (some .int) d 0 0 [.ref (ad 0), .int x1] (wM G ad σ) (pD (some (.int q.1)) (wM G ad q.2)) := K_intro (by decide) (Nat.le_of_ble_eq_true rfl) (v_X10_searched hd hf)
