theorem fl_X2_19 : Cond.fieldLink RX2 19 RX2 "visited" "I" ∈ tblG := tin 107 (by decide +kernel) (by decide +kernel)
theorem fl_X2_9 : Cond.fieldLink RX2 9 RX2 "table" "LTileWordBoard$Table;" ∈ tblG := tin 105 (by decide +kernel) (by decide +kernel)
theorem fl_X9_118 : Cond.fieldLinkNest RX9 118 RX7 "board" "LTileWordBoard$Board;" "TileWordBoard" ∈ nestL := by decide +kernel
theorem fl_X9_18 : Cond.fieldLink RX9 18 RX9 "table" "LTileWordBoard$Table;" ∈ tblG := tin 134 (by decide +kernel) (by decide +kernel)
theorem fl_X9_68 : Cond.fieldLinkNest RX9 68 RX7 "words" "LTileWordBoard$Dictionary;" "TileWordBoard" ∈ nestL := by decide +kernel
theorem fl_X9_9 : Cond.fieldLink RX9 9 RX9 "text" "I" ∈ tblG := tin 133 (by decide +kernel) (by decide +kernel)
theorem lk_X2_61 : Cond.methodLink RX2 61 yX7_rack ∈ tblG ∧ Cond.instanceMethod yX7_rack ∈ tblG ∧ Cond.selects yX7_rack.cls yX7_rack yX7_rack ∈ tblG := ⟨tin 774 (by decide +kernel) (by decide +kernel), tin 236 (by decide +kernel) (by decide +kernel), tin 237 (by decide +kernel) (by decide +kernel)⟩
theorem LB_X2_isOut : LB yX2_isOut cX2_isOut 2 (some .boolean) 1 := ⟨tin 773 (by decide +kernel) (by decide +kernel), tin 6 (by decide +kernel) (by decide +kernel), by decide, by decide, by decide, by decide +kernel⟩
theorem lk_X2_84 : Cond.methodLink RX2 84 yX2_isOut ∈ tblG ∧ Cond.instanceMethod yX2_isOut ∈ tblG ∧ Cond.selects yX2_isOut.cls yX2_isOut yX2_isOut ∈ tblG := ⟨tin 770 (by decide +kernel) (by decide +kernel), tin 772 (by decide +kernel) (by decide +kernel), tsel (q := (yX2_isOut, 3)) (List.mem_of_getElem? (i := 16) (by decide +kernel))⟩
theorem LB_X7_valueOfRack : LB yX7_valueOfRack cX7_valueOfRack 5 (some .int) 1 := ⟨tin 782 (by decide +kernel) (by decide +kernel), tin 2 (by decide +kernel) (by decide +kernel), by decide, by decide, by decide, by decide +kernel⟩
theorem lk_X2_87 : Cond.methodLink RX2 87 yX7_valueOfRack ∈ tblG ∧ Cond.instanceMethod yX7_valueOfRack ∈ tblG ∧ Cond.selects yX7_valueOfRack.cls yX7_valueOfRack yX7_valueOfRack ∈ tblG := ⟨tin 779 (by decide +kernel) (by decide +kernel), tin 780 (by decide +kernel) (by decide +kernel), tin 781 (by decide +kernel) (by decide +kernel)⟩
theorem LB_X0_anchorSquares : LB yX0_anchorSquares cX0_anchorSquares 5 (some .long) 0 := ⟨tin 171 (by decide +kernel) (by decide +kernel), tin 4 (by decide +kernel) (by decide +kernel), by decide, by decide, by decide, by decide +kernel⟩
theorem lk_X9_167 : Cond.methodLink RX9 167 yX0_anchorSquares ∈ tblG ∧ Cond.instanceMethod yX0_anchorSquares ∈ tblG ∧ Cond.selects yX0_anchorSquares.cls yX0_anchorSquares yX0_anchorSquares ∈ tblG := ⟨tin 168 (by decide +kernel) (by decide +kernel), tin 169 (by decide +kernel) (by decide +kernel), tin 170 (by decide +kernel) (by decide +kernel)⟩
theorem LB_J13_bitCount_95d88 : LB yJ13_bitCount_95d88 cJ13_bitCount_95d88 2 (some .int) 1 := ⟨tin 181 (by decide +kernel) (by decide +kernel), tin 19 (by decide +kernel) (by decide +kernel), by decide, by decide, by decide, by decide +kernel⟩
theorem lk_X9_171 : Cond.methodLink RX9 171 yJ13_bitCount_95d88 ∈ tblG ∧ Cond.static yJ13_bitCount_95d88 ∈ tblG := ⟨tin 179 (by decide +kernel) (by decide +kernel), tin 180 (by decide +kernel) (by decide +kernel)⟩
theorem LB_X9_hashWord : LB yX9_hashWord cX9_hashWord 7 (some .long) 2 := ⟨tin 192 (by decide +kernel) (by decide +kernel), tin 1 (by decide +kernel) (by decide +kernel), by decide, by decide, by decide, by decide +kernel⟩
theorem lk_X9_249 : Cond.methodLink RX9 249 yX9_hashWord ∈ tblG ∧ Cond.static yX9_hashWord ∈ tblG := ⟨tin 190 (by decide +kernel) (by decide +kernel), tin 191 (by decide +kernel) (by decide +kernel)⟩
theorem lk_X9_270 : Cond.methodLink RX9 270 yX1_word ∈ tblG ∧ Cond.instanceMethod yX1_word ∈ tblG ∧ Cond.selects yX1_word.cls yX1_word yX1_word ∈ tblG := ⟨tin 216 (by decide +kernel) (by decide +kernel), tin 217 (by decide +kernel) (by decide +kernel), tin 218 (by decide +kernel) (by decide +kernel)⟩
theorem lk_X9_86 : Cond.methodLink RX9 86 yX1_size ∈ tblG ∧ Cond.instanceMethod yX1_size ∈ tblG ∧ Cond.selects yX1_size.cls yX1_size yX1_size ∈ tblG := ⟨tin 212 (by decide +kernel) (by decide +kernel), tin 213 (by decide +kernel) (by decide +kernel), tin 214 (by decide +kernel) (by decide +kernel)⟩
theorem lk_X9_90 : Cond.methodLink RX9 90 yX1_numberOf ∈ tblG ∧ Cond.instanceMethod yX1_numberOf ∈ tblG ∧ Cond.selects yX1_numberOf.cls yX1_numberOf yX1_numberOf ∈ tblG := ⟨tin 160 (by decide +kernel) (by decide +kernel), tin 161 (by decide +kernel) (by decide +kernel), tin 162 (by decide +kernel) (by decide +kernel)⟩
def f_X2_begin (σ : St) : Option St := lt (si σ 2 (0)) fun σ1 => some σ1
set_option maxHeartbeats 4000000 in
set_option maxRecDepth 100000 in
theorem v_X2_begin {l : Launch} {G : Gv} {ad : Nat → Nat} {d : Nat} {av0 : List Value} {w1 : va_W} {q : St} {σ : St} (hd : 0 ≤ d) (hf : f_X2_begin σ = some q) : VV l G yX2_begin cX2_begin 1 none d 0 0 av0 w1 (pD none (wC G ad q)) 0 0 (wC G ad σ) 0 [(0, .ref (ad 12))] [] := by
  unfold f_X2_begin at hf
  refine V_aload_n 0 rfl dX2_begin_0 rfl ?_
  refine V_iconst 0 dX2_begin_1 (by decide) ?_
  obtain ⟨σ1, eσ1, hf⟩ := lt_some hf
  refine V_put (k := 2) RC_X2 fl_X2_19 rfl (by decide) rfl dX2_begin_2 12 rfl (Nat.le_of_ble_eq_true rfl) rfl rfl (wC G ad σ1) (by rw [eσ1]; rfl) ?_
  cases hf
  exact V_vret rfl dX2_begin_5 ⟨rfl, rfl⟩
theorem k_X2_begin {l : Launch} {G : Gv} {ad : Nat → Nat} {d : Nat} {σ : St} {q : St} (hd : 0 ≤ d) (hf : f_X2_begin σ = some q) : K l G yX2_begin cX2_begin 1 none d 0 0 [.ref (ad 12)] (wC G ad σ) (pD none (wC G ad q)) := K_intro (by decide) (Nat.le_of_ble_eq_true rfl) (v_X2_begin hd hf)
def f_X2_hasFailed (σ : St) : Option Bool := if (gi σ 2) ≤ (400) then (some false) else (some true)
set_option maxHeartbeats 4000000 in
set_option maxRecDepth 100000 in
theorem v_X2_hasFailed {l : Launch} {G : Gv} {ad : Nat → Nat} {d : Nat} {av0 : List Value} {w1 : va_W} {q : Bool} {σ : St} (hd : 0 ≤ d) (hf : f_X2_hasFailed σ = some q) : VV l G yX2_hasFailed cX2_hasFailed 1 (some .boolean) d 0 0 av0 w1 (pD (some (.int (b2i q))) (wC G ad σ)) 0 0 (wC G ad σ) 0 [(0, .ref (ad 12))] [] := by
  unfold f_X2_hasFailed at hf
  refine V_aload_n 0 rfl dX2_hasFailed_0 rfl ?_
  refine V_get (k := 2) RC_X2 fl_X2_19 rfl (by decide) dX2_hasFailed_1 12 rfl rfl ?_
  refine V_sipush 400 dX2_hasFailed_4 (by decide) ?_
  refine V_icmp_le 14 dX2_hasFailed_7 (by decide) (fun c1 => ?_) (fun c1 => ?_)
  · replace hf := (if_pos c1).symm.trans hf
    refine V_iconst 0 dX2_hasFailed_14 (by decide) ?_
    cases hf
    exact V_zret (ty := .boolean) rfl rfl dX2_hasFailed_15 ⟨rfl, rfl⟩
  · replace hf := (if_neg c1).symm.trans hf
    refine V_iconst 1 dX2_hasFailed_10 (by decide) ?_
    refine V_goto 15 dX2_hasFailed_11 (by decide) ?_
    cases hf
    exact V_zret (ty := .boolean) rfl rfl dX2_hasFailed_15 ⟨rfl, rfl⟩
theorem k_X2_hasFailed {l : Launch} {G : Gv} {ad : Nat → Nat} {d : Nat} {σ : St} {q : Bool} (hd : 0 ≤ d) (hf : f_X2_hasFailed σ = some q) : K l G yX2_hasFailed cX2_hasFailed 1 (some .boolean) d 0 0 [.ref (ad 12)] (wC G ad σ) (pD (some (.int (b2i q))) (wC G ad σ)) := K_intro (by decide) (Nat.le_of_ble_eq_true rfl) (v_X2_hasFailed hd hf)
def f_X2_isOut (σ : St) (x1 : Int32) : Option Bool := bno (f_X7_rack σ x1) fun r1 => if r1 = 0 then (some true) else (some false)
set_option maxHeartbeats 4000000 in
set_option maxRecDepth 100000 in
theorem v_X2_isOut {l : Launch} {G : Gv} {ad : Nat → Nat} {d : Nat} {av0 : List Value} {w1 : va_W} {q : Bool} {σ : St} {x1 : Int32} (hd : 2 ≤ d) (hf : f_X2_isOut σ x1 = some q) : VV l G yX2_isOut cX2_isOut 2 (some .boolean) d 0 0 av0 w1 (pD (some (.int (b2i q))) (wC G ad σ)) 0 0 (wC G ad σ) 0 [(0, .ref (ad 12)), (1, .int x1)] [] := by
  unfold f_X2_isOut at hf
  refine V_aload_n 0 rfl dX2_isOut_0 rfl ?_
  refine V_get (k := 0) RC_X2 fl_X2_9 rfl (by decide) dX2_isOut_1 12 rfl rfl ?_
  refine V_iload_n 1 rfl dX2_isOut_4 rfl ?_
  obtain ⟨r1, hr1, hf⟩ := bno_some hf
  refine V_cV (As := [.int x1]) (rest := []) (k_X7_rack (d := 1) (Nat.le_refl _) hr1) LB_X7_rack lk_X2_61 (by omega) dX2_isOut_5 rfl rfl (Nat.le_of_ble_eq_true rfl) (Nat.le_refl _) (Nat.le_refl _) 1 rfl ⟨rfl, rfl⟩ [.int r1] rfl ?_
  refine V_if_ne 15 dX2_isOut_8 (by decide) (fun c1 => ?_) (fun c1 => ?_)
  · replace hf := (if_neg c1).symm.trans hf
    refine V_iconst 0 dX2_isOut_15 (by decide) ?_
    cases hf
    exact V_zret (ty := .boolean) rfl rfl dX2_isOut_16 ⟨rfl, rfl⟩
  · replace hf := (if_pos c1).symm.trans hf
    refine V_iconst 1 dX2_isOut_11 (by decide) ?_
    refine V_goto 16 dX2_isOut_12 (by decide) ?_
    cases hf
    exact V_zret (ty := .boolean) rfl rfl dX2_isOut_16 ⟨rfl, rfl⟩
theorem k_X2_isOut {l : Launch} {G : Gv} {ad : Nat → Nat} {d : Nat} {σ : St} {q : Bool} {x1 : Int32} (hd : 2 ≤ d) (hf : f_X2_isOut σ x1 = some q) : K l G yX2_isOut cX2_isOut 2 (some .boolean) d 0 0 [.ref (ad 12), .int x1] (wC G ad σ) (pD (some (.int (b2i q))) (wC G ad σ)) := K_intro (by decide) (Nat.le_of_ble_eq_true rfl) (v_X2_isOut hd hf)
def f_X2_hasEnded_21 (σ : St) : Option Bool := some true
set_option maxHeartbeats 4000000 in
set_option maxRecDepth 100000 in
theorem v_X2_hasEnded_21 {l : Launch} {G : Gv} {ad : Nat → Nat} {d : Nat} {av0 : List Value} {w1 : va_W} {q : Bool} {σ : St} (hd : 3 ≤ d) (hf : f_X2_hasEnded_21 σ = some q) : VV l G yX2_hasEnded cX2_hasEnded 2 (some .boolean) d 0 0 av0 w1 (pD (some (.int (b2i q))) (wC G ad σ)) 0 0 (wC G ad σ) 21 [] [] := by
  unfold f_X2_hasEnded_21 at hf
  refine V_iconst 1 dX2_hasEnded_21 (by decide) ?_
  refine V_goto 26 dX2_hasEnded_22 (by decide) ?_
  cases hf
  exact V_zret (ty := .boolean) rfl rfl dX2_hasEnded_26 ⟨rfl, rfl⟩
def f_X2_hasEnded (σ : St) (x1 : Int32) : Option Bool := bno (f_X2_isOut σ (0)) fun r1 => if (b2i r1) = 0 then (bno (f_X2_isOut σ (1)) fun r2 => if (b2i r2) = 0 then (if x1 < (2) then (some false) else (f_X2_hasEnded_21 σ)) else (f_X2_hasEnded_21 σ)) else (f_X2_hasEnded_21 σ)
set_option maxHeartbeats 4000000 in
set_option maxRecDepth 100000 in
theorem v_X2_hasEnded {l : Launch} {G : Gv} {ad : Nat → Nat} {d : Nat} {av0 : List Value} {w1 : va_W} {q : Bool} {σ : St} {x1 : Int32} (hd : 3 ≤ d) (hf : f_X2_hasEnded σ x1 = some q) : VV l G yX2_hasEnded cX2_hasEnded 2 (some .boolean) d 0 0 av0 w1 (pD (some (.int (b2i q))) (wC G ad σ)) 0 0 (wC G ad σ) 0 [(0, .ref (ad 12)), (1, .int x1)] [] := by
  unfold f_X2_hasEnded at hf
  refine V_aload_n 0 rfl dX2_hasEnded_0 rfl ?_
  refine V_iconst 0 dX2_hasEnded_1 (by decide) ?_
  obtain ⟨r1, hr1, hf⟩ := bno_some hf
  refine V_cV (As := [.int (0)]) (rest := []) (k_X2_isOut (d := 2) (Nat.le_refl _) hr1) LB_X2_isOut lk_X2_84 (by omega) dX2_hasEnded_2 rfl rfl (Nat.le_of_ble_eq_true rfl) (Nat.le_refl _) (Nat.le_refl _) 12 rfl ⟨rfl, rfl⟩ [.int (b2i r1)] rfl ?_
  refine V_if_ne 21 dX2_hasEnded_5 (by decide) (fun c1 => ?_) (fun c1 => ?_)
  · replace hf := (if_neg c1).symm.trans hf
    refine V_lv [] [] rfl ?_
    exact v_X2_hasEnded_21 hd hf
  · replace hf := (if_pos c1).symm.trans hf
    refine V_aload_n 0 rfl dX2_hasEnded_8 rfl ?_
    refine V_iconst 1 dX2_hasEnded_9 (by decide) ?_
    obtain ⟨r2, hr2, hf⟩ := bno_some hf
    refine V_cV (As := [.int (1)]) (rest := []) (k_X2_isOut (d := 2) (Nat.le_refl _) hr2) LB_X2_isOut lk_X2_84 (by omega) dX2_hasEnded_10 rfl rfl (Nat.le_of_ble_eq_true rfl) (Nat.le_refl _) (Nat.le_refl _) 12 rfl ⟨rfl, rfl⟩ [.int (b2i r2)] rfl ?_
    refine V_if_ne 21 dX2_hasEnded_13 (by decide) (fun c2 => ?_) (fun c2 => ?_)
    · replace hf := (if_neg c2).symm.trans hf
      refine V_lv [] [] rfl ?_
      exact v_X2_hasEnded_21 hd hf
    · replace hf := (if_pos c2).symm.trans hf
      refine V_iload_n 1 rfl dX2_hasEnded_16 rfl ?_
      refine V_iconst 2 dX2_hasEnded_17 (by decide) ?_
      refine V_icmp_lt 25 dX2_hasEnded_18 (by decide) (fun c3 => ?_) (fun c3 => ?_)
      · replace hf := (if_pos c3).symm.trans hf
        refine V_iconst 0 dX2_hasEnded_25 (by decide) ?_
        cases hf
        exact V_zret (ty := .boolean) rfl rfl dX2_hasEnded_26 ⟨rfl, rfl⟩
      · replace hf := (if_neg c3).symm.trans hf
        refine V_lv [] [] rfl ?_
        exact v_X2_hasEnded_21 hd hf
theorem k_X2_hasEnded {l : Launch} {G : Gv} {ad : Nat → Nat} {d : Nat} {σ : St} {q : Bool} {x1 : Int32} (hd : 3 ≤ d) (hf : f_X2_hasEnded σ x1 = some q) : K l G yX2_hasEnded cX2_hasEnded 2 (some .boolean) d 0 0 [.ref (ad 12), .int x1] (wC G ad σ) (pD (some (.int (b2i q))) (wC G ad σ)) := K_intro (by decide) (Nat.le_of_ble_eq_true rfl) (v_X2_hasEnded hd hf)
def f_X2_finalDifference (σ : St) (x1 : Int32) : Option Int32 := bno (f_X7_valueOfRack σ x1) fun r1 => bno (f_X7_valueOfRack σ ((1) - x1)) fun r2 => bno (f_X2_isOut σ x1) fun r3 => if (b2i r3) = 0 then (bno (f_X2_isOut σ ((1) - x1)) fun r4 => if (b2i r4) = 0 then (some (r2 - r1)) else (some ((-2) * r1))) else (some ((2) * r2))
set_option maxHeartbeats 4000000 in
set_option maxRecDepth 100000 in
theorem v_X2_finalDifference {l : Launch} {G : Gv} {ad : Nat → Nat} {d : Nat} {av0 : List Value} {w1 : va_W} {q : Int32} {σ : St} {x1 : Int32} (hd : 3 ≤ d) (hf : f_X2_finalDifference σ x1 = some q) : VV l G yX2_finalDifference cX2_finalDifference 4 (some .int) d 0 0 av0 w1 (pD (some (.int q)) (wC G ad σ)) 0 0 (wC G ad σ) 0 [(0, .ref (ad 12)), (1, .int x1)] [] := by
  unfold f_X2_finalDifference at hf
  refine V_aload_n 0 rfl dX2_finalDifference_0 rfl ?_
  refine V_get (k := 0) RC_X2 fl_X2_9 rfl (by decide) dX2_finalDifference_1 12 rfl rfl ?_
  refine V_iload_n 1 rfl dX2_finalDifference_4 rfl ?_
  obtain ⟨r1, hr1, hf⟩ := bno_some hf
  refine V_cV (As := [.int x1]) (rest := []) (k_X7_valueOfRack (d := 2) (Nat.le_refl _) hr1) LB_X7_valueOfRack lk_X2_87 (by omega) dX2_finalDifference_5 rfl rfl (Nat.le_of_ble_eq_true rfl) (Nat.le_refl _) (Nat.le_refl _) 1 rfl ⟨rfl, rfl⟩ [.int r1] rfl ?_
  refine V_istore_n [(0, .ref (ad 12)), (1, .int x1), (2, .int r1)] [1, 2, 0] dX2_finalDifference_8 rfl (by decide) rfl ?_
  refine V_aload_n 0 rfl dX2_finalDifference_9 rfl ?_
  refine V_get (k := 0) RC_X2 fl_X2_9 rfl (by decide) dX2_finalDifference_10 12 rfl rfl ?_
  refine V_iconst 1 dX2_finalDifference_13 (by decide) ?_
  refine V_iload_n 1 rfl dX2_finalDifference_14 rfl ?_
  refine V_isub dX2_finalDifference_15 ?_
  obtain ⟨r2, hr2, hf⟩ := bno_some hf
  refine V_cV (As := [.int ((1) - x1)]) (rest := []) (k_X7_valueOfRack (d := 2) (Nat.le_refl _) hr2) LB_X7_valueOfRack lk_X2_87 (by omega) dX2_finalDifference_16 rfl rfl (Nat.le_of_ble_eq_true rfl) (Nat.le_refl _) (Nat.le_refl _) 1 rfl ⟨rfl, rfl⟩ [.int r2] rfl ?_
  refine V_istore_n [(0, .ref (ad 12)), (1, .int x1), (2, .int r1), (3, .int r2)] [1, 2, 3, 0] dX2_finalDifference_19 rfl (by decide) rfl ?_
  refine V_aload_n 0 rfl dX2_finalDifference_20 rfl ?_
  refine V_iload_n 1 rfl dX2_finalDifference_21 rfl ?_
  obtain ⟨r3, hr3, hf⟩ := bno_some hf
  refine V_cV (As := [.int x1]) (rest := []) (k_X2_isOut (d := 2) (Nat.le_refl _) hr3) LB_X2_isOut lk_X2_84 (by omega) dX2_finalDifference_22 rfl rfl (Nat.le_of_ble_eq_true rfl) (Nat.le_refl _) (Nat.le_refl _) 12 rfl ⟨rfl, rfl⟩ [.int (b2i r3)] rfl ?_
  refine V_if_eq 32 dX2_finalDifference_25 (by decide) (fun c1 => ?_) (fun c1 => ?_)
  · replace hf := (if_pos c1).symm.trans hf
    refine V_aload_n 0 rfl dX2_finalDifference_32 rfl ?_
    refine V_iconst 1 dX2_finalDifference_33 (by decide) ?_
    refine V_iload_n 1 rfl dX2_finalDifference_34 rfl ?_
    refine V_isub dX2_finalDifference_35 ?_
    obtain ⟨r4, hr4, hf⟩ := bno_some hf
    refine V_cV (As := [.int ((1) - x1)]) (rest := []) (k_X2_isOut (d := 2) (Nat.le_refl _) hr4) LB_X2_isOut lk_X2_84 (by omega) dX2_finalDifference_36 rfl rfl (Nat.le_of_ble_eq_true rfl) (Nat.le_refl _) (Nat.le_refl _) 12 rfl ⟨rfl, rfl⟩ [.int (b2i r4)] rfl ?_
    refine V_if_eq 49 dX2_finalDifference_39 (by decide) (fun c2 => ?_) (fun c2 => ?_)
    · replace hf := (if_pos c2).symm.trans hf
      refine V_iload_n 3 rfl dX2_finalDifference_49 rfl ?_
      refine V_iload_n 2 rfl dX2_finalDifference_50 rfl ?_
      refine V_isub dX2_finalDifference_51 ?_
      cases hf
      exact V_iret rfl dX2_finalDifference_52 ⟨rfl, rfl⟩
    · replace hf := (if_neg c2).symm.trans hf
      refine V_bipush (-2) dX2_finalDifference_42 (by decide) ?_
      refine V_iload_n 2 rfl dX2_finalDifference_44 rfl ?_
      refine V_imul dX2_finalDifference_45 ?_
      refine V_goto 52 dX2_finalDifference_46 (by decide) ?_
      cases hf
      exact V_iret rfl dX2_finalDifference_52 ⟨rfl, rfl⟩
  · replace hf := (if_neg c1).symm.trans hf
    refine V_iconst 2 dX2_finalDifference_28 (by decide) ?_
    refine V_iload_n 3 rfl dX2_finalDifference_29 rfl ?_
    refine V_imul dX2_finalDifference_30 ?_
    cases hf
    exact V_iret rfl dX2_finalDifference_31 ⟨rfl, rfl⟩
theorem k_X2_finalDifference {l : Launch} {G : Gv} {ad : Nat → Nat} {d : Nat} {σ : St} {q : Int32} {x1 : Int32} (hd : 3 ≤ d) (hf : f_X2_finalDifference σ x1 = some q) : K l G yX2_finalDifference cX2_finalDifference 4 (some .int) d 0 0 [.ref (ad 12), .int x1] (wC G ad σ) (pD (some (.int q)) (wC G ad σ)) := K_intro (by decide) (Nat.le_of_ble_eq_true rfl) (v_X2_finalDifference hd hf)
def f_X9_lookUp (σ : St) : Option Int32 := bno (f_X1_numberOf σ (gi σ 0)) fun r1 => some r1
set_option maxHeartbeats 4000000 in
set_option maxRecDepth 100000 in
theorem v_X9_lookUp {l : Launch} {G : Gv} {ad : Nat → Nat} {d : Nat} {av0 : List Value} {w1 : va_W} {q : Int32} {σ : St} (hd : 1 ≤ d) (hf : f_X9_lookUp σ = some q) : VV l G yX9_lookUp cX9_lookUp 1 (some .int) d 0 0 av0 w1 (pD (some (.int q)) (wC G ad σ)) 0 0 (wC G ad σ) 0 [(0, .ref (ad 0))] [] := by
  unfold f_X9_lookUp at hf
  refine V_aload_n 0 rfl dX9_lookUp_0 rfl ?_
  refine V_get (k := 1) RC_X9 fl_X9_18 rfl (by decide) dX9_lookUp_1 0 rfl rfl ?_
  refine V_getN (k := 0) RC_X7 fl_X9_68 rfl (by decide) dX9_lookUp_4 1 rfl rfl ?_
  refine V_aload_n 0 rfl dX9_lookUp_7 rfl ?_
  refine V_get (k := 0) RC_X9 fl_X9_9 rfl (by decide) dX9_lookUp_8 0 rfl rfl ?_
  obtain ⟨r1, hr1, hf⟩ := bno_some hf
  refine V_cV (As := [.int (gi σ 0)]) (rest := []) (k_X1_numberOf (d := 0) (Nat.le_refl _) hr1) LB_X1_numberOf lk_X9_90 (by omega) dX9_lookUp_11 rfl rfl (Nat.le_of_ble_eq_true rfl) (Nat.le_refl _) (Nat.le_refl _) 2 rfl ⟨rfl, rfl⟩ [.int r1] rfl ?_
  cases hf
  exact V_iret rfl dX9_lookUp_14 ⟨rfl, rfl⟩
theorem k_X9_lookUp {l : Launch} {G : Gv} {ad : Nat → Nat} {d : Nat} {σ : St} {q : Int32} (hd : 1 ≤ d) (hf : f_X9_lookUp σ = some q) : K l G yX9_lookUp cX9_lookUp 1 (some .int) d 0 0 [.ref (ad 0)] (wC G ad σ) (pD (some (.int q)) (wC G ad σ)) := K_intro (by decide) (Nat.le_of_ble_eq_true rfl) (v_X9_lookUp hd hf)
def f_X9_clearText (σ : St) : Option (Int32 × St) := bno (f_X8_length (gi σ 0)) fun r1 => lt (si σ 0 (0)) fun σ1 => some (r1, σ1)
set_option maxHeartbeats 4000000 in
set_option maxRecDepth 100000 in
theorem v_X9_clearText {l : Launch} {G : Gv} {ad : Nat → Nat} {d : Nat} {av0 : List Value} {w1 : va_W} {q : (Int32 × St)} {σ : St} (hd : 1 ≤ d) (hf : f_X9_clearText σ = some q) : VV l G yX9_clearText cX9_clearText 2 (some .int) d 0 0 av0 w1 (pD (some (.int q.1)) (wC G ad q.2)) 0 0 (wC G ad σ) 0 [(0, .ref (ad 0))] [] := by
  unfold f_X9_clearText at hf
  refine V_aload_n 0 rfl dX9_clearText_0 rfl ?_
  refine V_get (k := 0) RC_X9 fl_X9_9 rfl (by decide) dX9_clearText_1 0 rfl rfl ?_
  obtain ⟨r1, hr1, hf⟩ := bno_some hf
  refine V_cS (As := [.int (gi σ 0)]) (rest := []) (k_X8_length (d := 0) (Nat.le_refl _) hr1) LB_X8_length lk_X9_51 (by omega) dX9_clearText_4 rfl rfl (Nat.le_of_ble_eq_true rfl) (Nat.le_refl _) (Nat.le_refl _) [.int r1] rfl ?_
  refine V_istore_n [(0, .ref (ad 0)), (1, .int r1)] [1, 0] dX9_clearText_7 rfl (by decide) rfl ?_
  refine V_aload_n 0 rfl dX9_clearText_8 rfl ?_
  refine V_iconst 0 dX9_clearText_9 (by decide) ?_
  obtain ⟨σ1, eσ1, hf⟩ := lt_some hf
  refine V_put (k := 0) RC_X9 fl_X9_9 rfl (by decide) rfl dX9_clearText_10 0 rfl (Nat.le_of_ble_eq_true rfl) rfl rfl (wC G ad σ1) (by rw [eσ1]; rfl) ?_
  refine V_iload_n 1 rfl dX9_clearText_13 rfl ?_
  cases hf
  exact V_iret rfl dX9_clearText_14 ⟨rfl, rfl⟩
theorem k_X9_clearText {l : Launch} {G : Gv} {ad : Nat → Nat} {d : Nat} {σ : St} {q : (Int32 × St)} (hd : 1 ≤ d) (hf : f_X9_clearText σ = some q) : K l G yX9_clearText cX9_clearText 2 (some .int) d 0 0 [.ref (ad 0)] (wC G ad σ) (pD (some (.int q.1)) (wC G ad q.2)) := K_intro (by decide) (Nat.le_of_ble_eq_true rfl) (v_X9_clearText hd hf)
def f_X9_anchors (σ : St) : Option Int32 := bno (f_X0_anchorSquares σ) fun r1 => bno (f_J13_bitCount_95d88 r1) fun r2 => some r2
set_option maxHeartbeats 4000000 in
set_option maxRecDepth 100000 in
theorem v_X9_anchors {l : Launch} {G : Gv} {ad : Nat → Nat} {d : Nat} {av0 : List Value} {w1 : va_W} {q : Int32} {σ : St} (hd : 2 ≤ d) (hf : f_X9_anchors σ = some q) : VV l G yX9_anchors cX9_anchors 1 (some .int) d 0 0 av0 w1 (pD (some (.int q)) (wC G ad σ)) 0 0 (wC G ad σ) 0 [(0, .ref (ad 0))] [] := by
  unfold f_X9_anchors at hf
  refine V_aload_n 0 rfl dX9_anchors_0 rfl ?_
  refine V_get (k := 1) RC_X9 fl_X9_18 rfl (by decide) dX9_anchors_1 0 rfl rfl ?_
  refine V_getN (k := 1) RC_X7 fl_X9_118 rfl (by decide) dX9_anchors_4 1 rfl rfl ?_
  obtain ⟨r1, hr1, hf⟩ := bno_some hf
  refine V_cV (As := []) (rest := []) (k_X0_anchorSquares (d := 1) (Nat.le_refl _) hr1) LB_X0_anchorSquares lk_X9_167 (by omega) dX9_anchors_7 rfl rfl (Nat.le_of_ble_eq_true rfl) (Nat.le_refl _) (Nat.le_refl _) 4 rfl ⟨rfl, rfl⟩ [.long r1] rfl ?_
  obtain ⟨r2, hr2, hf⟩ := bno_some hf
  refine V_cS (As := [.long r1]) (rest := []) (k_J13_bitCount_95d88 (d := 0) (Nat.le_refl _) hr2) LB_J13_bitCount_95d88 lk_X9_171 (by omega) dX9_anchors_10 rfl rfl (Nat.le_of_ble_eq_true rfl) (Nat.le_refl _) (Nat.le_refl _) [.int r2] rfl ?_
  cases hf
  exact V_iret rfl dX9_anchors_13 ⟨rfl, rfl⟩
theorem k_X9_anchors {l : Launch} {G : Gv} {ad : Nat → Nat} {d : Nat} {σ : St} {q : Int32} (hd : 2 ≤ d) (hf : f_X9_anchors σ = some q) : K l G yX9_anchors cX9_anchors 1 (some .int) d 0 0 [.ref (ad 0)] (wC G ad σ) (pD (some (.int q)) (wC G ad σ)) := K_intro (by decide) (Nat.le_of_ble_eq_true rfl) (v_X9_anchors hd hf)
def f_X9_hashDictionary_24 (σ : St) : Nat → Int32 → Int64 → Int32 → Option Int64
  | 0, _, _, _ => none
  | n + 1, x3, x4, x6 => if x3 ≤ x6 then (some x4) else (bno (f_X1_word σ x6) fun r1 => bno (f_X9_hashWord x4 r1) fun r2 => f_X9_hashDictionary_24 σ n x3 r2 (x6 + 1))
set_option maxHeartbeats 4000000 in
set_option maxRecDepth 100000 in
theorem v_X9_hashDictionary_24 {l : Launch} {G : Gv} {ad : Nat → Nat} {d : Nat} {av0 : List Value} {w1 : va_W} {q : Int64} {σ : St} (hd : 2 ≤ d) : ∀ (n : Nat) (x3 : Int32) (x4 : Int64) (x6 : Int32), f_X9_hashDictionary_24 σ n x3 x4 x6 = some q → VV l G yX9_hashDictionary cX9_hashDictionary 7 (some .long) d 0 0 av0 w1 (pD (some (.long q)) (wC G ad σ)) 0 0 (wC G ad σ) 24 [(0, .ref (ad 0)), (3, .int x3), (4, .long x4), (6, .int x6)] [] := by
  intro n
  induction n with
  | zero =>
    intro x3 x4 x6 hf
    cases hf
  | succ n ih =>
    intro x3 x4 x6 hf
    rw [f_X9_hashDictionary_24] at hf
    refine V_iload 3 rfl dX9_hashDictionary_24 ?_
    refine V_iload_n 1 rfl dX9_hashDictionary_26 rfl ?_
    refine V_icmp_ge 55 dX9_hashDictionary_27 (by decide) (fun c1 => ?_) (fun c1 => ?_)
    · replace hf := (if_pos c1).symm.trans hf
      refine V_lload 2 rfl dX9_hashDictionary_55 ?_
      cases hf
      exact V_lret rfl dX9_hashDictionary_57 ⟨rfl, rfl⟩
    · replace hf := (if_neg c1).symm.trans hf
      refine V_lload 2 rfl dX9_hashDictionary_30 ?_
      refine V_aload_n 0 rfl dX9_hashDictionary_32 rfl ?_
      refine V_get (k := 1) RC_X9 fl_X9_18 rfl (by decide) dX9_hashDictionary_33 0 rfl rfl ?_
      refine V_getN (k := 0) RC_X7 fl_X9_68 rfl (by decide) dX9_hashDictionary_36 1 rfl rfl ?_
      refine V_iload 3 rfl dX9_hashDictionary_39 ?_
      obtain ⟨r1, hr1, hf⟩ := bno_some hf
      refine V_cV (As := [.int x6]) (rest := [.long x4]) (k_X1_word (d := 0) (Nat.le_refl _) hr1) LB_X1_word lk_X9_270 (by omega) dX9_hashDictionary_41 rfl rfl (Nat.le_of_ble_eq_true rfl) (Nat.le_refl _) (Nat.le_refl _) 2 rfl ⟨rfl, rfl⟩ [.int r1, .long x4] rfl ?_
      obtain ⟨r2, hr2, hf⟩ := bno_some hf
      refine V_cS (As := [.long x4, .int r1]) (rest := []) (k_X9_hashWord (d := 1) (Nat.le_refl _) hr2) LB_X9_hashWord lk_X9_249 (by omega) dX9_hashDictionary_44 rfl rfl (Nat.le_of_ble_eq_true rfl) (Nat.le_refl _) (Nat.le_refl _) [.long r2] rfl ?_
      refine V_lstore [(0, .ref (ad 0)), (3, .int x3), (4, .long r2), (6, .int x6)] [1, 2, 0, 3] dX9_hashDictionary_47 (by decide) rfl ?_
      refine V_iinc (1) 3 [(0, .ref (ad 0)), (3, .int x3), (4, .long r2), (6, .int (x6 + 1))] [1, 2, 3, 0] dX9_hashDictionary_49 rfl (by decide) (by decide) rfl ?_
      refine V_goto 24 dX9_hashDictionary_52 (by decide) ?_
      exact ih _ _ _ hf
def f_X9_hashDictionary (σ : St) (x1 : Int64) : Option Int64 := bno (f_X1_size σ) fun r1 => f_X9_hashDictionary_24 σ FU r1 (((31) * x1) + (Int32.toInt64 r1)) (0)
set_option maxHeartbeats 4000000 in
set_option maxRecDepth 100000 in
theorem v_X9_hashDictionary {l : Launch} {G : Gv} {ad : Nat → Nat} {d : Nat} {av0 : List Value} {w1 : va_W} {q : Int64} {σ : St} {x1 : Int64} (hd : 2 ≤ d) (hf : f_X9_hashDictionary σ x1 = some q) : VV l G yX9_hashDictionary cX9_hashDictionary 7 (some .long) d 0 0 av0 w1 (pD (some (.long q)) (wC G ad σ)) 0 0 (wC G ad σ) 0 [(0, .ref (ad 0)), (1, .long x1)] [] := by
  unfold f_X9_hashDictionary at hf
  refine V_aload_n 0 rfl dX9_hashDictionary_0 rfl ?_
  refine V_get (k := 1) RC_X9 fl_X9_18 rfl (by decide) dX9_hashDictionary_1 0 rfl rfl ?_
  refine V_getN (k := 0) RC_X7 fl_X9_68 rfl (by decide) dX9_hashDictionary_4 1 rfl rfl ?_
  obtain ⟨r1, hr1, hf⟩ := bno_some hf
  refine V_cV (As := []) (rest := []) (k_X1_size (d := 0) (Nat.le_refl _) hr1) LB_X1_size lk_X9_86 (by omega) dX9_hashDictionary_7 rfl rfl (Nat.le_of_ble_eq_true rfl) (Nat.le_refl _) (Nat.le_refl _) 2 rfl ⟨rfl, rfl⟩ [.int r1] rfl ?_
  refine V_istore_n [(0, .ref (ad 0)), (1, .long x1), (3, .int r1)] [1, 2, 0] dX9_hashDictionary_10 rfl (by decide) rfl ?_
  refine V_ldc2 (31) kc_X9_253 dX9_hashDictionary_11 ?_
  refine V_lload_n 1 rfl dX9_hashDictionary_14 rfl ?_
  refine V_lmul dX9_hashDictionary_15 ?_
  refine V_iload_n 2 rfl dX9_hashDictionary_16 rfl ?_
  refine V_i2l dX9_hashDictionary_17 ?_
  refine V_ladd dX9_hashDictionary_18 ?_
  refine V_lstore [(0, .ref (ad 0)), (1, .long x1), (3, .int r1), (4, .long (((31) * x1) + (Int32.toInt64 r1)))] [1, 2, 3, 0] dX9_hashDictionary_19 (by decide) rfl ?_
  refine V_iconst 0 dX9_hashDictionary_21 (by decide) ?_
  refine V_istore [(0, .ref (ad 0)), (1, .long x1), (3, .int r1), (4, .long (((31) * x1) + (Int32.toInt64 r1))), (6, .int (0))] [1, 2, 3, 4, 0] dX9_hashDictionary_22 (by decide) rfl ?_
  refine V_lv [(0, .ref (ad 0)), (3, .int r1), (4, .long (((31) * x1) + (Int32.toInt64 r1))), (6, .int (0))] [0, 2, 3, 4] rfl ?_
  exact v_X9_hashDictionary_24 hd _ _ _ _ hf
theorem k_X9_hashDictionary {l : Launch} {G : Gv} {ad : Nat → Nat} {d : Nat} {σ : St} {q : Int64} {x1 : Int64} (hd : 2 ≤ d) (hf : f_X9_hashDictionary σ x1 = some q) : K l G yX9_hashDictionary cX9_hashDictionary 7 (some .long) d 0 0 [.ref (ad 0), .long x1] (wC G ad σ) (pD (some (.long q)) (wC G ad σ)) := K_intro (by decide) (Nat.le_of_ble_eq_true rfl) (v_X9_hashDictionary hd hf)
