theorem kc_X9_247 : Cond.constantLong RX9 247 (2803) ∈ tblG := tin 189 (by decide +kernel) (by decide +kernel)
theorem fl_X9_43 : Cond.fieldLink RX9 43 RX9 "history" "LTileWordBoard$History;" ∈ tblG := tin 137 (by decide +kernel) (by decide +kernel)
theorem lk_X9_100 : Cond.methodLink RX9 100 yX7_value ∈ tblG ∧ Cond.instanceMethod yX7_value ∈ tblG ∧ Cond.selects yX7_value.cls yX7_value yX7_value ∈ tblG := ⟨tin 197 (by decide +kernel) (by decide +kernel), tin 198 (by decide +kernel) (by decide +kernel), tin 199 (by decide +kernel) (by decide +kernel)⟩
theorem LB_X7_changeLetter : LB yX7_changeLetter cX7_changeLetter 4 none 3 := ⟨tin 518 (by decide +kernel) (by decide +kernel), tin 2 (by decide +kernel) (by decide +kernel), by decide, by decide, by decide, by decide +kernel⟩
theorem lk_X9_103 : Cond.methodLink RX9 103 yX7_changeLetter ∈ tblG ∧ Cond.instanceMethod yX7_changeLetter ∈ tblG ∧ Cond.selects yX7_changeLetter.cls yX7_changeLetter yX7_changeLetter ∈ tblG := ⟨tin 515 (by decide +kernel) (by decide +kernel), tin 516 (by decide +kernel) (by decide +kernel), tin 517 (by decide +kernel) (by decide +kernel)⟩
theorem lk_X9_122 : Cond.methodLink RX9 122 yX0_premium ∈ tblG ∧ Cond.instanceMethod yX0_premium ∈ tblG ∧ Cond.selects yX0_premium.cls yX0_premium yX0_premium ∈ tblG := ⟨tin 231 (by decide +kernel) (by decide +kernel), tin 232 (by decide +kernel) (by decide +kernel), tin 233 (by decide +kernel) (by decide +kernel)⟩
theorem LB_X0_changePremium : LB yX0_changePremium cX0_changePremium 3 none 2 := ⟨tin 550 (by decide +kernel) (by decide +kernel), tin 4 (by decide +kernel) (by decide +kernel), by decide, by decide, by decide, by decide +kernel⟩
theorem lk_X9_127 : Cond.methodLink RX9 127 yX0_changePremium ∈ tblG ∧ Cond.instanceMethod yX0_changePremium ∈ tblG ∧ Cond.selects yX0_changePremium.cls yX0_changePremium yX0_changePremium ∈ tblG := ⟨tin 547 (by decide +kernel) (by decide +kernel), tin 548 (by decide +kernel) (by decide +kernel), tin 549 (by decide +kernel) (by decide +kernel)⟩
theorem LB_X4_of : LB yX4_of cX4_of 4 (some .int) 1 := ⟨tin 566 (by decide +kernel) (by decide +kernel), tin 18 (by decide +kernel) (by decide +kernel), by decide, by decide, by decide, by decide +kernel⟩
theorem lk_X9_135 : Cond.methodLink RX9 135 yX4_of ∈ tblG ∧ Cond.static yX4_of ∈ tblG := ⟨tin 564 (by decide +kernel) (by decide +kernel), tin 565 (by decide +kernel) (by decide +kernel)⟩
theorem lk_X9_140 : Cond.methodLink RX9 140 yX7_changeRack ∈ tblG ∧ Cond.instanceMethod yX7_changeRack ∈ tblG ∧ Cond.selects yX7_changeRack.cls yX7_changeRack yX7_changeRack ∈ tblG := ⟨tin 569 (by decide +kernel) (by decide +kernel), tin 570 (by decide +kernel) (by decide +kernel), tin 571 (by decide +kernel) (by decide +kernel)⟩
theorem lk_X9_146 : Cond.methodLink RX9 146 yX0_put ∈ tblG ∧ Cond.instanceMethod yX0_put ∈ tblG ∧ Cond.selects yX0_put.cls yX0_put yX0_put ∈ tblG := ⟨tin 580 (by decide +kernel) (by decide +kernel), tin 581 (by decide +kernel) (by decide +kernel), tin 582 (by decide +kernel) (by decide +kernel)⟩
theorem lk_X9_185 : Cond.methodLink RX9 185 yX6_withWord ∈ tblG ∧ Cond.static yX6_withWord ∈ tblG := ⟨tin 651 (by decide +kernel) (by decide +kernel), tin 356 (by decide +kernel) (by decide +kernel)⟩
theorem LB_X9_makePlay : LB yX9_makePlay cX9_makePlay 4 (some .int) 2 := ⟨tin 655 (by decide +kernel) (by decide +kernel), tin 1 (by decide +kernel) (by decide +kernel), by decide, by decide, by decide, by decide +kernel⟩
theorem lk_X9_188 : Cond.methodLink RX9 188 yX9_makePlay ∈ tblG ∧ Cond.instanceMethod yX9_makePlay ∈ tblG ∧ Cond.selects yX9_makePlay.cls yX9_makePlay yX9_makePlay ∈ tblG := ⟨tin 652 (by decide +kernel) (by decide +kernel), tin 654 (by decide +kernel) (by decide +kernel), tsel (q := (yX9_makePlay, 5)) (List.mem_of_getElem? (i := 11) (by decide +kernel))⟩
theorem LB_X3_size : LB yX3_size cX3_size 1 (some .int) 0 := ⟨tin 362 (by decide +kernel) (by decide +kernel), tin 7 (by decide +kernel) (by decide +kernel), by decide, by decide, by decide, by decide +kernel⟩
theorem lk_X9_241 : Cond.methodLink RX9 241 yX3_size ∈ tblG ∧ Cond.instanceMethod yX3_size ∈ tblG ∧ Cond.selects yX3_size.cls yX3_size yX3_size ∈ tblG := ⟨tin 359 (by decide +kernel) (by decide +kernel), tin 360 (by decide +kernel) (by decide +kernel), tin 361 (by decide +kernel) (by decide +kernel)⟩
theorem LB_X3_restore : LB yX3_restore cX3_restore 3 none 1 := ⟨tin 814 (by decide +kernel) (by decide +kernel), tin 7 (by decide +kernel) (by decide +kernel), by decide, by decide, by decide, by decide +kernel⟩
theorem lk_X9_244 : Cond.methodLink RX9 244 yX3_restore ∈ tblG ∧ Cond.instanceMethod yX3_restore ∈ tblG ∧ Cond.selects yX3_restore.cls yX3_restore yX3_restore ∈ tblG := ⟨tin 811 (by decide +kernel) (by decide +kernel), tin 812 (by decide +kernel) (by decide +kernel), tin 813 (by decide +kernel) (by decide +kernel)⟩
theorem LB_X7_leave : LB yX7_leave cX7_leave 2 (some .int) 1 := ⟨tin 207 (by decide +kernel) (by decide +kernel), tin 2 (by decide +kernel) (by decide +kernel), by decide, by decide, by decide, by decide +kernel⟩
theorem lk_X9_255 : Cond.methodLink RX9 255 yX7_leave ∈ tblG ∧ Cond.instanceMethod yX7_leave ∈ tblG ∧ Cond.selects yX7_leave.cls yX7_leave yX7_leave ∈ tblG := ⟨tin 204 (by decide +kernel) (by decide +kernel), tin 205 (by decide +kernel) (by decide +kernel), tin 206 (by decide +kernel) (by decide +kernel)⟩
theorem LB_X9_hashDictionary : LB yX9_hashDictionary cX9_hashDictionary 7 (some .long) 1 := ⟨tin 211 (by decide +kernel) (by decide +kernel), tin 1 (by decide +kernel) (by decide +kernel), by decide, by decide, by decide, by decide +kernel⟩
theorem lk_X9_258 : Cond.methodLink RX9 258 yX9_hashDictionary ∈ tblG ∧ Cond.instanceMethod yX9_hashDictionary ∈ tblG ∧ Cond.selects yX9_hashDictionary.cls yX9_hashDictionary yX9_hashDictionary ∈ tblG := ⟨tin 208 (by decide +kernel) (by decide +kernel), tin 210 (by decide +kernel) (by decide +kernel), tsel (q := (yX9_hashDictionary, 5)) (List.mem_of_getElem? (i := 0) (by decide +kernel))⟩
theorem LB_X9_hashRack : LB yX9_hashRack cX9_hashRack 6 (some .long) 2 := ⟨tin 244 (by decide +kernel) (by decide +kernel), tin 1 (by decide +kernel) (by decide +kernel), by decide, by decide, by decide, by decide +kernel⟩
theorem lk_X9_262 : Cond.methodLink RX9 262 yX9_hashRack ∈ tblG ∧ Cond.static yX9_hashRack ∈ tblG := ⟨tin 242 (by decide +kernel) (by decide +kernel), tin 243 (by decide +kernel) (by decide +kernel)⟩
theorem LB_X9_anchors : LB yX9_anchors cX9_anchors 1 (some .int) 0 := ⟨tin 167 (by decide +kernel) (by decide +kernel), tin 1 (by decide +kernel) (by decide +kernel), by decide, by decide, by decide, by decide +kernel⟩
theorem lk_X9_265 : Cond.methodLink RX9 265 yX9_anchors ∈ tblG ∧ Cond.instanceMethod yX9_anchors ∈ tblG ∧ Cond.selects yX9_anchors.cls yX9_anchors yX9_anchors ∈ tblG := ⟨tin 358 (by decide +kernel) (by decide +kernel), tin 165 (by decide +kernel) (by decide +kernel), tin 166 (by decide +kernel) (by decide +kernel)⟩
theorem lk_X9_273 : Cond.methodLink RX9 273 yX5_lay ∈ tblG ∧ Cond.instanceMethod yX5_lay ∈ tblG ∧ Cond.selects yX5_lay.cls yX5_lay yX5_lay ∈ tblG := ⟨tin 680 (by decide +kernel) (by decide +kernel), tin 681 (by decide +kernel) (by decide +kernel), tin 682 (by decide +kernel) (by decide +kernel)⟩
theorem LB_X7_addPoints : LB yX7_addPoints cX7_addPoints 3 none 2 := ⟨tin 689 (by decide +kernel) (by decide +kernel), tin 2 (by decide +kernel) (by decide +kernel), by decide, by decide, by decide, by decide +kernel⟩
theorem lk_X9_277 : Cond.methodLink RX9 277 yX7_addPoints ∈ tblG ∧ Cond.instanceMethod yX7_addPoints ∈ tblG ∧ Cond.selects yX7_addPoints.cls yX7_addPoints yX7_addPoints ∈ tblG := ⟨tin 686 (by decide +kernel) (by decide +kernel), tin 687 (by decide +kernel) (by decide +kernel), tin 688 (by decide +kernel) (by decide +kernel)⟩
theorem lk_X9_72 : Cond.methodLink RX9 72 yX1_isFull ∈ tblG ∧ Cond.instanceMethod yX1_isFull ∈ tblG ∧ Cond.selects yX1_isFull.cls yX1_isFull yX1_isFull ∈ tblG := ⟨tin 469 (by decide +kernel) (by decide +kernel), tin 470 (by decide +kernel) (by decide +kernel), tin 471 (by decide +kernel) (by decide +kernel)⟩
theorem LB_X3_save : LB yX3_save cX3_save 4 none 1 := ⟨tin 477 (by decide +kernel) (by decide +kernel), tin 7 (by decide +kernel) (by decide +kernel), by decide, by decide, by decide, by decide +kernel⟩
theorem lk_X9_80 : Cond.methodLink RX9 80 yX3_save ∈ tblG ∧ Cond.instanceMethod yX3_save ∈ tblG ∧ Cond.selects yX3_save.cls yX3_save yX3_save ∈ tblG := ⟨tin 474 (by decide +kernel) (by decide +kernel), tin 475 (by decide +kernel) (by decide +kernel), tin 476 (by decide +kernel) (by decide +kernel)⟩
theorem LB_X1_add : LB yX1_add cX1_add 3 none 1 := ⟨tin 503 (by decide +kernel) (by decide +kernel), tin 3 (by decide +kernel) (by decide +kernel), by decide, by decide, by decide, by decide +kernel⟩
theorem lk_X9_83 : Cond.methodLink RX9 83 yX1_add ∈ tblG ∧ Cond.instanceMethod yX1_add ∈ tblG ∧ Cond.selects yX1_add.cls yX1_add yX1_add ∈ tblG := ⟨tin 500 (by decide +kernel) (by decide +kernel), tin 501 (by decide +kernel) (by decide +kernel), tin 502 (by decide +kernel) (by decide +kernel)⟩
def f_X9_makePlay (σ : S2) (x1 : Int32) (x2 : Int32) : Option (Int32 × S2) := bno (f_X3_save σ) fun r1 => bno (f_X5_pointsOf r1.1 x2) fun r2 => bno (f_X5_lay r1.1 x1 x2) fun r3 => lt (r3.2, r1.2) fun σ1 => bno (f_X7_addPoints σ1.1 x1 r2) fun r4 => lt (r4, σ1.2) fun σ2 => some (r2, σ2)
set_option maxHeartbeats 4000000 in
set_option maxRecDepth 100000 in
theorem v_X9_makePlay {l : Launch} {G : Gv} {ad : Nat → Nat} {d : Nat} {av0 : List Value} {w1 : va_W} {q : (Int32 × S2)} {σ : S2} {ts : List Tb} {x1 : Int32} {x2 : Int32} (hd : 8 ≤ d) (hts : ts.map (fun q => q.2) = σ.2.2.2) (hf : f_X9_makePlay σ x1 x2 = some q) : VV l G yX9_makePlay cX9_makePlay 4 (some .int) d 10 189 av0 w1 (fun ro w => ro = (some (.int q.1)) ∧ ∃ ts1 : List Tb, ts1.map (fun q => q.2) = q.2.2.2.2 ∧ w = wA G ad q.2 ts1) 0 0 (wA G ad σ ts) 0 [(0, .ref (ad 0)), (1, .int x1), (2, .int x2)] [] := by
  unfold f_X9_makePlay at hf
  refine V_aload_n 0 rfl dX9_makePlay_0 rfl ?_
  refine V_get (k := 4) RC_X9 fl_X9_43 rfl (by decide) dX9_makePlay_1 0 rfl rfl ?_
  refine V_aload_n 0 rfl dX9_makePlay_4 rfl ?_
  refine V_get (k := 1) RC_X9 fl_X9_18 rfl (by decide) dX9_makePlay_5 0 rfl rfl ?_
  obtain ⟨r1, hr1, hf⟩ := bno_some hf
  refine V_cVg (As := [.ref (ad 1)]) (rest := []) (k_X3_save (d := 3) (Nat.le_refl _) hts hr1) LB_X3_save lk_X9_80 (by omega) dX9_makePlay_8 rfl rfl (Nat.le_of_ble_eq_true rfl) ⟨by decide, by decide⟩ 13 rfl ⟨rfl, rfl⟩ (fun ro w1 hp => ?_)
  obtain ⟨rfl, ts1, hts1, rfl⟩ := hp
  refine V_st (st1 := []) rfl ?_
  refine V_aload_n 0 rfl dX9_makePlay_11 rfl ?_
  refine V_get (k := 2) RC_X9 fl_X9_27 rfl (by decide) dX9_makePlay_12 0 rfl rfl ?_
  refine V_iload_n 2 rfl dX9_makePlay_15 rfl ?_
  obtain ⟨r2, hr2, hf⟩ := bno_some hf
  refine V_cVf (As := [.int x2]) (rest := []) (k_X5_pointsOf (d := 4) (Nat.le_refl _) hr2) LB_X5_pointsOf lk_X9_219 (by omega) dX9_makePlay_16 rfl rfl (Nat.le_of_ble_eq_true rfl) (Nat.le_refl _) (Nat.le_refl _) 11 rfl ⟨rfl, rfl⟩ [.int r2] rfl ?_
  refine V_istore_n [(0, .ref (ad 0)), (1, .int x1), (2, .int x2), (3, .int r2)] [1, 2, 3, 0] dX9_makePlay_19 rfl (by decide) rfl ?_
  refine V_aload_n 0 rfl dX9_makePlay_20 rfl ?_
  refine V_get (k := 2) RC_X9 fl_X9_27 rfl (by decide) dX9_makePlay_21 0 rfl rfl ?_
  refine V_iload_n 1 rfl dX9_makePlay_24 rfl ?_
  refine V_iload_n 2 rfl dX9_makePlay_25 rfl ?_
  obtain ⟨r3, hr3, hf⟩ := bno_some hf
  refine V_cVf (As := [.int x1, .int x2]) (rest := []) (k_X5_lay (d := 3) (Nat.le_refl _) hr3) LB_X5_lay lk_X9_273 (by omega) dX9_makePlay_26 rfl rfl (Nat.le_of_ble_eq_true rfl) (Nat.le_refl _) (Nat.le_refl _) 11 rfl ⟨rfl, rfl⟩ [.long r3.1] rfl ?_
  obtain ⟨σ1, eσ1, hf⟩ := lt_some hf
  refine V_ws (ws1 := (wA G ad σ1 ts1)) (by rw [eσ1]; rfl) ?_
  have hσ1 : ts1.map (fun q => q.2) = σ1.2.2.2 := by rw [eσ1]; exact hts1
  refine V_pop2 rfl dX9_makePlay_29 ?_
  refine V_aload_n 0 rfl dX9_makePlay_30 rfl ?_
  refine V_get (k := 1) RC_X9 fl_X9_18 rfl (by decide) dX9_makePlay_31 0 rfl rfl ?_
  refine V_iload_n 1 rfl dX9_makePlay_34 rfl ?_
  refine V_iload_n 3 rfl dX9_makePlay_35 rfl ?_
  obtain ⟨r4, hr4, hf⟩ := bno_some hf
  refine V_cVf (As := [.int x1, .int r2]) (rest := []) (k_X7_addPoints (d := 1) (Nat.le_refl _) hr4) LB_X7_addPoints lk_X9_277 (by omega) dX9_makePlay_36 rfl rfl (Nat.le_of_ble_eq_true rfl) (Nat.le_refl _) (Nat.le_refl _) 1 rfl ⟨rfl, rfl⟩ [] rfl ?_
  obtain ⟨σ2, eσ2, hf⟩ := lt_some hf
  refine V_ws (ws1 := (wA G ad σ2 ts1)) (by rw [eσ2]; rfl) ?_
  have hσ2 : ts1.map (fun q => q.2) = σ2.2.2.2 := by rw [eσ2]; exact hσ1
  refine V_iload_n 3 rfl dX9_makePlay_39 rfl ?_
  cases hf
  exact V_iret rfl dX9_makePlay_40 ⟨rfl, ts1, hσ2, rfl⟩
theorem k_X9_makePlay {l : Launch} {G : Gv} {ad : Nat → Nat} {d : Nat} {σ : S2} {ts : List Tb} {q : (Int32 × S2)} {x1 : Int32} {x2 : Int32} (hd : 8 ≤ d) (hts : ts.map (fun q => q.2) = σ.2.2.2) (hf : f_X9_makePlay σ x1 x2 = some q) : K l G yX9_makePlay cX9_makePlay 4 (some .int) d 10 189 [.ref (ad 0), .int x1, .int x2] (wA G ad σ ts) (fun ro w => ro = (some (.int q.1)) ∧ ∃ ts1 : List Tb, ts1.map (fun q => q.2) = q.2.2.2.2 ∧ w = wA G ad q.2 ts1) := K_intro (by decide) (Nat.le_of_ble_eq_true rfl) (v_X9_makePlay hd hts hf)
def f_X9_addWord (σ : S2) : Option ((Nat ⊕ Int32) × S2) := bno (f_X8_length (gi σ.1 0)) fun r1 => if (2) ≤ r1 then (bno (f_X1_isFull σ.1) fun r2 => if (b2i r2) = 0 then (bno (f_X3_save σ) fun r3 => bno (f_X1_add r3.1 (gi r3.1 0)) fun r4 => lt (r4, r3.2) fun σ1 => lt ((si σ1.1 0 (0), σ1.2)) fun σ2 => bno (f_X1_size σ2.1) fun r5 => some (.inr r5, σ2)) else (some (.inl 1, σ))) else (some (.inl 1, σ))
set_option maxHeartbeats 4000000 in
set_option maxRecDepth 100000 in
theorem v_X9_addWord {l : Launch} {G : Gv} {ad : Nat → Nat} {d : Nat} {av0 : List Value} {w1 : va_W} {q : ((Nat ⊕ Int32) × S2)} {σ : S2} {ts : List Tb} (hd : 8 ≤ d) (hts : ts.map (fun q => q.2) = σ.2.2.2) (hf : f_X9_addWord σ = some q) : VX l G yX9_addWord cX9_addWord 1 (some .int) d 16 256 av0 w1 [] (oI q.1) (fun w => ∃ ts1 : List Tb, ts1.map (fun q => q.2) = q.2.2.2.2 ∧ w = wA G ad q.2 ts1) 0 0 (wA G ad σ ts) 0 [(0, .ref (ad 0))] [] := by
  unfold f_X9_addWord at hf
  refine X_aload_n 0 rfl dX9_addWord_0 rfl ?_
  refine X_get (k := 0) RC_X9 fl_X9_9 rfl (by decide) dX9_addWord_1 0 rfl rfl ?_
  obtain ⟨r1, hr1, hf⟩ := bno_some hf
  refine X_cS (As := [.int (gi σ.1 0)]) (rest := []) (k_X8_length (d := 0) (Nat.le_refl _) hr1) LB_X8_length lk_X9_51 (by omega) dX9_addWord_4 rfl rfl (Nat.le_of_ble_eq_true rfl) (by decide) (by decide) [.int r1] rfl ?_
  refine X_iconst 2 dX9_addWord_7 (by decide) ?_
  refine X_icmp_ge 21 dX9_addWord_8 (by decide) (fun c1 => ?_) (fun c1 => ?_)
  · replace hf := (if_pos c1).symm.trans hf
    refine X_aload_n 0 rfl dX9_addWord_21 rfl ?_
    refine X_get (k := 1) RC_X9 fl_X9_18 rfl (by decide) dX9_addWord_22 0 rfl rfl ?_
    refine X_getN (k := 0) RC_X7 fl_X9_68 rfl (by decide) dX9_addWord_25 1 rfl rfl ?_
    obtain ⟨r2, hr2, hf⟩ := bno_some hf
    refine X_cVf (As := []) (rest := []) (k_X1_isFull (d := 0) (Nat.le_refl _) hr2) LB_X1_isFull lk_X9_72 (by omega) dX9_addWord_28 rfl rfl (Nat.le_of_ble_eq_true rfl) (by decide) (by decide) 2 rfl ⟨rfl, rfl⟩ [.int (b2i r2)] rfl ?_
    refine X_if_eq 44 dX9_addWord_31 (by decide) (fun c2 => ?_) (fun c2 => ?_)
    · replace hf := (if_pos c2).symm.trans hf
      refine X_aload_n 0 rfl dX9_addWord_44 rfl ?_
      refine X_get (k := 4) RC_X9 fl_X9_43 rfl (by decide) dX9_addWord_45 0 rfl rfl ?_
      refine X_aload_n 0 rfl dX9_addWord_48 rfl ?_
      refine X_get (k := 1) RC_X9 fl_X9_18 rfl (by decide) dX9_addWord_49 0 rfl rfl ?_
      obtain ⟨r3, hr3, hf⟩ := bno_some hf
      refine X_cVg (As := [.ref (ad 1)]) (rest := []) (k_X3_save (d := 3) (Nat.le_refl _) hts hr3) LB_X3_save lk_X9_80 (by omega) dX9_addWord_52 rfl rfl (Nat.le_of_ble_eq_true rfl) ⟨by decide, by decide⟩ 13 rfl ⟨rfl, rfl⟩ (fun ro w1 hp => ?_)
      obtain ⟨rfl, ts1, hts1, rfl⟩ := hp
      refine X_st (st1 := []) rfl ?_
      refine X_aload_n 0 rfl dX9_addWord_55 rfl ?_
      refine X_get (k := 1) RC_X9 fl_X9_18 rfl (by decide) dX9_addWord_56 0 rfl rfl ?_
      refine X_getN (k := 0) RC_X7 fl_X9_68 rfl (by decide) dX9_addWord_59 1 rfl rfl ?_
      refine X_aload_n 0 rfl dX9_addWord_62 rfl ?_
      refine X_get (k := 0) RC_X9 fl_X9_9 rfl (by decide) dX9_addWord_63 0 rfl rfl ?_
      obtain ⟨r4, hr4, hf⟩ := bno_some hf
      refine X_cVf (As := [.int (gi r3.1 0)]) (rest := []) (k_X1_add (d := 1) (Nat.le_refl _) hr4) LB_X1_add lk_X9_83 (by omega) dX9_addWord_66 rfl rfl (Nat.le_of_ble_eq_true rfl) (by decide) (by decide) 2 rfl ⟨rfl, rfl⟩ [] rfl ?_
      obtain ⟨σ1, eσ1, hf⟩ := lt_some hf
      refine X_ws (ws1 := (wA G ad σ1 ts1)) (by rw [eσ1]; rfl) ?_
      have hσ1 : ts1.map (fun q => q.2) = σ1.2.2.2 := by rw [eσ1]; exact hts1
      refine X_aload_n 0 rfl dX9_addWord_69 rfl ?_
      refine X_iconst 0 dX9_addWord_70 (by decide) ?_
      obtain ⟨σ2, eσ2, hf⟩ := lt_some hf
      refine X_put (k := 0) RC_X9 fl_X9_9 rfl (by decide) rfl dX9_addWord_71 0 rfl (Nat.le_of_ble_eq_true rfl) rfl rfl (wA G ad σ2 ts1) (by rw [eσ2]; rfl) ?_
      have hσ2 : ts1.map (fun q => q.2) = σ2.2.2.2 := by rw [eσ2]; exact hσ1
      refine X_aload_n 0 rfl dX9_addWord_74 rfl ?_
      refine X_get (k := 1) RC_X9 fl_X9_18 rfl (by decide) dX9_addWord_75 0 rfl rfl ?_
      refine X_getN (k := 0) RC_X7 fl_X9_68 rfl (by decide) dX9_addWord_78 1 rfl rfl ?_
      obtain ⟨r5, hr5, hf⟩ := bno_some hf
      refine X_cVf (As := []) (rest := []) (k_X1_size (d := 0) (Nat.le_refl _) hr5) LB_X1_size lk_X9_86 (by omega) dX9_addWord_81 rfl rfl (Nat.le_of_ble_eq_true rfl) (by decide) (by decide) 2 rfl ⟨rfl, rfl⟩ [.int r5] rfl ?_
      cases hf
      exact X_iret rfl (by decide) (by decide) dX9_addWord_84 rfl ⟨ts1, hσ2, rfl⟩
    · replace hf := (if_neg c2).symm.trans hf
      cases hf
      exact X_throwS 1 3 rfl rfl xs_k1 xs_i1 (by decide) xs_a1 xs_g1 dX9_addWord_34 dX9_addWord_37 dX9_addWord_38 dX9_addWord_40 dX9_addWord_43 rfl (by omega) ⟨by decide, by decide⟩ (Nat.le_of_ble_eq_true rfl) rfl ⟨ts, hts, rfl⟩
  · replace hf := (if_neg c1).symm.trans hf
    cases hf
    exact X_throwS 1 2 rfl rfl xs_k1 xs_i1 (by decide) xs_a1 xs_g1 dX9_addWord_11 dX9_addWord_14 dX9_addWord_15 dX9_addWord_17 dX9_addWord_20 rfl (by omega) ⟨by decide, by decide⟩ (Nat.le_of_ble_eq_true rfl) rfl ⟨ts, hts, rfl⟩
theorem k_X9_addWord {l : Launch} {G : Gv} {ad : Nat → Nat} {d : Nat} {σ : S2} {ts : List Tb} {q : ((Nat ⊕ Int32) × S2)} (hd : 8 ≤ d) (hts : ts.map (fun q => q.2) = σ.2.2.2) (hf : f_X9_addWord σ = some q) : XK l G yX9_addWord (.code yX9_addWord cX9_addWord 1 (some .int)) d 16 256 [.ref (ad 0)] (wA G ad σ ts) (oI q.1) (fun w => ∃ ts1 : List Tb, ts1.map (fun q => q.2) = q.2.2.2.2 ∧ w = wA G ad q.2 ts1) := X_intro (by decide) (Nat.le_of_ble_eq_true rfl) (v_X9_addWord hd hts hf)
def f_X9_setLetter_37 (σ : S2) : Option ((Nat ⊕ Int32) × S2) := some (.inl 0, σ)
set_option maxHeartbeats 4000000 in
set_option maxRecDepth 100000 in
theorem v_X9_setLetter_37 {l : Launch} {G : Gv} {ad : Nat → Nat} {d : Nat} {av0 : List Value} {w1 : va_W} {q : ((Nat ⊕ Int32) × S2)} {σ : S2} {ts : List Tb} (hd : 8 ≤ d) (hts : ts.map (fun q => q.2) = σ.2.2.2) (hf : f_X9_setLetter_37 σ = some q) : VX l G yX9_setLetter cX9_setLetter 5 (some .int) d 16 256 av0 w1 [] (oI q.1) (fun w => ∃ ts1 : List Tb, ts1.map (fun q => q.2) = q.2.2.2.2 ∧ w = wA G ad q.2 ts1) 4 24 (wA G ad σ ts) 37 [] [] := by
  unfold f_X9_setLetter_37 at hf
  cases hf
  exact X_throwS 0 5 rfl rfl xs_k0 xs_i0 (by decide) xs_a0 xs_g0 dX9_setLetter_37 dX9_setLetter_40 dX9_setLetter_41 dX9_setLetter_43 dX9_setLetter_46 rfl (by omega) ⟨by decide, by decide⟩ (Nat.le_of_ble_eq_true rfl) rfl ⟨ts, hts, rfl⟩
def f_X9_setLetter_15 (σ : S2) : Option ((Nat ⊕ Int32) × S2) := some (.inl 0, σ)
set_option maxHeartbeats 4000000 in
set_option maxRecDepth 100000 in
theorem v_X9_setLetter_15 {l : Launch} {G : Gv} {ad : Nat → Nat} {d : Nat} {av0 : List Value} {w1 : va_W} {q : ((Nat ⊕ Int32) × S2)} {σ : S2} {ts : List Tb} (hd : 8 ≤ d) (hts : ts.map (fun q => q.2) = σ.2.2.2) (hf : f_X9_setLetter_15 σ = some q) : VX l G yX9_setLetter cX9_setLetter 5 (some .int) d 16 256 av0 w1 [] (oI q.1) (fun w => ∃ ts1 : List Tb, ts1.map (fun q => q.2) = q.2.2.2.2 ∧ w = wA G ad q.2 ts1) 4 24 (wA G ad σ ts) 15 [] [] := by
  unfold f_X9_setLetter_15 at hf
  cases hf
  exact X_throwS 0 4 rfl rfl xs_k0 xs_i0 (by decide) xs_a0 xs_g0 dX9_setLetter_15 dX9_setLetter_18 dX9_setLetter_19 dX9_setLetter_21 dX9_setLetter_24 rfl (by omega) ⟨by decide, by decide⟩ (Nat.le_of_ble_eq_true rfl) rfl ⟨ts, hts, rfl⟩
def f_X9_setLetter (σ : S2) (x1 : Int32) (x2 : Int32) (x3 : Int32) : Option ((Nat ⊕ Int32) × S2) := bno (f_X9_requireLetter x1) fun r1 => exq r1 (fun cx => some (.inl cx, σ)) (fun u => if x2 < (1) then (f_X9_setLetter_15 σ) else (if x2 ≤ (10) then (if x3 < (-20) then (f_X9_setLetter_37 σ) else (if x3 ≤ (20) then (bno (f_X3_save σ) fun r2 => bno (f_X7_value r2.1 x1) fun r3 => bno (f_X7_changeLetter r2.1 x1 x2 x3) fun r4 => lt (r4, r2.2) fun σ1 => some (.inr r3, σ1)) else (f_X9_setLetter_37 σ))) else (f_X9_setLetter_15 σ)))
set_option maxHeartbeats 4000000 in
set_option maxRecDepth 100000 in
theorem v_X9_setLetter {l : Launch} {G : Gv} {ad : Nat → Nat} {d : Nat} {av0 : List Value} {w1 : va_W} {q : ((Nat ⊕ Int32) × S2)} {σ : S2} {ts : List Tb} {x1 : Int32} {x2 : Int32} {x3 : Int32} (hd : 8 ≤ d) (hts : ts.map (fun q => q.2) = σ.2.2.2) (hf : f_X9_setLetter σ x1 x2 x3 = some q) : VX l G yX9_setLetter cX9_setLetter 5 (some .int) d 16 256 av0 w1 [] (oI q.1) (fun w => ∃ ts1 : List Tb, ts1.map (fun q => q.2) = q.2.2.2.2 ∧ w = wA G ad q.2 ts1) 0 0 (wA G ad σ ts) 0 [(0, .ref (ad 0)), (1, .int x1), (2, .int x2), (3, .int x3)] [] := by
  unfold f_X9_setLetter at hf
  refine X_iload_n 1 rfl dX9_setLetter_0 rfl ?_
  obtain ⟨r1, hr1, hf⟩ := bno_some hf
  rcases r1 with cx | u
  · replace hf := exq_l hf
    cases hf
    exact X_cSt (As := [.int x1]) (rest := []) (k_X9_requireLetter (d := 6) (Nat.le_refl _) hr1) LB_X9_requireLetter lk_X9_47 (by omega) dX9_setLetter_1 rfl rfl (Nat.le_of_ble_eq_true rfl) ⟨by decide, by decide⟩ rfl rfl ⟨ts, hts, rfl⟩
  · replace hf := exq_r hf
    refine X_cSr (As := [.int x1]) (rest := []) (k_X9_requireLetter (d := 6) (Nat.le_refl _) hr1) LB_X9_requireLetter lk_X9_47 (by omega) dX9_setLetter_1 rfl rfl (Nat.le_of_ble_eq_true rfl) ⟨by decide, by decide⟩ [] rfl ?_
    refine X_iload_n 2 rfl dX9_setLetter_4 rfl ?_
    refine X_iconst 1 dX9_setLetter_5 (by decide) ?_
    refine X_icmp_lt 15 dX9_setLetter_6 (by decide) (fun c1 => ?_) (fun c1 => ?_)
    · replace hf := (if_pos c1).symm.trans hf
      refine X_lv [] [] rfl ?_
      refine X_widen (ce1 := 4) (sl1 := 24) (by decide) (by decide) ?_
      exact v_X9_setLetter_15 hd hts hf
    · replace hf := (if_neg c1).symm.trans hf
      refine X_iload_n 2 rfl dX9_setLetter_9 rfl ?_
      refine X_bipush 10 dX9_setLetter_10 (by decide) ?_
      refine X_icmp_le 25 dX9_setLetter_12 (by decide) (fun c2 => ?_) (fun c2 => ?_)
      · replace hf := (if_pos c2).symm.trans hf
        refine X_iload_n 3 rfl dX9_setLetter_25 rfl ?_
        refine X_bipush (-20) dX9_setLetter_26 (by decide) ?_
        refine X_icmp_lt 37 dX9_setLetter_28 (by decide) (fun c3 => ?_) (fun c3 => ?_)
        · replace hf := (if_pos c3).symm.trans hf
          refine X_lv [] [] rfl ?_
          refine X_widen (ce1 := 4) (sl1 := 24) (by decide) (by decide) ?_
          exact v_X9_setLetter_37 hd hts hf
        · replace hf := (if_neg c3).symm.trans hf
          refine X_iload_n 3 rfl dX9_setLetter_31 rfl ?_
          refine X_bipush 20 dX9_setLetter_32 (by decide) ?_
          refine X_icmp_le 47 dX9_setLetter_34 (by decide) (fun c4 => ?_) (fun c4 => ?_)
          · replace hf := (if_pos c4).symm.trans hf
            refine X_aload_n 0 rfl dX9_setLetter_47 rfl ?_
            refine X_get (k := 4) RC_X9 fl_X9_43 rfl (by decide) dX9_setLetter_48 0 rfl rfl ?_
            refine X_aload_n 0 rfl dX9_setLetter_51 rfl ?_
            refine X_get (k := 1) RC_X9 fl_X9_18 rfl (by decide) dX9_setLetter_52 0 rfl rfl ?_
            obtain ⟨r2, hr2, hf⟩ := bno_some hf
            refine X_cVg (As := [.ref (ad 1)]) (rest := []) (k_X3_save (d := 3) (Nat.le_refl _) hts hr2) LB_X3_save lk_X9_80 (by omega) dX9_setLetter_55 rfl rfl (Nat.le_of_ble_eq_true rfl) ⟨by decide, by decide⟩ 13 rfl ⟨rfl, rfl⟩ (fun ro w1 hp => ?_)
            obtain ⟨rfl, ts1, hts1, rfl⟩ := hp
            refine X_st (st1 := []) rfl ?_
            refine X_aload_n 0 rfl dX9_setLetter_58 rfl ?_
            refine X_get (k := 1) RC_X9 fl_X9_18 rfl (by decide) dX9_setLetter_59 0 rfl rfl ?_
            refine X_iload_n 1 rfl dX9_setLetter_62 rfl ?_
            obtain ⟨r3, hr3, hf⟩ := bno_some hf
            refine X_cVf (As := [.int x1]) (rest := []) (k_X7_value (d := 1) (Nat.le_refl _) hr3) LB_X7_value lk_X9_100 (by omega) dX9_setLetter_63 rfl rfl (Nat.le_of_ble_eq_true rfl) (by decide) (by decide) 1 rfl ⟨rfl, rfl⟩ [.int r3] rfl ?_
            refine X_istore [(0, .ref (ad 0)), (1, .int x1), (2, .int x2), (3, .int x3), (4, .int r3)] [1, 2, 3, 4, 0] dX9_setLetter_66 (by decide) rfl ?_
            refine X_aload_n 0 rfl dX9_setLetter_68 rfl ?_
            refine X_get (k := 1) RC_X9 fl_X9_18 rfl (by decide) dX9_setLetter_69 0 rfl rfl ?_
            refine X_iload_n 1 rfl dX9_setLetter_72 rfl ?_
            refine X_iload_n 2 rfl dX9_setLetter_73 rfl ?_
            refine X_iload_n 3 rfl dX9_setLetter_74 rfl ?_
            obtain ⟨r4, hr4, hf⟩ := bno_some hf
            refine X_cVf (As := [.int x1, .int x2, .int x3]) (rest := []) (k_X7_changeLetter (d := 1) (Nat.le_refl _) hr4) LB_X7_changeLetter lk_X9_103 (by omega) dX9_setLetter_75 rfl rfl (Nat.le_of_ble_eq_true rfl) (by decide) (by decide) 1 rfl ⟨rfl, rfl⟩ [] rfl ?_
            obtain ⟨σ1, eσ1, hf⟩ := lt_some hf
            refine X_ws (ws1 := (wA G ad σ1 ts1)) (by rw [eσ1]; rfl) ?_
            have hσ1 : ts1.map (fun q => q.2) = σ1.2.2.2 := by rw [eσ1]; exact hts1
            refine X_iload 4 rfl dX9_setLetter_78 ?_
            cases hf
            exact X_iret rfl (by decide) (by decide) dX9_setLetter_80 rfl ⟨ts1, hσ1, rfl⟩
          · replace hf := (if_neg c4).symm.trans hf
            refine X_lv [] [] rfl ?_
            refine X_widen (ce1 := 4) (sl1 := 24) (by decide) (by decide) ?_
            exact v_X9_setLetter_37 hd hts hf
      · replace hf := (if_neg c2).symm.trans hf
        refine X_lv [] [] rfl ?_
        refine X_widen (ce1 := 4) (sl1 := 24) (by decide) (by decide) ?_
        exact v_X9_setLetter_15 hd hts hf
theorem k_X9_setLetter {l : Launch} {G : Gv} {ad : Nat → Nat} {d : Nat} {σ : S2} {ts : List Tb} {q : ((Nat ⊕ Int32) × S2)} {x1 : Int32} {x2 : Int32} {x3 : Int32} (hd : 8 ≤ d) (hts : ts.map (fun q => q.2) = σ.2.2.2) (hf : f_X9_setLetter σ x1 x2 x3 = some q) : XK l G yX9_setLetter (.code yX9_setLetter cX9_setLetter 5 (some .int)) d 16 256 [.ref (ad 0), .int x1, .int x2, .int x3] (wA G ad σ ts) (oI q.1) (fun w => ∃ ts1 : List Tb, ts1.map (fun q => q.2) = q.2.2.2.2 ∧ w = wA G ad q.2 ts1) := X_intro (by decide) (Nat.le_of_ble_eq_true rfl) (v_X9_setLetter hd hts hf)
def f_X9_setPremium_14 (σ : S2) : Option ((Nat ⊕ Int32) × S2) := some (.inl 0, σ)
set_option maxHeartbeats 4000000 in
set_option maxRecDepth 100000 in
theorem v_X9_setPremium_14 {l : Launch} {G : Gv} {ad : Nat → Nat} {d : Nat} {av0 : List Value} {w1 : va_W} {q : ((Nat ⊕ Int32) × S2)} {σ : S2} {ts : List Tb} (hd : 8 ≤ d) (hts : ts.map (fun q => q.2) = σ.2.2.2) (hf : f_X9_setPremium_14 σ = some q) : VX l G yX9_setPremium cX9_setPremium 6 (some .int) d 16 256 av0 w1 [] (oI q.1) (fun w => ∃ ts1 : List Tb, ts1.map (fun q => q.2) = q.2.2.2.2 ∧ w = wA G ad q.2 ts1) 4 24 (wA G ad σ ts) 14 [] [] := by
  unfold f_X9_setPremium_14 at hf
  cases hf
  exact X_throwS 0 7 rfl rfl xs_k0 xs_i0 (by decide) xs_a0 xs_g0 dX9_setPremium_14 dX9_setPremium_17 dX9_setPremium_18 dX9_setPremium_20 dX9_setPremium_23 rfl (by omega) ⟨by decide, by decide⟩ (Nat.le_of_ble_eq_true rfl) rfl ⟨ts, hts, rfl⟩
def f_X9_setPremium (σ : S2) (x1 : Int32) (x2 : Int32) (x3 : Int32) : Option ((Nat ⊕ Int32) × S2) := bno (f_X9_requireSquare x1 x2) fun r1 => exq r1 (fun cx => some (.inl cx, σ)) (fun u => if x3 < 0 then (f_X9_setPremium_14 σ) else (if x3 ≤ (4) then (bno (f_X3_save σ) fun r2 => bno (f_X6_squareOf x1 x2) fun r3 => bno (f_X0_premium r2.1 r3) fun r4 => bno (f_X0_changePremium r2.1 r3 x3) fun r5 => lt (r5, r2.2) fun σ1 => some (.inr r4, σ1)) else (f_X9_setPremium_14 σ)))
set_option maxHeartbeats 4000000 in
set_option maxRecDepth 100000 in
theorem v_X9_setPremium {l : Launch} {G : Gv} {ad : Nat → Nat} {d : Nat} {av0 : List Value} {w1 : va_W} {q : ((Nat ⊕ Int32) × S2)} {σ : S2} {ts : List Tb} {x1 : Int32} {x2 : Int32} {x3 : Int32} (hd : 8 ≤ d) (hts : ts.map (fun q => q.2) = σ.2.2.2) (hf : f_X9_setPremium σ x1 x2 x3 = some q) : VX l G yX9_setPremium cX9_setPremium 6 (some .int) d 16 256 av0 w1 [] (oI q.1) (fun w => ∃ ts1 : List Tb, ts1.map (fun q => q.2) = q.2.2.2.2 ∧ w = wA G ad q.2 ts1) 0 0 (wA G ad σ ts) 0 [(0, .ref (ad 0)), (1, .int x1), (2, .int x2), (3, .int x3)] [] := by
  unfold f_X9_setPremium at hf
  refine X_iload_n 1 rfl dX9_setPremium_0 rfl ?_
  refine X_iload_n 2 rfl dX9_setPremium_1 rfl ?_
  obtain ⟨r1, hr1, hf⟩ := bno_some hf
  rcases r1 with cx | u
  · replace hf := exq_l hf
    cases hf
    exact X_cSt (As := [.int x1, .int x2]) (rest := []) (k_X9_requireSquare (d := 6) (Nat.le_refl _) hr1) LB_X9_requireSquare lk_X9_107 (by omega) dX9_setPremium_2 rfl rfl (Nat.le_of_ble_eq_true rfl) ⟨by decide, by decide⟩ rfl rfl ⟨ts, hts, rfl⟩
  · replace hf := exq_r hf
    refine X_cSr (As := [.int x1, .int x2]) (rest := []) (k_X9_requireSquare (d := 6) (Nat.le_refl _) hr1) LB_X9_requireSquare lk_X9_107 (by omega) dX9_setPremium_2 rfl rfl (Nat.le_of_ble_eq_true rfl) ⟨by decide, by decide⟩ [] rfl ?_
    refine X_iload_n 3 rfl dX9_setPremium_5 rfl ?_
    refine X_if_lt 14 dX9_setPremium_6 (by decide) (fun c1 => ?_) (fun c1 => ?_)
    · replace hf := (if_pos c1).symm.trans hf
      refine X_lv [] [] rfl ?_
      refine X_widen (ce1 := 4) (sl1 := 24) (by decide) (by decide) ?_
      exact v_X9_setPremium_14 hd hts hf
    · replace hf := (if_neg c1).symm.trans hf
      refine X_iload_n 3 rfl dX9_setPremium_9 rfl ?_
      refine X_iconst 4 dX9_setPremium_10 (by decide) ?_
      refine X_icmp_le 24 dX9_setPremium_11 (by decide) (fun c2 => ?_) (fun c2 => ?_)
      · replace hf := (if_pos c2).symm.trans hf
        refine X_aload_n 0 rfl dX9_setPremium_24 rfl ?_
        refine X_get (k := 4) RC_X9 fl_X9_43 rfl (by decide) dX9_setPremium_25 0 rfl rfl ?_
        refine X_aload_n 0 rfl dX9_setPremium_28 rfl ?_
        refine X_get (k := 1) RC_X9 fl_X9_18 rfl (by decide) dX9_setPremium_29 0 rfl rfl ?_
        obtain ⟨r2, hr2, hf⟩ := bno_some hf
        refine X_cVg (As := [.ref (ad 1)]) (rest := []) (k_X3_save (d := 3) (Nat.le_refl _) hts hr2) LB_X3_save lk_X9_80 (by omega) dX9_setPremium_32 rfl rfl (Nat.le_of_ble_eq_true rfl) ⟨by decide, by decide⟩ 13 rfl ⟨rfl, rfl⟩ (fun ro w1 hp => ?_)
        obtain ⟨rfl, ts1, hts1, rfl⟩ := hp
        refine X_st (st1 := []) rfl ?_
        refine X_iload_n 1 rfl dX9_setPremium_35 rfl ?_
        refine X_iload_n 2 rfl dX9_setPremium_36 rfl ?_
        obtain ⟨r3, hr3, hf⟩ := bno_some hf
        refine X_cS (As := [.int x1, .int x2]) (rest := []) (k_X6_squareOf (d := 0) (Nat.le_refl _) hr3) LB_X6_squareOf lk_X9_113 (by omega) dX9_setPremium_37 rfl rfl (Nat.le_of_ble_eq_true rfl) (by decide) (by decide) [.int r3] rfl ?_
        refine X_istore [(0, .ref (ad 0)), (1, .int x1), (2, .int x2), (3, .int x3), (4, .int r3)] [1, 2, 3, 4, 0] dX9_setPremium_40 (by decide) rfl ?_
        refine X_aload_n 0 rfl dX9_setPremium_42 rfl ?_
        refine X_get (k := 1) RC_X9 fl_X9_18 rfl (by decide) dX9_setPremium_43 0 rfl rfl ?_
        refine X_getN (k := 1) RC_X7 fl_X9_118 rfl (by decide) dX9_setPremium_46 1 rfl rfl ?_
        refine X_iload 4 rfl dX9_setPremium_49 ?_
        obtain ⟨r4, hr4, hf⟩ := bno_some hf
        refine X_cVf (As := [.int r3]) (rest := []) (k_X0_premium (d := 0) (Nat.le_refl _) hr4) LB_X0_premium lk_X9_122 (by omega) dX9_setPremium_51 rfl rfl (Nat.le_of_ble_eq_true rfl) (by decide) (by decide) 4 rfl ⟨rfl, rfl⟩ [.int r4] rfl ?_
        refine X_istore [(0, .ref (ad 0)), (1, .int x1), (2, .int x2), (3, .int x3), (4, .int r3), (5, .int r4)] [1, 2, 3, 4, 5, 0] dX9_setPremium_54 (by decide) rfl ?_
        refine X_aload_n 0 rfl dX9_setPremium_56 rfl ?_
        refine X_get (k := 1) RC_X9 fl_X9_18 rfl (by decide) dX9_setPremium_57 0 rfl rfl ?_
        refine X_getN (k := 1) RC_X7 fl_X9_118 rfl (by decide) dX9_setPremium_60 1 rfl rfl ?_
        refine X_iload 4 rfl dX9_setPremium_63 ?_
        refine X_iload_n 3 rfl dX9_setPremium_65 rfl ?_
        obtain ⟨r5, hr5, hf⟩ := bno_some hf
        refine X_cVf (As := [.int r3, .int x3]) (rest := []) (k_X0_changePremium (d := 0) (Nat.le_refl _) hr5) LB_X0_changePremium lk_X9_127 (by omega) dX9_setPremium_66 rfl rfl (Nat.le_of_ble_eq_true rfl) (by decide) (by decide) 4 rfl ⟨rfl, rfl⟩ [] rfl ?_
        obtain ⟨σ1, eσ1, hf⟩ := lt_some hf
        refine X_ws (ws1 := (wA G ad σ1 ts1)) (by rw [eσ1]; rfl) ?_
        have hσ1 : ts1.map (fun q => q.2) = σ1.2.2.2 := by rw [eσ1]; exact hts1
        refine X_iload 5 rfl dX9_setPremium_69 ?_
        cases hf
        exact X_iret rfl (by decide) (by decide) dX9_setPremium_71 rfl ⟨ts1, hσ1, rfl⟩
      · replace hf := (if_neg c2).symm.trans hf
        refine X_lv [] [] rfl ?_
        refine X_widen (ce1 := 4) (sl1 := 24) (by decide) (by decide) ?_
        exact v_X9_setPremium_14 hd hts hf
theorem k_X9_setPremium {l : Launch} {G : Gv} {ad : Nat → Nat} {d : Nat} {σ : S2} {ts : List Tb} {q : ((Nat ⊕ Int32) × S2)} {x1 : Int32} {x2 : Int32} {x3 : Int32} (hd : 8 ≤ d) (hts : ts.map (fun q => q.2) = σ.2.2.2) (hf : f_X9_setPremium σ x1 x2 x3 = some q) : XK l G yX9_setPremium (.code yX9_setPremium cX9_setPremium 6 (some .int)) d 16 256 [.ref (ad 0), .int x1, .int x2, .int x3] (wA G ad σ ts) (oI q.1) (fun w => ∃ ts1 : List Tb, ts1.map (fun q => q.2) = q.2.2.2.2 ∧ w = wA G ad q.2 ts1) := X_intro (by decide) (Nat.le_of_ble_eq_true rfl) (v_X9_setPremium hd hts hf)
def f_X9_setRack (σ : S2) (x1 : Int32) : Option ((Nat ⊕ Int32) × S2) := bno (f_X9_requirePlayer x1) fun r1 => exq r1 (fun cx => some (.inl cx, σ)) (fun u => bno (f_X8_length (gi σ.1 0)) fun r2 => if r2 ≤ (5) then (bno (f_X3_save σ) fun r3 => bno (f_X4_of (gi r3.1 0)) fun r4 => bno (f_X7_changeRack r3.1 x1 r4) fun r5 => lt (r5, r3.2) fun σ1 => lt ((si σ1.1 0 (0), σ1.2)) fun σ2 => some (.inr r2, σ2)) else (some (.inl 1, σ)))
set_option maxHeartbeats 4000000 in
set_option maxRecDepth 100000 in
theorem v_X9_setRack {l : Launch} {G : Gv} {ad : Nat → Nat} {d : Nat} {av0 : List Value} {w1 : va_W} {q : ((Nat ⊕ Int32) × S2)} {σ : S2} {ts : List Tb} {x1 : Int32} (hd : 8 ≤ d) (hts : ts.map (fun q => q.2) = σ.2.2.2) (hf : f_X9_setRack σ x1 = some q) : VX l G yX9_setRack cX9_setRack 3 (some .int) d 16 256 av0 w1 [] (oI q.1) (fun w => ∃ ts1 : List Tb, ts1.map (fun q => q.2) = q.2.2.2.2 ∧ w = wA G ad q.2 ts1) 0 0 (wA G ad σ ts) 0 [(0, .ref (ad 0)), (1, .int x1)] [] := by
  unfold f_X9_setRack at hf
  refine X_iload_n 1 rfl dX9_setRack_0 rfl ?_
  obtain ⟨r1, hr1, hf⟩ := bno_some hf
  rcases r1 with cx | u
  · replace hf := exq_l hf
    cases hf
    exact X_cSt (As := [.int x1]) (rest := []) (k_X9_requirePlayer (d := 6) (Nat.le_refl _) hr1) LB_X9_requirePlayer lk_X9_130 (by omega) dX9_setRack_1 rfl rfl (Nat.le_of_ble_eq_true rfl) ⟨by decide, by decide⟩ rfl rfl ⟨ts, hts, rfl⟩
  · replace hf := exq_r hf
    refine X_cSr (As := [.int x1]) (rest := []) (k_X9_requirePlayer (d := 6) (Nat.le_refl _) hr1) LB_X9_requirePlayer lk_X9_130 (by omega) dX9_setRack_1 rfl rfl (Nat.le_of_ble_eq_true rfl) ⟨by decide, by decide⟩ [] rfl ?_
    refine X_aload_n 0 rfl dX9_setRack_4 rfl ?_
    refine X_get (k := 0) RC_X9 fl_X9_9 rfl (by decide) dX9_setRack_5 0 rfl rfl ?_
    obtain ⟨r2, hr2, hf⟩ := bno_some hf
    refine X_cS (As := [.int (gi σ.1 0)]) (rest := []) (k_X8_length (d := 0) (Nat.le_refl _) hr2) LB_X8_length lk_X9_51 (by omega) dX9_setRack_8 rfl rfl (Nat.le_of_ble_eq_true rfl) (by decide) (by decide) [.int r2] rfl ?_
    refine X_istore_n [(0, .ref (ad 0)), (1, .int x1), (2, .int r2)] [1, 2, 0] dX9_setRack_11 rfl (by decide) rfl ?_
    refine X_iload_n 2 rfl dX9_setRack_12 rfl ?_
    refine X_iconst 5 dX9_setRack_13 (by decide) ?_
    refine X_icmp_le 27 dX9_setRack_14 (by decide) (fun c1 => ?_) (fun c1 => ?_)
    · replace hf := (if_pos c1).symm.trans hf
      refine X_aload_n 0 rfl dX9_setRack_27 rfl ?_
      refine X_get (k := 4) RC_X9 fl_X9_43 rfl (by decide) dX9_setRack_28 0 rfl rfl ?_
      refine X_aload_n 0 rfl dX9_setRack_31 rfl ?_
      refine X_get (k := 1) RC_X9 fl_X9_18 rfl (by decide) dX9_setRack_32 0 rfl rfl ?_
      obtain ⟨r3, hr3, hf⟩ := bno_some hf
      refine X_cVg (As := [.ref (ad 1)]) (rest := []) (k_X3_save (d := 3) (Nat.le_refl _) hts hr3) LB_X3_save lk_X9_80 (by omega) dX9_setRack_35 rfl rfl (Nat.le_of_ble_eq_true rfl) ⟨by decide, by decide⟩ 13 rfl ⟨rfl, rfl⟩ (fun ro w1 hp => ?_)
      obtain ⟨rfl, ts1, hts1, rfl⟩ := hp
      refine X_st (st1 := []) rfl ?_
      refine X_aload_n 0 rfl dX9_setRack_38 rfl ?_
      refine X_get (k := 1) RC_X9 fl_X9_18 rfl (by decide) dX9_setRack_39 0 rfl rfl ?_
      refine X_iload_n 1 rfl dX9_setRack_42 rfl ?_
      refine X_aload_n 0 rfl dX9_setRack_43 rfl ?_
      refine X_get (k := 0) RC_X9 fl_X9_9 rfl (by decide) dX9_setRack_44 0 rfl rfl ?_
      obtain ⟨r4, hr4, hf⟩ := bno_some hf
      refine X_cS (As := [.int (gi r3.1 0)]) (rest := [.int x1, .ref (ad 1)]) (k_X4_of (d := 1) (Nat.le_refl _) hr4) LB_X4_of lk_X9_135 (by omega) dX9_setRack_47 rfl rfl (Nat.le_of_ble_eq_true rfl) (by decide) (by decide) [.int r4, .int x1, .ref (ad 1)] rfl ?_
      obtain ⟨r5, hr5, hf⟩ := bno_some hf
      refine X_cVf (As := [.int x1, .int r4]) (rest := []) (k_X7_changeRack (d := 1) (Nat.le_refl _) hr5) LB_X7_changeRack lk_X9_140 (by omega) dX9_setRack_50 rfl rfl (Nat.le_of_ble_eq_true rfl) (by decide) (by decide) 1 rfl ⟨rfl, rfl⟩ [] rfl ?_
      obtain ⟨σ1, eσ1, hf⟩ := lt_some hf
      refine X_ws (ws1 := (wA G ad σ1 ts1)) (by rw [eσ1]; rfl) ?_
      have hσ1 : ts1.map (fun q => q.2) = σ1.2.2.2 := by rw [eσ1]; exact hts1
      refine X_aload_n 0 rfl dX9_setRack_53 rfl ?_
      refine X_iconst 0 dX9_setRack_54 (by decide) ?_
      obtain ⟨σ2, eσ2, hf⟩ := lt_some hf
      refine X_put (k := 0) RC_X9 fl_X9_9 rfl (by decide) rfl dX9_setRack_55 0 rfl (Nat.le_of_ble_eq_true rfl) rfl rfl (wA G ad σ2 ts1) (by rw [eσ2]; rfl) ?_
      have hσ2 : ts1.map (fun q => q.2) = σ2.2.2.2 := by rw [eσ2]; exact hσ1
      refine X_iload_n 2 rfl dX9_setRack_58 rfl ?_
      cases hf
      exact X_iret rfl (by decide) (by decide) dX9_setRack_59 rfl ⟨ts1, hσ2, rfl⟩
    · replace hf := (if_neg c1).symm.trans hf
      cases hf
      exact X_throwS 1 9 rfl rfl xs_k1 xs_i1 (by decide) xs_a1 xs_g1 dX9_setRack_17 dX9_setRack_20 dX9_setRack_21 dX9_setRack_23 dX9_setRack_26 rfl (by omega) ⟨by decide, by decide⟩ (Nat.le_of_ble_eq_true rfl) rfl ⟨ts, hts, rfl⟩
theorem k_X9_setRack {l : Launch} {G : Gv} {ad : Nat → Nat} {d : Nat} {σ : S2} {ts : List Tb} {q : ((Nat ⊕ Int32) × S2)} {x1 : Int32} (hd : 8 ≤ d) (hts : ts.map (fun q => q.2) = σ.2.2.2) (hf : f_X9_setRack σ x1 = some q) : XK l G yX9_setRack (.code yX9_setRack cX9_setRack 3 (some .int)) d 16 256 [.ref (ad 0), .int x1] (wA G ad σ ts) (oI q.1) (fun w => ∃ ts1 : List Tb, ts1.map (fun q => q.2) = q.2.2.2.2 ∧ w = wA G ad q.2 ts1) := X_intro (by decide) (Nat.le_of_ble_eq_true rfl) (v_X9_setRack hd hts hf)
def f_X9_setTile_14 (σ : S2) (x1 : Int32) (x2 : Int32) (x3 : Int32) : Option ((Nat ⊕ Int32) × S2) := bno (f_X3_save σ) fun r1 => bno (f_X6_squareOf x1 x2) fun r2 => bno (f_X0_letter r1.1 r2) fun r3 => bno (f_X0_put r1.1 r2 x3) fun r4 => lt (r4, r1.2) fun σ1 => some (.inr r3, σ1)
set_option maxHeartbeats 4000000 in
set_option maxRecDepth 100000 in
theorem v_X9_setTile_14 {l : Launch} {G : Gv} {ad : Nat → Nat} {d : Nat} {av0 : List Value} {w1 : va_W} {q : ((Nat ⊕ Int32) × S2)} {σ : S2} {ts : List Tb} {x1 : Int32} {x2 : Int32} {x3 : Int32} (hd : 8 ≤ d) (hts : ts.map (fun q => q.2) = σ.2.2.2) (hf : f_X9_setTile_14 σ x1 x2 x3 = some q) : VX l G yX9_setTile cX9_setTile 6 (some .int) d 16 256 av0 w1 [] (oI q.1) (fun w => ∃ ts1 : List Tb, ts1.map (fun q => q.2) = q.2.2.2.2 ∧ w = wA G ad q.2 ts1) 4 24 (wA G ad σ ts) 14 [(0, .ref (ad 0)), (1, .int x1), (2, .int x2), (3, .int x3)] [] := by
  unfold f_X9_setTile_14 at hf
  refine X_aload_n 0 rfl dX9_setTile_14 rfl ?_
  refine X_get (k := 4) RC_X9 fl_X9_43 rfl (by decide) dX9_setTile_15 0 rfl rfl ?_
  refine X_aload_n 0 rfl dX9_setTile_18 rfl ?_
  refine X_get (k := 1) RC_X9 fl_X9_18 rfl (by decide) dX9_setTile_19 0 rfl rfl ?_
  obtain ⟨r1, hr1, hf⟩ := bno_some hf
  refine X_cVg (As := [.ref (ad 1)]) (rest := []) (k_X3_save (d := 3) (Nat.le_refl _) hts hr1) LB_X3_save lk_X9_80 (by omega) dX9_setTile_22 rfl rfl (Nat.le_of_ble_eq_true rfl) ⟨by decide, by decide⟩ 13 rfl ⟨rfl, rfl⟩ (fun ro w1 hp => ?_)
  obtain ⟨rfl, ts1, hts1, rfl⟩ := hp
  refine X_st (st1 := []) rfl ?_
  refine X_iload_n 1 rfl dX9_setTile_25 rfl ?_
  refine X_iload_n 2 rfl dX9_setTile_26 rfl ?_
  obtain ⟨r2, hr2, hf⟩ := bno_some hf
  refine X_cS (As := [.int x1, .int x2]) (rest := []) (k_X6_squareOf (d := 0) (Nat.le_refl _) hr2) LB_X6_squareOf lk_X9_113 (by omega) dX9_setTile_27 rfl rfl (Nat.le_of_ble_eq_true rfl) (by decide) (by decide) [.int r2] rfl ?_
  refine X_istore [(0, .ref (ad 0)), (1, .int x1), (2, .int x2), (3, .int x3), (4, .int r2)] [1, 2, 3, 4, 0] dX9_setTile_30 (by decide) rfl ?_
  refine X_aload_n 0 rfl dX9_setTile_32 rfl ?_
  refine X_get (k := 1) RC_X9 fl_X9_18 rfl (by decide) dX9_setTile_33 0 rfl rfl ?_
  refine X_getN (k := 1) RC_X7 fl_X9_118 rfl (by decide) dX9_setTile_36 1 rfl rfl ?_
  refine X_iload 4 rfl dX9_setTile_39 ?_
  obtain ⟨r3, hr3, hf⟩ := bno_some hf
  refine X_cVf (As := [.int r2]) (rest := []) (k_X0_letter (d := 1) (Nat.le_refl _) hr3) LB_X0_letter lk_X9_143 (by omega) dX9_setTile_41 rfl rfl (Nat.le_of_ble_eq_true rfl) (by decide) (by decide) 4 rfl ⟨rfl, rfl⟩ [.int r3] rfl ?_
  refine X_istore [(0, .ref (ad 0)), (1, .int x1), (2, .int x2), (3, .int x3), (4, .int r2), (5, .int r3)] [1, 2, 3, 4, 5, 0] dX9_setTile_44 (by decide) rfl ?_
  refine X_aload_n 0 rfl dX9_setTile_46 rfl ?_
  refine X_get (k := 1) RC_X9 fl_X9_18 rfl (by decide) dX9_setTile_47 0 rfl rfl ?_
  refine X_getN (k := 1) RC_X7 fl_X9_118 rfl (by decide) dX9_setTile_50 1 rfl rfl ?_
  refine X_iload 4 rfl dX9_setTile_53 ?_
  refine X_iload_n 3 rfl dX9_setTile_55 rfl ?_
  obtain ⟨r4, hr4, hf⟩ := bno_some hf
  refine X_cVf (As := [.int r2, .int x3]) (rest := []) (k_X0_put (d := 1) (Nat.le_refl _) hr4) LB_X0_put lk_X9_146 (by omega) dX9_setTile_56 rfl rfl (Nat.le_of_ble_eq_true rfl) (by decide) (by decide) 4 rfl ⟨rfl, rfl⟩ [] rfl ?_
  obtain ⟨σ1, eσ1, hf⟩ := lt_some hf
  refine X_ws (ws1 := (wA G ad σ1 ts1)) (by rw [eσ1]; rfl) ?_
  have hσ1 : ts1.map (fun q => q.2) = σ1.2.2.2 := by rw [eσ1]; exact hts1
  refine X_iload 5 rfl dX9_setTile_59 ?_
  cases hf
  exact X_iret rfl (by decide) (by decide) dX9_setTile_61 rfl ⟨ts1, hσ1, rfl⟩
def f_X9_setTile (σ : S2) (x1 : Int32) (x2 : Int32) (x3 : Int32) : Option ((Nat ⊕ Int32) × S2) := bno (f_X9_requireSquare x1 x2) fun r1 => exq r1 (fun cx => some (.inl cx, σ)) (fun u => if x3 = (-1) then (f_X9_setTile_14 σ x1 x2 x3) else (bno (f_X9_requireLetter x3) fun r2 => exq r2 (fun cx => some (.inl cx, σ)) (fun u => f_X9_setTile_14 σ x1 x2 x3)))
set_option maxHeartbeats 4000000 in
set_option maxRecDepth 100000 in
theorem v_X9_setTile {l : Launch} {G : Gv} {ad : Nat → Nat} {d : Nat} {av0 : List Value} {w1 : va_W} {q : ((Nat ⊕ Int32) × S2)} {σ : S2} {ts : List Tb} {x1 : Int32} {x2 : Int32} {x3 : Int32} (hd : 8 ≤ d) (hts : ts.map (fun q => q.2) = σ.2.2.2) (hf : f_X9_setTile σ x1 x2 x3 = some q) : VX l G yX9_setTile cX9_setTile 6 (some .int) d 16 256 av0 w1 [] (oI q.1) (fun w => ∃ ts1 : List Tb, ts1.map (fun q => q.2) = q.2.2.2.2 ∧ w = wA G ad q.2 ts1) 0 0 (wA G ad σ ts) 0 [(0, .ref (ad 0)), (1, .int x1), (2, .int x2), (3, .int x3)] [] := by
  unfold f_X9_setTile at hf
  refine X_iload_n 1 rfl dX9_setTile_0 rfl ?_
  refine X_iload_n 2 rfl dX9_setTile_1 rfl ?_
  obtain ⟨r1, hr1, hf⟩ := bno_some hf
  rcases r1 with cx | u
  · replace hf := exq_l hf
    cases hf
    exact X_cSt (As := [.int x1, .int x2]) (rest := []) (k_X9_requireSquare (d := 6) (Nat.le_refl _) hr1) LB_X9_requireSquare lk_X9_107 (by omega) dX9_setTile_2 rfl rfl (Nat.le_of_ble_eq_true rfl) ⟨by decide, by decide⟩ rfl rfl ⟨ts, hts, rfl⟩
  · replace hf := exq_r hf
    refine X_cSr (As := [.int x1, .int x2]) (rest := []) (k_X9_requireSquare (d := 6) (Nat.le_refl _) hr1) LB_X9_requireSquare lk_X9_107 (by omega) dX9_setTile_2 rfl rfl (Nat.le_of_ble_eq_true rfl) ⟨by decide, by decide⟩ [] rfl ?_
    refine X_iload_n 3 rfl dX9_setTile_5 rfl ?_
    refine X_iconst (-1) dX9_setTile_6 (by decide) ?_
    refine X_icmp_eq 14 dX9_setTile_7 (by decide) (fun c1 => ?_) (fun c1 => ?_)
    · replace hf := (if_pos c1).symm.trans hf
      refine X_widen (ce1 := 4) (sl1 := 24) (by decide) (by decide) ?_
      exact v_X9_setTile_14 hd hts hf
    · replace hf := (if_neg c1).symm.trans hf
      refine X_iload_n 3 rfl dX9_setTile_10 rfl ?_
      obtain ⟨r2, hr2, hf⟩ := bno_some hf
      rcases r2 with cx | u
      · replace hf := exq_l hf
        cases hf
        exact X_cSt (As := [.int x3]) (rest := []) (k_X9_requireLetter (d := 6) (Nat.le_refl _) hr2) LB_X9_requireLetter lk_X9_47 (by omega) dX9_setTile_11 rfl rfl (Nat.le_of_ble_eq_true rfl) ⟨by decide, by decide⟩ rfl rfl ⟨ts, hts, rfl⟩
      · replace hf := exq_r hf
        refine X_cSr (As := [.int x3]) (rest := []) (k_X9_requireLetter (d := 6) (Nat.le_refl _) hr2) LB_X9_requireLetter lk_X9_47 (by omega) dX9_setTile_11 rfl rfl (Nat.le_of_ble_eq_true rfl) ⟨by decide, by decide⟩ [] rfl ?_
        refine X_widen (ce1 := 4) (sl1 := 24) (by decide) (by decide) ?_
        exact v_X9_setTile_14 hd hts hf
theorem k_X9_setTile {l : Launch} {G : Gv} {ad : Nat → Nat} {d : Nat} {σ : S2} {ts : List Tb} {q : ((Nat ⊕ Int32) × S2)} {x1 : Int32} {x2 : Int32} {x3 : Int32} (hd : 8 ≤ d) (hts : ts.map (fun q => q.2) = σ.2.2.2) (hf : f_X9_setTile σ x1 x2 x3 = some q) : XK l G yX9_setTile (.code yX9_setTile cX9_setTile 6 (some .int)) d 16 256 [.ref (ad 0), .int x1, .int x2, .int x3] (wA G ad σ ts) (oI q.1) (fun w => ∃ ts1 : List Tb, ts1.map (fun q => q.2) = q.2.2.2.2 ∧ w = wA G ad q.2 ts1) := X_intro (by decide) (Nat.le_of_ble_eq_true rfl) (v_X9_setTile hd hts hf)
def f_X9_play (σ : S2) (x1 : Int32) (x2 : Int32) (x3 : Int32) (x4 : Int32) : Option ((Nat ⊕ Int32) × S2) := bno (f_X9_requirePlayer x1) fun r1 => exq r1 (fun cx => some (.inl cx, σ)) (fun u => bno (f_X9_requireSquare x3 x4) fun r2 => exq r2 (fun cx => some (.inl cx, σ)) (fun u => bno (f_X9_requireDirection x2) fun r3 => exq r3 (fun cx => some (.inl cx, σ)) (fun u => bno (f_X6_of x2 x3 x4) fun r4 => bno (f_X9_lookUp σ.1) fun r5 => bno (f_X5_refusal σ.1 x1 r4 r5) fun r6 => if r6 = 0 then (lt ((si σ.1 0 (0), σ.2)) fun σ1 => bno (f_X6_withWord r4 r5) fun r7 => bno (f_X9_makePlay σ1 x1 r7) fun r8 => some (.inr r8.1, r8.2)) else (some (.inl 1, σ)))))
set_option maxHeartbeats 4000000 in
set_option maxRecDepth 100000 in
theorem v_X9_play {l : Launch} {G : Gv} {ad : Nat → Nat} {d : Nat} {av0 : List Value} {w1 : va_W} {q : ((Nat ⊕ Int32) × S2)} {σ : S2} {ts : List Tb} {x1 : Int32} {x2 : Int32} {x3 : Int32} {x4 : Int32} (hd : 10 ≤ d) (hts : ts.map (fun q => q.2) = σ.2.2.2) (hf : f_X9_play σ x1 x2 x3 x4 = some q) : VX l G yX9_play cX9_play 7 (some .int) d 16 256 av0 w1 [] (oI q.1) (fun w => ∃ ts1 : List Tb, ts1.map (fun q => q.2) = q.2.2.2.2 ∧ w = wA G ad q.2 ts1) 0 0 (wA G ad σ ts) 0 [(0, .ref (ad 0)), (1, .int x1), (2, .int x2), (3, .int x3), (4, .int x4)] [] := by
  unfold f_X9_play at hf
  refine X_iload_n 1 rfl dX9_play_0 rfl ?_
  obtain ⟨r1, hr1, hf⟩ := bno_some hf
  rcases r1 with cx | u
  · replace hf := exq_l hf
    cases hf
    exact X_cSt (As := [.int x1]) (rest := []) (k_X9_requirePlayer (d := 6) (Nat.le_refl _) hr1) LB_X9_requirePlayer lk_X9_130 (by omega) dX9_play_1 rfl rfl (Nat.le_of_ble_eq_true rfl) ⟨by decide, by decide⟩ rfl rfl ⟨ts, hts, rfl⟩
  · replace hf := exq_r hf
    refine X_cSr (As := [.int x1]) (rest := []) (k_X9_requirePlayer (d := 6) (Nat.le_refl _) hr1) LB_X9_requirePlayer lk_X9_130 (by omega) dX9_play_1 rfl rfl (Nat.le_of_ble_eq_true rfl) ⟨by decide, by decide⟩ [] rfl ?_
    refine X_iload_n 3 rfl dX9_play_4 rfl ?_
    refine X_iload 4 rfl dX9_play_5 ?_
    obtain ⟨r2, hr2, hf⟩ := bno_some hf
    rcases r2 with cx | u
    · replace hf := exq_l hf
      cases hf
      exact X_cSt (As := [.int x3, .int x4]) (rest := []) (k_X9_requireSquare (d := 6) (Nat.le_refl _) hr2) LB_X9_requireSquare lk_X9_107 (by omega) dX9_play_7 rfl rfl (Nat.le_of_ble_eq_true rfl) ⟨by decide, by decide⟩ rfl rfl ⟨ts, hts, rfl⟩
    · replace hf := exq_r hf
      refine X_cSr (As := [.int x3, .int x4]) (rest := []) (k_X9_requireSquare (d := 6) (Nat.le_refl _) hr2) LB_X9_requireSquare lk_X9_107 (by omega) dX9_play_7 rfl rfl (Nat.le_of_ble_eq_true rfl) ⟨by decide, by decide⟩ [] rfl ?_
      refine X_iload_n 2 rfl dX9_play_10 rfl ?_
      obtain ⟨r3, hr3, hf⟩ := bno_some hf
      rcases r3 with cx | u
      · replace hf := exq_l hf
        cases hf
        exact X_cSt (As := [.int x2]) (rest := []) (k_X9_requireDirection (d := 6) (Nat.le_refl _) hr3) LB_X9_requireDirection lk_X9_158 (by omega) dX9_play_11 rfl rfl (Nat.le_of_ble_eq_true rfl) ⟨by decide, by decide⟩ rfl rfl ⟨ts, hts, rfl⟩
      · replace hf := exq_r hf
        refine X_cSr (As := [.int x2]) (rest := []) (k_X9_requireDirection (d := 6) (Nat.le_refl _) hr3) LB_X9_requireDirection lk_X9_158 (by omega) dX9_play_11 rfl rfl (Nat.le_of_ble_eq_true rfl) ⟨by decide, by decide⟩ [] rfl ?_
        refine X_iload_n 2 rfl dX9_play_14 rfl ?_
        refine X_iload_n 3 rfl dX9_play_15 rfl ?_
        refine X_iload 4 rfl dX9_play_16 ?_
        obtain ⟨r4, hr4, hf⟩ := bno_some hf
        refine X_cS (As := [.int x2, .int x3, .int x4]) (rest := []) (k_X6_of (d := 0) (Nat.le_refl _) hr4) LB_X6_of lk_X9_161 (by omega) dX9_play_18 rfl rfl (Nat.le_of_ble_eq_true rfl) (by decide) (by decide) [.int r4] rfl ?_
        refine X_istore [(0, .ref (ad 0)), (1, .int x1), (2, .int x2), (3, .int x3), (4, .int x4), (5, .int r4)] [1, 2, 3, 4, 5, 0] dX9_play_21 (by decide) rfl ?_
        refine X_aload_n 0 rfl dX9_play_23 rfl ?_
        obtain ⟨r5, hr5, hf⟩ := bno_some hf
        refine X_cVf (As := []) (rest := []) (k_X9_lookUp (d := 1) (Nat.le_refl _) hr5) LB_X9_lookUp lk_X9_177 (by omega) dX9_play_24 rfl rfl (Nat.le_of_ble_eq_true rfl) (by decide) (by decide) 0 rfl ⟨rfl, rfl⟩ [.int r5] rfl ?_
        refine X_istore [(0, .ref (ad 0)), (1, .int x1), (2, .int x2), (3, .int x3), (4, .int x4), (5, .int r4), (6, .int r5)] [1, 2, 3, 4, 5, 6, 0] dX9_play_27 (by decide) rfl ?_
        refine X_aload_n 0 rfl dX9_play_29 rfl ?_
        refine X_get (k := 2) RC_X9 fl_X9_27 rfl (by decide) dX9_play_30 0 rfl rfl ?_
        refine X_iload_n 1 rfl dX9_play_33 rfl ?_
        refine X_iload 5 rfl dX9_play_34 ?_
        refine X_iload 6 rfl dX9_play_36 ?_
        obtain ⟨r6, hr6, hf⟩ := bno_some hf
        refine X_cVf (As := [.int x1, .int r4, .int r5]) (rest := []) (k_X5_refusal (d := 4) (Nat.le_refl _) hr6) LB_X5_refusal lk_X9_180 (by omega) dX9_play_38 rfl rfl (Nat.le_of_ble_eq_true rfl) (by decide) (by decide) 11 rfl ⟨rfl, rfl⟩ [.int r6] rfl ?_
        refine X_if_eq 54 dX9_play_41 (by decide) (fun c1 => ?_) (fun c1 => ?_)
        · replace hf := (if_pos c1).symm.trans hf
          refine X_aload_n 0 rfl dX9_play_54 rfl ?_
          refine X_iconst 0 dX9_play_55 (by decide) ?_
          obtain ⟨σ1, eσ1, hf⟩ := lt_some hf
          refine X_put (k := 0) RC_X9 fl_X9_9 rfl (by decide) rfl dX9_play_56 0 rfl (Nat.le_of_ble_eq_true rfl) rfl rfl (wA G ad σ1 ts) (by rw [eσ1]; rfl) ?_
          have hσ1 : ts.map (fun q => q.2) = σ1.2.2.2 := by rw [eσ1]; exact hts
          refine X_aload_n 0 rfl dX9_play_59 rfl ?_
          refine X_iload_n 1 rfl dX9_play_60 rfl ?_
          refine X_iload 5 rfl dX9_play_61 ?_
          refine X_iload 6 rfl dX9_play_63 ?_
          obtain ⟨r7, hr7, hf⟩ := bno_some hf
          refine X_cS (As := [.int r4, .int r5]) (rest := [.int x1, .ref (ad 0)]) (k_X6_withWord (d := 0) (Nat.le_refl _) hr7) LB_X6_withWord lk_X9_185 (by omega) dX9_play_65 rfl rfl (Nat.le_of_ble_eq_true rfl) (by decide) (by decide) [.int r7, .int x1, .ref (ad 0)] rfl ?_
          obtain ⟨r8, hr8, hf⟩ := bno_some hf
          refine X_cVg (As := [.int x1, .int r7]) (rest := []) (k_X9_makePlay (d := 8) (Nat.le_refl _) hσ1 hr8) LB_X9_makePlay lk_X9_188 (by omega) dX9_play_68 rfl rfl (Nat.le_of_ble_eq_true rfl) ⟨by decide, by decide⟩ 0 rfl ⟨rfl, rfl⟩ (fun ro w1 hp => ?_)
          obtain ⟨rfl, ts1, hts1, rfl⟩ := hp
          refine X_st (st1 := [.int r8.1]) rfl ?_
          cases hf
          exact X_iret rfl (by decide) (by decide) dX9_play_71 rfl ⟨ts1, hts1, rfl⟩
        · replace hf := (if_neg c1).symm.trans hf
          cases hf
          exact X_throwS 1 11 rfl rfl xs_k1 xs_i1 (by decide) xs_a1 xs_g1 dX9_play_44 dX9_play_47 dX9_play_48 dX9_play_50 dX9_play_53 rfl (by omega) ⟨by decide, by decide⟩ (Nat.le_of_ble_eq_true rfl) rfl ⟨ts, hts, rfl⟩
theorem k_X9_play {l : Launch} {G : Gv} {ad : Nat → Nat} {d : Nat} {σ : S2} {ts : List Tb} {q : ((Nat ⊕ Int32) × S2)} {x1 : Int32} {x2 : Int32} {x3 : Int32} {x4 : Int32} (hd : 10 ≤ d) (hts : ts.map (fun q => q.2) = σ.2.2.2) (hf : f_X9_play σ x1 x2 x3 x4 = some q) : XK l G yX9_play (.code yX9_play cX9_play 7 (some .int)) d 16 256 [.ref (ad 0), .int x1, .int x2, .int x3, .int x4] (wA G ad σ ts) (oI q.1) (fun w => ∃ ts1 : List Tb, ts1.map (fun q => q.2) = q.2.2.2.2 ∧ w = wA G ad q.2 ts1) := X_intro (by decide) (Nat.le_of_ble_eq_true rfl) (v_X9_play hd hts hf)
def f_X9_playBest (σ : S2) (x1 : Int32) : Option ((Nat ⊕ Int32) × S2) := bno (f_X9_requirePlayer x1) fun r1 => exq r1 (fun cx => some (.inl cx, σ)) (fun u => bno (f_X5_indexOfBest σ.1 x1) fun r2 => bno (f_X5_playNumbered σ.1 x1 r2) fun r3 => if r3 = (-1) then (some (.inl 1, σ)) else (bno (f_X9_makePlay σ x1 r3) fun r4 => some (.inr r4.1, r4.2)))
set_option maxHeartbeats 4000000 in
set_option maxRecDepth 100000 in
theorem v_X9_playBest {l : Launch} {G : Gv} {ad : Nat → Nat} {d : Nat} {av0 : List Value} {w1 : va_W} {q : ((Nat ⊕ Int32) × S2)} {σ : S2} {ts : List Tb} {x1 : Int32} (hd : 10 ≤ d) (hts : ts.map (fun q => q.2) = σ.2.2.2) (hf : f_X9_playBest σ x1 = some q) : VX l G yX9_playBest cX9_playBest 3 (some .int) d 16 256 av0 w1 [] (oI q.1) (fun w => ∃ ts1 : List Tb, ts1.map (fun q => q.2) = q.2.2.2.2 ∧ w = wA G ad q.2 ts1) 0 0 (wA G ad σ ts) 0 [(0, .ref (ad 0)), (1, .int x1)] [] := by
  unfold f_X9_playBest at hf
  refine X_iload_n 1 rfl dX9_playBest_0 rfl ?_
  obtain ⟨r1, hr1, hf⟩ := bno_some hf
  rcases r1 with cx | u
  · replace hf := exq_l hf
    cases hf
    exact X_cSt (As := [.int x1]) (rest := []) (k_X9_requirePlayer (d := 6) (Nat.le_refl _) hr1) LB_X9_requirePlayer lk_X9_130 (by omega) dX9_playBest_1 rfl rfl (Nat.le_of_ble_eq_true rfl) ⟨by decide, by decide⟩ rfl rfl ⟨ts, hts, rfl⟩
  · replace hf := exq_r hf
    refine X_cSr (As := [.int x1]) (rest := []) (k_X9_requirePlayer (d := 6) (Nat.le_refl _) hr1) LB_X9_requirePlayer lk_X9_130 (by omega) dX9_playBest_1 rfl rfl (Nat.le_of_ble_eq_true rfl) ⟨by decide, by decide⟩ [] rfl ?_
    refine X_aload_n 0 rfl dX9_playBest_4 rfl ?_
    refine X_get (k := 2) RC_X9 fl_X9_27 rfl (by decide) dX9_playBest_5 0 rfl rfl ?_
    refine X_iload_n 1 rfl dX9_playBest_8 rfl ?_
    refine X_aload_n 0 rfl dX9_playBest_9 rfl ?_
    refine X_get (k := 2) RC_X9 fl_X9_27 rfl (by decide) dX9_playBest_10 0 rfl rfl ?_
    refine X_iload_n 1 rfl dX9_playBest_13 rfl ?_
    obtain ⟨r2, hr2, hf⟩ := bno_some hf
    refine X_cVf (As := [.int x1]) (rest := [.int x1, .ref (ad 11)]) (k_X5_indexOfBest (d := 6) (Nat.le_refl _) hr2) LB_X5_indexOfBest lk_X9_225 (by omega) dX9_playBest_14 rfl rfl (Nat.le_of_ble_eq_true rfl) (by decide) (by decide) 11 rfl ⟨rfl, rfl⟩ [.int r2, .int x1, .ref (ad 11)] rfl ?_
    obtain ⟨r3, hr3, hf⟩ := bno_some hf
    refine X_cVf (As := [.int x1, .int r2]) (rest := []) (k_X5_playNumbered (d := 6) (Nat.le_refl _) hr3) LB_X5_playNumbered lk_X9_194 (by omega) dX9_playBest_17 rfl rfl (Nat.le_of_ble_eq_true rfl) (by decide) (by decide) 11 rfl ⟨rfl, rfl⟩ [.int r3] rfl ?_
    refine X_istore_n [(0, .ref (ad 0)), (1, .int x1), (2, .int r3)] [1, 2, 0] dX9_playBest_20 rfl (by decide) rfl ?_
    refine X_iload_n 2 rfl dX9_playBest_21 rfl ?_
    refine X_iconst (-1) dX9_playBest_22 (by decide) ?_
    refine X_icmp_ne 36 dX9_playBest_23 (by decide) (fun c1 => ?_) (fun c1 => ?_)
    · replace hf := (if_neg c1).symm.trans hf
      refine X_aload_n 0 rfl dX9_playBest_36 rfl ?_
      refine X_iload_n 1 rfl dX9_playBest_37 rfl ?_
      refine X_iload_n 2 rfl dX9_playBest_38 rfl ?_
      obtain ⟨r4, hr4, hf⟩ := bno_some hf
      refine X_cVg (As := [.int x1, .int r3]) (rest := []) (k_X9_makePlay (d := 8) (Nat.le_refl _) hts hr4) LB_X9_makePlay lk_X9_188 (by omega) dX9_playBest_39 rfl rfl (Nat.le_of_ble_eq_true rfl) ⟨by decide, by decide⟩ 0 rfl ⟨rfl, rfl⟩ (fun ro w1 hp => ?_)
      obtain ⟨rfl, ts1, hts1, rfl⟩ := hp
      refine X_st (st1 := [.int r4.1]) rfl ?_
      cases hf
      exact X_iret rfl (by decide) (by decide) dX9_playBest_42 rfl ⟨ts1, hts1, rfl⟩
    · replace hf := (if_pos c1).symm.trans hf
      cases hf
      exact X_throwS 1 14 rfl rfl xs_k1 xs_i1 (by decide) xs_a1 xs_g1 dX9_playBest_26 dX9_playBest_29 dX9_playBest_30 dX9_playBest_32 dX9_playBest_35 rfl (by omega) ⟨by decide, by decide⟩ (Nat.le_of_ble_eq_true rfl) rfl ⟨ts, hts, rfl⟩
theorem k_X9_playBest {l : Launch} {G : Gv} {ad : Nat → Nat} {d : Nat} {σ : S2} {ts : List Tb} {q : ((Nat ⊕ Int32) × S2)} {x1 : Int32} (hd : 10 ≤ d) (hts : ts.map (fun q => q.2) = σ.2.2.2) (hf : f_X9_playBest σ x1 = some q) : XK l G yX9_playBest (.code yX9_playBest cX9_playBest 3 (some .int)) d 16 256 [.ref (ad 0), .int x1] (wA G ad σ ts) (oI q.1) (fun w => ∃ ts1 : List Tb, ts1.map (fun q => q.2) = q.2.2.2.2 ∧ w = wA G ad q.2 ts1) := X_intro (by decide) (Nat.le_of_ble_eq_true rfl) (v_X9_playBest hd hts hf)
def f_X9_undo (σ : S2) : Option ((Nat ⊕ Int32) × S2) := bno (f_X3_size σ) fun r1 => if r1 = 0 then (some (.inl 1, σ)) else (bno (f_X3_restore σ) fun r2 => bno (f_X3_size r2) fun r3 => some (.inr r3, r2))
set_option maxHeartbeats 4000000 in
set_option maxRecDepth 100000 in
theorem v_X9_undo {l : Launch} {G : Gv} {ad : Nat → Nat} {d : Nat} {av0 : List Value} {w1 : va_W} {q : ((Nat ⊕ Int32) × S2)} {σ : S2} {ts : List Tb} (hd : 8 ≤ d) (hts : ts.map (fun q => q.2) = σ.2.2.2) (hf : f_X9_undo σ = some q) : VX l G yX9_undo cX9_undo 1 (some .int) d 16 256 av0 w1 [] (oI q.1) (fun w => ∃ ts1 : List Tb, ts1.map (fun q => q.2) = q.2.2.2.2 ∧ w = wA G ad q.2 ts1) 0 0 (wA G ad σ ts) 0 [(0, .ref (ad 0))] [] := by
  unfold f_X9_undo at hf
  refine X_aload_n 0 rfl dX9_undo_0 rfl ?_
  refine X_get (k := 4) RC_X9 fl_X9_43 rfl (by decide) dX9_undo_1 0 rfl rfl ?_
  obtain ⟨r1, hr1, hf⟩ := bno_some hf
  refine X_cV (As := []) (rest := []) (k_X3_size (d := 0) (Nat.le_refl _) hr1) LB_X3_size lk_X9_241 (by omega) dX9_undo_4 rfl rfl (Nat.le_of_ble_eq_true rfl) (by decide) (by decide) 13 rfl ⟨rfl, rfl⟩ [.int r1] rfl ?_
  refine X_if_ne 20 dX9_undo_7 (by decide) (fun c1 => ?_) (fun c1 => ?_)
  · replace hf := (if_neg c1).symm.trans hf
    refine X_aload_n 0 rfl dX9_undo_20 rfl ?_
    refine X_get (k := 4) RC_X9 fl_X9_43 rfl (by decide) dX9_undo_21 0 rfl rfl ?_
    refine X_aload_n 0 rfl dX9_undo_24 rfl ?_
    refine X_get (k := 1) RC_X9 fl_X9_18 rfl (by decide) dX9_undo_25 0 rfl rfl ?_
    obtain ⟨r2, hr2, hf⟩ := bno_some hf
    refine X_cVg (As := [.ref (ad 1)]) (rest := []) (k_X3_restore (d := 3) (Nat.le_refl _) hts hr2) LB_X3_restore lk_X9_244 (by omega) dX9_undo_28 rfl rfl (Nat.le_of_ble_eq_true rfl) ⟨by decide, by decide⟩ 13 rfl ⟨rfl, rfl⟩ (fun ro w1 hp => ?_)
    obtain ⟨rfl, ts1, hts1, rfl⟩ := hp
    refine X_st (st1 := []) rfl ?_
    refine X_aload_n 0 rfl dX9_undo_31 rfl ?_
    refine X_get (k := 4) RC_X9 fl_X9_43 rfl (by decide) dX9_undo_32 0 rfl rfl ?_
    obtain ⟨r3, hr3, hf⟩ := bno_some hf
    refine X_cV (As := []) (rest := []) (k_X3_size (d := 0) (Nat.le_refl _) hr3) LB_X3_size lk_X9_241 (by omega) dX9_undo_35 rfl rfl (Nat.le_of_ble_eq_true rfl) (by decide) (by decide) 13 rfl ⟨rfl, rfl⟩ [.int r3] rfl ?_
    cases hf
    exact X_iret rfl (by decide) (by decide) dX9_undo_38 rfl ⟨ts1, hts1, rfl⟩
  · replace hf := (if_pos c1).symm.trans hf
    cases hf
    exact X_throwS 1 16 rfl rfl xs_k1 xs_i1 (by decide) xs_a1 xs_g1 dX9_undo_10 dX9_undo_13 dX9_undo_14 dX9_undo_16 dX9_undo_19 rfl (by omega) ⟨by decide, by decide⟩ (Nat.le_of_ble_eq_true rfl) rfl ⟨ts, hts, rfl⟩
theorem k_X9_undo {l : Launch} {G : Gv} {ad : Nat → Nat} {d : Nat} {σ : S2} {ts : List Tb} {q : ((Nat ⊕ Int32) × S2)} (hd : 8 ≤ d) (hts : ts.map (fun q => q.2) = σ.2.2.2) (hf : f_X9_undo σ = some q) : XK l G yX9_undo (.code yX9_undo cX9_undo 1 (some .int)) d 16 256 [.ref (ad 0)] (wA G ad σ ts) (oI q.1) (fun w => ∃ ts1 : List Tb, ts1.map (fun q => q.2) = q.2.2.2.2 ∧ w = wA G ad q.2 ts1) := X_intro (by decide) (Nat.le_of_ble_eq_true rfl) (v_X9_undo hd hts hf)
def f_X9_digest_143 : Nat → S2 → Int64 → Int32 → Option (Int64 × S2)
  | 0, _, _, _ => none
  | n + 1, σ, x1, x3 => if (2) ≤ x3 then (bno (f_X9_anchors σ.1) fun r1 => bno (f_X3_size σ) fun r2 => some ((((31) * (((31) * x1) + (Int32.toInt64 r1))) + (Int32.toInt64 r2)), σ)) else (bno (f_X7_rack σ.1 x3) fun r3 => bno (f_X9_hashRack x1 r3) fun r4 => bno (f_X7_points σ.1 x3) fun r5 => bno (f_X5_countPlays σ.1 x3) fun r6 => f_X9_digest_143 n σ (((31) * (((31) * r4) + (Int32.toInt64 r5))) + (Int32.toInt64 r6)) (x3 + 1))
set_option maxHeartbeats 4000000 in
set_option maxRecDepth 100000 in
theorem v_X9_digest_143 {l : Launch} {G : Gv} {ad : Nat → Nat} {d : Nat} {av0 : List Value} {w1 : va_W} {q : (Int64 × S2)} (hd : 10 ≤ d) : ∀ (n : Nat) (σ : S2) (ts : List Tb) (x1 : Int64) (x3 : Int32), ts.map (fun q => q.2) = σ.2.2.2 → f_X9_digest_143 n σ x1 x3 = some q → VV l G yX9_digest cX9_digest 6 (some .long) d 0 0 av0 w1 (pD (some (.long q.1)) (wA G ad q.2 ts)) 0 0 (wA G ad σ ts) 143 [(0, .ref (ad 0)), (1, .long x1), (3, .int x3)] [] := by
  intro n
  induction n with
  | zero =>
    intro σ ts x1 x3 hts hf
    cases hf
  | succ n ih =>
    intro σ ts x1 x3 hts hf
    rw [f_X9_digest_143] at hf
    refine V_iload_n 2 rfl dX9_digest_143 rfl ?_
    refine V_iconst 2 dX9_digest_144 (by decide) ?_
    refine V_icmp_ge 199 dX9_digest_145 (by decide) (fun c1 => ?_) (fun c1 => ?_)
    · replace hf := (if_pos c1).symm.trans hf
      refine V_ldc2 (31) kc_X9_253 dX9_digest_199 ?_
      refine V_lload_n 1 rfl dX9_digest_202 rfl ?_
      refine V_lmul dX9_digest_203 ?_
      refine V_aload_n 0 rfl dX9_digest_204 rfl ?_
      obtain ⟨r1, hr1, hf⟩ := bno_some hf
      refine V_cVf (As := []) (rest := [.long ((31) * x1)]) (k_X9_anchors (d := 2) (Nat.le_refl _) hr1) LB_X9_anchors lk_X9_265 (by omega) dX9_digest_205 rfl rfl (Nat.le_of_ble_eq_true rfl) (Nat.le_refl _) (Nat.le_refl _) 0 rfl ⟨rfl, rfl⟩ [.int r1, .long ((31) * x1)] rfl ?_
      refine V_i2l dX9_digest_208 ?_
      refine V_ladd dX9_digest_209 ?_
      refine V_lstore_n [(0, .ref (ad 0)), (1, .long (((31) * x1) + (Int32.toInt64 r1))), (3, .int x3)] [1, 0, 2] dX9_digest_210 rfl (by decide) rfl ?_
      refine V_ldc2 (31) kc_X9_253 dX9_digest_211 ?_
      refine V_lload_n 1 rfl dX9_digest_214 rfl ?_
      refine V_lmul dX9_digest_215 ?_
      refine V_aload_n 0 rfl dX9_digest_216 rfl ?_
      refine V_get (k := 4) RC_X9 fl_X9_43 rfl (by decide) dX9_digest_217 0 rfl rfl ?_
      obtain ⟨r2, hr2, hf⟩ := bno_some hf
      refine V_cV (As := []) (rest := [.long ((31) * (((31) * x1) + (Int32.toInt64 r1)))]) (k_X3_size (d := 0) (Nat.le_refl _) hr2) LB_X3_size lk_X9_241 (by omega) dX9_digest_220 rfl rfl (Nat.le_of_ble_eq_true rfl) (Nat.le_refl _) (Nat.le_refl _) 13 rfl ⟨rfl, rfl⟩ [.int r2, .long ((31) * (((31) * x1) + (Int32.toInt64 r1)))] rfl ?_
      refine V_i2l dX9_digest_223 ?_
      refine V_ladd dX9_digest_224 ?_
      cases hf
      exact V_lret rfl dX9_digest_225 ⟨rfl, rfl⟩
    · replace hf := (if_neg c1).symm.trans hf
      refine V_lload_n 1 rfl dX9_digest_148 rfl ?_
      refine V_aload_n 0 rfl dX9_digest_149 rfl ?_
      refine V_get (k := 1) RC_X9 fl_X9_18 rfl (by decide) dX9_digest_150 0 rfl rfl ?_
      refine V_iload_n 2 rfl dX9_digest_153 rfl ?_
      obtain ⟨r3, hr3, hf⟩ := bno_some hf
      refine V_cVf (As := [.int x3]) (rest := [.long x1]) (k_X7_rack (d := 1) (Nat.le_refl _) hr3) LB_X7_rack lk_X9_149 (by omega) dX9_digest_154 rfl rfl (Nat.le_of_ble_eq_true rfl) (Nat.le_refl _) (Nat.le_refl _) 1 rfl ⟨rfl, rfl⟩ [.int r3, .long x1] rfl ?_
      obtain ⟨r4, hr4, hf⟩ := bno_some hf
      refine V_cS (As := [.long x1, .int r3]) (rest := []) (k_X9_hashRack (d := 1) (Nat.le_refl _) hr4) LB_X9_hashRack lk_X9_262 (by omega) dX9_digest_157 rfl rfl (Nat.le_of_ble_eq_true rfl) (Nat.le_refl _) (Nat.le_refl _) [.long r4] rfl ?_
      refine V_lstore_n [(0, .ref (ad 0)), (1, .long r4), (3, .int x3)] [1, 0, 2] dX9_digest_160 rfl (by decide) rfl ?_
      refine V_ldc2 (31) kc_X9_253 dX9_digest_161 ?_
      refine V_lload_n 1 rfl dX9_digest_164 rfl ?_
      refine V_lmul dX9_digest_165 ?_
      refine V_aload_n 0 rfl dX9_digest_166 rfl ?_
      refine V_get (k := 1) RC_X9 fl_X9_18 rfl (by decide) dX9_digest_167 0 rfl rfl ?_
      refine V_iload_n 2 rfl dX9_digest_170 rfl ?_
      obtain ⟨r5, hr5, hf⟩ := bno_some hf
      refine V_cVf (As := [.int x3]) (rest := [.long ((31) * r4)]) (k_X7_points (d := 1) (Nat.le_refl _) hr5) LB_X7_points lk_X9_155 (by omega) dX9_digest_171 rfl rfl (Nat.le_of_ble_eq_true rfl) (Nat.le_refl _) (Nat.le_refl _) 1 rfl ⟨rfl, rfl⟩ [.int r5, .long ((31) * r4)] rfl ?_
      refine V_i2l dX9_digest_174 ?_
      refine V_ladd dX9_digest_175 ?_
      refine V_lstore_n [(0, .ref (ad 0)), (1, .long (((31) * r4) + (Int32.toInt64 r5))), (3, .int x3)] [1, 0, 2] dX9_digest_176 rfl (by decide) rfl ?_
      refine V_ldc2 (31) kc_X9_253 dX9_digest_177 ?_
      refine V_lload_n 1 rfl dX9_digest_180 rfl ?_
      refine V_lmul dX9_digest_181 ?_
      refine V_aload_n 0 rfl dX9_digest_182 rfl ?_
      refine V_get (k := 2) RC_X9 fl_X9_27 rfl (by decide) dX9_digest_183 0 rfl rfl ?_
      refine V_iload_n 2 rfl dX9_digest_186 rfl ?_
      obtain ⟨r6, hr6, hf⟩ := bno_some hf
      refine V_cVf (As := [.int x3]) (rest := [.long ((31) * (((31) * r4) + (Int32.toInt64 r5)))]) (k_X5_countPlays (d := 6) (Nat.le_refl _) hr6) LB_X5_countPlays lk_X9_191 (by omega) dX9_digest_187 rfl rfl (Nat.le_of_ble_eq_true rfl) (Nat.le_refl _) (Nat.le_refl _) 11 rfl ⟨rfl, rfl⟩ [.int r6, .long ((31) * (((31) * r4) + (Int32.toInt64 r5)))] rfl ?_
      refine V_i2l dX9_digest_190 ?_
      refine V_ladd dX9_digest_191 ?_
      refine V_lstore_n [(0, .ref (ad 0)), (1, .long (((31) * (((31) * r4) + (Int32.toInt64 r5))) + (Int32.toInt64 r6))), (3, .int x3)] [1, 0, 2] dX9_digest_192 rfl (by decide) rfl ?_
      refine V_iinc (1) 2 [(0, .ref (ad 0)), (1, .long (((31) * (((31) * r4) + (Int32.toInt64 r5))) + (Int32.toInt64 r6))), (3, .int (x3 + 1))] [1, 2, 0] dX9_digest_193 rfl (by decide) (by decide) rfl ?_
      refine V_goto 143 dX9_digest_196 (by decide) ?_
      exact ih _ _ _ _ hts hf
def f_X9_digest_74 (bk65 : S2 → Int64 → Int32 → Option (Int64 × S2)) : Nat → S2 → Int64 → Int32 → Int32 → Option (Int64 × S2)
  | 0, _, _, _, _ => none
  | n + 1, σ, x1, x3, x4 => if (7) ≤ x4 then (bk65 σ x1 (x3 + 1)) else (bno (f_X6_squareOf x3 x4) fun r1 => bno (f_X0_letter σ.1 r1) fun r2 => bno (f_X0_premium σ.1 r1) fun r3 => f_X9_digest_74 bk65 n σ (((31) * (((31) * x1) + (Int32.toInt64 r2))) + (Int32.toInt64 r3)) x3 (x4 + 1))
set_option maxHeartbeats 4000000 in
set_option maxRecDepth 100000 in
theorem v_X9_digest_74 {l : Launch} {G : Gv} {ad : Nat → Nat} {d : Nat} {av0 : List Value} {w1 : va_W} {q : (Int64 × S2)} {bk65 : S2 → Int64 → Int32 → Option (Int64 × S2)} (hd : 10 ≤ d) (hb65 : ∀ (σ : S2) (ts : List Tb) (x1 : Int64) (x3 : Int32), ts.map (fun q => q.2) = σ.2.2.2 → bk65 σ x1 x3 = some q → VV l G yX9_digest cX9_digest 6 (some .long) d 0 0 av0 w1 (pD (some (.long q.1)) (wA G ad q.2 ts)) 0 0 (wA G ad σ ts) 65 [(0, .ref (ad 0)), (1, .long x1), (3, .int x3)] []) : ∀ (n : Nat) (σ : S2) (ts : List Tb) (x1 : Int64) (x3 : Int32) (x4 : Int32), ts.map (fun q => q.2) = σ.2.2.2 → f_X9_digest_74 bk65 n σ x1 x3 x4 = some q → VV l G yX9_digest cX9_digest 6 (some .long) d 0 0 av0 w1 (pD (some (.long q.1)) (wA G ad q.2 ts)) 0 0 (wA G ad σ ts) 74 [(0, .ref (ad 0)), (1, .long x1), (3, .int x3), (4, .int x4)] [] := by
  intro n
  induction n with
  | zero =>
    intro σ ts x1 x3 x4 hts hf
    cases hf
  | succ n ih =>
    intro σ ts x1 x3 x4 hts hf
    rw [f_X9_digest_74] at hf
    refine V_iload 3 rfl dX9_digest_74 ?_
    refine V_bipush 7 dX9_digest_76 (by decide) ?_
    refine V_icmp_ge 135 dX9_digest_78 (by decide) (fun c1 => ?_) (fun c1 => ?_)
    · replace hf := (if_pos c1).symm.trans hf
      refine V_iinc (1) 2 [(0, .ref (ad 0)), (1, .long x1), (3, .int (x3 + 1)), (4, .int x4)] [1, 2, 0, 3] dX9_digest_135 rfl (by decide) (by decide) rfl ?_
      refine V_goto 65 dX9_digest_138 (by decide) ?_
      refine V_lv [(0, .ref (ad 0)), (1, .long x1), (3, .int (x3 + 1))] [0, 1, 2] rfl ?_
      exact hb65 _ _ _ _ hts hf
    · replace hf := (if_neg c1).symm.trans hf
      refine V_iload_n 2 rfl dX9_digest_81 rfl ?_
      refine V_iload 3 rfl dX9_digest_82 ?_
      obtain ⟨r1, hr1, hf⟩ := bno_some hf
      refine V_cS (As := [.int x3, .int x4]) (rest := []) (k_X6_squareOf (d := 0) (Nat.le_refl _) hr1) LB_X6_squareOf lk_X9_113 (by omega) dX9_digest_84 rfl rfl (Nat.le_of_ble_eq_true rfl) (Nat.le_refl _) (Nat.le_refl _) [.int r1] rfl ?_
      refine V_istore [(0, .ref (ad 0)), (1, .long x1), (3, .int x3), (4, .int x4), (5, .int r1)] [1, 2, 3, 4, 0] dX9_digest_87 (by decide) rfl ?_
      refine V_ldc2 (31) kc_X9_253 dX9_digest_89 ?_
      refine V_lload_n 1 rfl dX9_digest_92 rfl ?_
      refine V_lmul dX9_digest_93 ?_
      refine V_aload_n 0 rfl dX9_digest_94 rfl ?_
      refine V_get (k := 1) RC_X9 fl_X9_18 rfl (by decide) dX9_digest_95 0 rfl rfl ?_
      refine V_getN (k := 1) RC_X7 fl_X9_118 rfl (by decide) dX9_digest_98 1 rfl rfl ?_
      refine V_iload 4 rfl dX9_digest_101 ?_
      obtain ⟨r2, hr2, hf⟩ := bno_some hf
      refine V_cVf (As := [.int r1]) (rest := [.long ((31) * x1)]) (k_X0_letter (d := 1) (Nat.le_refl _) hr2) LB_X0_letter lk_X9_143 (by omega) dX9_digest_103 rfl rfl (Nat.le_of_ble_eq_true rfl) (Nat.le_refl _) (Nat.le_refl _) 4 rfl ⟨rfl, rfl⟩ [.int r2, .long ((31) * x1)] rfl ?_
      refine V_i2l dX9_digest_106 ?_
      refine V_ladd dX9_digest_107 ?_
      refine V_lstore_n [(0, .ref (ad 0)), (1, .long (((31) * x1) + (Int32.toInt64 r2))), (3, .int x3), (4, .int x4), (5, .int r1)] [1, 0, 2, 3, 4] dX9_digest_108 rfl (by decide) rfl ?_
      refine V_ldc2 (31) kc_X9_253 dX9_digest_109 ?_
      refine V_lload_n 1 rfl dX9_digest_112 rfl ?_
      refine V_lmul dX9_digest_113 ?_
      refine V_aload_n 0 rfl dX9_digest_114 rfl ?_
      refine V_get (k := 1) RC_X9 fl_X9_18 rfl (by decide) dX9_digest_115 0 rfl rfl ?_
      refine V_getN (k := 1) RC_X7 fl_X9_118 rfl (by decide) dX9_digest_118 1 rfl rfl ?_
      refine V_iload 4 rfl dX9_digest_121 ?_
      obtain ⟨r3, hr3, hf⟩ := bno_some hf
      refine V_cVf (As := [.int r1]) (rest := [.long ((31) * (((31) * x1) + (Int32.toInt64 r2)))]) (k_X0_premium (d := 0) (Nat.le_refl _) hr3) LB_X0_premium lk_X9_122 (by omega) dX9_digest_123 rfl rfl (Nat.le_of_ble_eq_true rfl) (Nat.le_refl _) (Nat.le_refl _) 4 rfl ⟨rfl, rfl⟩ [.int r3, .long ((31) * (((31) * x1) + (Int32.toInt64 r2)))] rfl ?_
      refine V_i2l dX9_digest_126 ?_
      refine V_ladd dX9_digest_127 ?_
      refine V_lstore_n [(0, .ref (ad 0)), (1, .long (((31) * (((31) * x1) + (Int32.toInt64 r2))) + (Int32.toInt64 r3))), (3, .int x3), (4, .int x4), (5, .int r1)] [1, 0, 2, 3, 4] dX9_digest_128 rfl (by decide) rfl ?_
      refine V_iinc (1) 3 [(0, .ref (ad 0)), (1, .long (((31) * (((31) * x1) + (Int32.toInt64 r2))) + (Int32.toInt64 r3))), (3, .int x3), (4, .int (x4 + 1)), (5, .int r1)] [1, 2, 3, 0, 4] dX9_digest_129 rfl (by decide) (by decide) rfl ?_
      refine V_goto 74 dX9_digest_132 (by decide) ?_
      refine V_lv [(0, .ref (ad 0)), (1, .long (((31) * (((31) * x1) + (Int32.toInt64 r2))) + (Int32.toInt64 r3))), (3, .int x3), (4, .int (x4 + 1))] [0, 1, 2, 3] rfl ?_
      exact ih _ _ _ _ _ hts hf
def f_X9_digest_65 : Nat → S2 → Int64 → Int32 → Option (Int64 × S2)
  | 0, _, _, _ => none
  | n + 1, σ, x1, x3 => if (7) ≤ x3 then (f_X9_digest_143 FU σ x1 (0)) else (f_X9_digest_74 (f_X9_digest_65 n) FU σ x1 x3 (0))
set_option maxHeartbeats 4000000 in
set_option maxRecDepth 100000 in
theorem v_X9_digest_65 {l : Launch} {G : Gv} {ad : Nat → Nat} {d : Nat} {av0 : List Value} {w1 : va_W} {q : (Int64 × S2)} (hd : 10 ≤ d) : ∀ (n : Nat) (σ : S2) (ts : List Tb) (x1 : Int64) (x3 : Int32), ts.map (fun q => q.2) = σ.2.2.2 → f_X9_digest_65 n σ x1 x3 = some q → VV l G yX9_digest cX9_digest 6 (some .long) d 0 0 av0 w1 (pD (some (.long q.1)) (wA G ad q.2 ts)) 0 0 (wA G ad σ ts) 65 [(0, .ref (ad 0)), (1, .long x1), (3, .int x3)] [] := by
  intro n
  induction n with
  | zero =>
    intro σ ts x1 x3 hts hf
    cases hf
  | succ n ih =>
    intro σ ts x1 x3 hts hf
    rw [f_X9_digest_65] at hf
    refine V_iload_n 2 rfl dX9_digest_65 rfl ?_
    refine V_bipush 7 dX9_digest_66 (by decide) ?_
    refine V_icmp_ge 141 dX9_digest_68 (by decide) (fun c1 => ?_) (fun c1 => ?_)
    · replace hf := (if_pos c1).symm.trans hf
      refine V_iconst 0 dX9_digest_141 (by decide) ?_
      refine V_istore_n [(0, .ref (ad 0)), (1, .long x1), (3, .int (0))] [1, 2, 0] dX9_digest_142 rfl (by decide) rfl ?_
      exact v_X9_digest_143 hd _ _ _ _ _ hts hf
    · replace hf := (if_neg c1).symm.trans hf
      refine V_iconst 0 dX9_digest_71 (by decide) ?_
      refine V_istore [(0, .ref (ad 0)), (1, .long x1), (3, .int x3), (4, .int (0))] [1, 2, 3, 0] dX9_digest_72 (by decide) rfl ?_
      exact v_X9_digest_74 hd ih _ _ _ _ _ _ hts hf
def f_X9_digest_13 : Nat → S2 → Int64 → Int32 → Option (Int64 × S2)
  | 0, _, _, _ => none
  | n + 1, σ, x1, x3 => if (8) ≤ x3 then (bno (f_X9_hashDictionary σ.1 x1) fun r1 => f_X9_digest_65 FU σ r1 (0)) else (bno (f_X7_value σ.1 x3) fun r2 => bno (f_X7_leave σ.1 x3) fun r3 => f_X9_digest_13 n σ (((31) * (((31) * x1) + (Int32.toInt64 r2))) + (Int32.toInt64 r3)) (x3 + 1))
set_option maxHeartbeats 4000000 in
set_option maxRecDepth 100000 in
theorem v_X9_digest_13 {l : Launch} {G : Gv} {ad : Nat → Nat} {d : Nat} {av0 : List Value} {w1 : va_W} {q : (Int64 × S2)} (hd : 10 ≤ d) : ∀ (n : Nat) (σ : S2) (ts : List Tb) (x1 : Int64) (x3 : Int32), ts.map (fun q => q.2) = σ.2.2.2 → f_X9_digest_13 n σ x1 x3 = some q → VV l G yX9_digest cX9_digest 6 (some .long) d 0 0 av0 w1 (pD (some (.long q.1)) (wA G ad q.2 ts)) 0 0 (wA G ad σ ts) 13 [(0, .ref (ad 0)), (1, .long x1), (3, .int x3)] [] := by
  intro n
  induction n with
  | zero =>
    intro σ ts x1 x3 hts hf
    cases hf
  | succ n ih =>
    intro σ ts x1 x3 hts hf
    rw [f_X9_digest_13] at hf
    refine V_iload_n 2 rfl dX9_digest_13 rfl ?_
    refine V_bipush 8 dX9_digest_14 (by decide) ?_
    refine V_icmp_ge 57 dX9_digest_16 (by decide) (fun c1 => ?_) (fun c1 => ?_)
    · replace hf := (if_pos c1).symm.trans hf
      refine V_aload_n 0 rfl dX9_digest_57 rfl ?_
      refine V_lload_n 1 rfl dX9_digest_58 rfl ?_
      obtain ⟨r1, hr1, hf⟩ := bno_some hf
      refine V_cVf (As := [.long x1]) (rest := []) (k_X9_hashDictionary (d := 2) (Nat.le_refl _) hr1) LB_X9_hashDictionary lk_X9_258 (by omega) dX9_digest_59 rfl rfl (Nat.le_of_ble_eq_true rfl) (Nat.le_refl _) (Nat.le_refl _) 0 rfl ⟨rfl, rfl⟩ [.long r1] rfl ?_
      refine V_lstore_n [(0, .ref (ad 0)), (1, .long r1), (3, .int x3)] [1, 0, 2] dX9_digest_62 rfl (by decide) rfl ?_
      refine V_iconst 0 dX9_digest_63 (by decide) ?_
      refine V_istore_n [(0, .ref (ad 0)), (1, .long r1), (3, .int (0))] [1, 2, 0] dX9_digest_64 rfl (by decide) rfl ?_
      exact v_X9_digest_65 hd _ _ _ _ _ hts hf
    · replace hf := (if_neg c1).symm.trans hf
      refine V_ldc2 (31) kc_X9_253 dX9_digest_19 ?_
      refine V_lload_n 1 rfl dX9_digest_22 rfl ?_
      refine V_lmul dX9_digest_23 ?_
      refine V_aload_n 0 rfl dX9_digest_24 rfl ?_
      refine V_get (k := 1) RC_X9 fl_X9_18 rfl (by decide) dX9_digest_25 0 rfl rfl ?_
      refine V_iload_n 2 rfl dX9_digest_28 rfl ?_
      obtain ⟨r2, hr2, hf⟩ := bno_some hf
      refine V_cVf (As := [.int x3]) (rest := [.long ((31) * x1)]) (k_X7_value (d := 1) (Nat.le_refl _) hr2) LB_X7_value lk_X9_100 (by omega) dX9_digest_29 rfl rfl (Nat.le_of_ble_eq_true rfl) (Nat.le_refl _) (Nat.le_refl _) 1 rfl ⟨rfl, rfl⟩ [.int r2, .long ((31) * x1)] rfl ?_
      refine V_i2l dX9_digest_32 ?_
      refine V_ladd dX9_digest_33 ?_
      refine V_lstore_n [(0, .ref (ad 0)), (1, .long (((31) * x1) + (Int32.toInt64 r2))), (3, .int x3)] [1, 0, 2] dX9_digest_34 rfl (by decide) rfl ?_
      refine V_ldc2 (31) kc_X9_253 dX9_digest_35 ?_
      refine V_lload_n 1 rfl dX9_digest_38 rfl ?_
      refine V_lmul dX9_digest_39 ?_
      refine V_aload_n 0 rfl dX9_digest_40 rfl ?_
      refine V_get (k := 1) RC_X9 fl_X9_18 rfl (by decide) dX9_digest_41 0 rfl rfl ?_
      refine V_iload_n 2 rfl dX9_digest_44 rfl ?_
      obtain ⟨r3, hr3, hf⟩ := bno_some hf
      refine V_cVf (As := [.int x3]) (rest := [.long ((31) * (((31) * x1) + (Int32.toInt64 r2)))]) (k_X7_leave (d := 1) (Nat.le_refl _) hr3) LB_X7_leave lk_X9_255 (by omega) dX9_digest_45 rfl rfl (Nat.le_of_ble_eq_true rfl) (Nat.le_refl _) (Nat.le_refl _) 1 rfl ⟨rfl, rfl⟩ [.int r3, .long ((31) * (((31) * x1) + (Int32.toInt64 r2)))] rfl ?_
      refine V_i2l dX9_digest_48 ?_
      refine V_ladd dX9_digest_49 ?_
      refine V_lstore_n [(0, .ref (ad 0)), (1, .long (((31) * (((31) * x1) + (Int32.toInt64 r2))) + (Int32.toInt64 r3))), (3, .int x3)] [1, 0, 2] dX9_digest_50 rfl (by decide) rfl ?_
      refine V_iinc (1) 2 [(0, .ref (ad 0)), (1, .long (((31) * (((31) * x1) + (Int32.toInt64 r2))) + (Int32.toInt64 r3))), (3, .int (x3 + 1))] [1, 2, 0] dX9_digest_51 rfl (by decide) (by decide) rfl ?_
      refine V_goto 13 dX9_digest_54 (by decide) ?_
      exact ih _ _ _ _ hts hf
def f_X9_digest (σ : S2) : Option (Int64 × S2) := bno (f_X9_hashWord (2803) (gi σ.1 0)) fun r1 => f_X9_digest_13 FU σ r1 (0)
set_option maxHeartbeats 4000000 in
set_option maxRecDepth 100000 in
theorem v_X9_digest {l : Launch} {G : Gv} {ad : Nat → Nat} {d : Nat} {av0 : List Value} {w1 : va_W} {q : (Int64 × S2)} {σ : S2} {ts : List Tb} (hd : 10 ≤ d) (hts : ts.map (fun q => q.2) = σ.2.2.2) (hf : f_X9_digest σ = some q) : VV l G yX9_digest cX9_digest 6 (some .long) d 0 0 av0 w1 (pD (some (.long q.1)) (wA G ad q.2 ts)) 0 0 (wA G ad σ ts) 0 [(0, .ref (ad 0))] [] := by
  unfold f_X9_digest at hf
  refine V_ldc2 (2803) kc_X9_247 dX9_digest_0 ?_
  refine V_aload_n 0 rfl dX9_digest_3 rfl ?_
  refine V_get (k := 0) RC_X9 fl_X9_9 rfl (by decide) dX9_digest_4 0 rfl rfl ?_
  obtain ⟨r1, hr1, hf⟩ := bno_some hf
  refine V_cS (As := [.long (2803), .int (gi σ.1 0)]) (rest := []) (k_X9_hashWord (d := 1) (Nat.le_refl _) hr1) LB_X9_hashWord lk_X9_249 (by omega) dX9_digest_7 rfl rfl (Nat.le_of_ble_eq_true rfl) (Nat.le_refl _) (Nat.le_refl _) [.long r1] rfl ?_
  refine V_lstore_n [(0, .ref (ad 0)), (1, .long r1)] [1, 0] dX9_digest_10 rfl (by decide) rfl ?_
  refine V_iconst 0 dX9_digest_11 (by decide) ?_
  refine V_istore_n [(0, .ref (ad 0)), (1, .long r1), (3, .int (0))] [1, 2, 0] dX9_digest_12 rfl (by decide) rfl ?_
  exact v_X9_digest_13 hd _ _ _ _ _ hts hf
theorem k_X9_digest {l : Launch} {G : Gv} {ad : Nat → Nat} {d : Nat} {σ : S2} {ts : List Tb} {q : (Int64 × S2)} (hd : 10 ≤ d) (hts : ts.map (fun q => q.2) = σ.2.2.2) (hf : f_X9_digest σ = some q) : K l G yX9_digest cX9_digest 6 (some .long) d 0 0 [.ref (ad 0)] (wA G ad σ ts) (pD (some (.long q.1)) (wA G ad q.2 ts)) := K_intro (by decide) (Nat.le_of_ble_eq_true rfl) (v_X9_digest hd hts hf)
