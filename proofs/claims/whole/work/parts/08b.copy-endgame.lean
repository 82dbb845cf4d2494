theorem lm_X0_52 : Cond.methodLink RX0 52 arraycopyName ∈ tblG := tin 498 (by decide +kernel) (by decide +kernel)
theorem lm_X1_29 : Cond.methodLink RX1 29 arraycopyName ∈ tblG := tin 491 (by decide +kernel) (by decide +kernel)
theorem lm_X7_73 : Cond.methodLink RX7 73 arraycopyName ∈ tblG := tin 499 (by decide +kernel) (by decide +kernel)
theorem fl_X2_15 : Cond.fieldLink RX2 15 RX2 "rules" "LTileWordBoard$Rules;" ∈ tblG := tin 106 (by decide +kernel) (by decide +kernel)
theorem fl_X2_70 : Cond.fieldLinkNest RX2 70 RX7 "board" "LTileWordBoard$Board;" "TileWordBoard" ∈ nestL := by decide +kernel
theorem fl_X7_12 : Cond.fieldLink RX7 12 RX7 "words" "LTileWordBoard$Dictionary;" ∈ tblG := tin 65 (by decide +kernel) (by decide +kernel)
theorem fl_X7_21 : Cond.fieldLink RX7 21 RX7 "board" "LTileWordBoard$Board;" ∈ tblG := tin 68 (by decide +kernel) (by decide +kernel)
theorem LB_X2_hasFailed : LB yX2_hasFailed cX2_hasFailed 1 (some .boolean) 0 := ⟨tin 765 (by decide +kernel) (by decide +kernel), tin 6 (by decide +kernel) (by decide +kernel), by decide, by decide, by decide, by decide +kernel⟩
theorem lk_X2_23 : Cond.methodLink RX2 23 yX2_hasFailed ∈ tblG ∧ Cond.instanceMethod yX2_hasFailed ∈ tblG ∧ Cond.selects yX2_hasFailed.cls yX2_hasFailed yX2_hasFailed ∈ tblG := ⟨tin 762 (by decide +kernel) (by decide +kernel), tin 763 (by decide +kernel) (by decide +kernel), tin 764 (by decide +kernel) (by decide +kernel)⟩
theorem LB_X2_hasEnded : LB yX2_hasEnded cX2_hasEnded 2 (some .boolean) 1 := ⟨tin 769 (by decide +kernel) (by decide +kernel), tin 6 (by decide +kernel) (by decide +kernel), by decide, by decide, by decide, by decide +kernel⟩
theorem lk_X2_27 : Cond.methodLink RX2 27 yX2_hasEnded ∈ tblG ∧ Cond.instanceMethod yX2_hasEnded ∈ tblG ∧ Cond.selects yX2_hasEnded.cls yX2_hasEnded yX2_hasEnded ∈ tblG := ⟨tin 766 (by decide +kernel) (by decide +kernel), tin 768 (by decide +kernel) (by decide +kernel), tsel (q := (yX2_hasEnded, 3)) (List.mem_of_getElem? (i := 15) (by decide +kernel))⟩
theorem LB_X2_finalDifference : LB yX2_finalDifference cX2_finalDifference 4 (some .int) 1 := ⟨tin 778 (by decide +kernel) (by decide +kernel), tin 6 (by decide +kernel) (by decide +kernel), by decide, by decide, by decide, by decide +kernel⟩
theorem lk_X2_31 : Cond.methodLink RX2 31 yX2_finalDifference ∈ tblG ∧ Cond.instanceMethod yX2_finalDifference ∈ tblG ∧ Cond.selects yX2_finalDifference.cls yX2_finalDifference yX2_finalDifference ∈ tblG := ⟨tin 775 (by decide +kernel) (by decide +kernel), tin 777 (by decide +kernel) (by decide +kernel), tsel (q := (yX2_finalDifference, 3)) (List.mem_of_getElem? (i := 17) (by decide +kernel))⟩
theorem LB_X2_afterPass : LB yX2_afterPass cX2_afterPass 4 (some .int) 3 := ⟨tin 787 (by decide +kernel) (by decide +kernel), tin 6 (by decide +kernel) (by decide +kernel), by decide, by decide, by decide, by decide +kernel⟩
theorem lk_X2_35 : Cond.methodLink RX2 35 yX2_afterPass ∈ tblG ∧ Cond.instanceMethod yX2_afterPass ∈ tblG ∧ Cond.selects yX2_afterPass.cls yX2_afterPass yX2_afterPass ∈ tblG := ⟨tin 784 (by decide +kernel) (by decide +kernel), tin 786 (by decide +kernel) (by decide +kernel), tsel (q := (yX2_afterPass, 3)) (List.mem_of_getElem? (i := 18) (by decide +kernel))⟩
theorem lk_X2_39 : Cond.methodLink RX2 39 yX5_nextPlay ∈ tblG ∧ Cond.instanceMethod yX5_nextPlay ∈ tblG ∧ Cond.selects yX5_nextPlay.cls yX5_nextPlay yX5_nextPlay ∈ tblG := ⟨tin 789 (by decide +kernel) (by decide +kernel), tin 257 (by decide +kernel) (by decide +kernel), tin 258 (by decide +kernel) (by decide +kernel)⟩
theorem LB_X2_afterPlay : LB yX2_afterPlay cX2_afterPlay 9 (some .int) 3 := ⟨tin 793 (by decide +kernel) (by decide +kernel), tin 6 (by decide +kernel) (by decide +kernel), by decide, by decide, by decide, by decide +kernel⟩
theorem lk_X2_47 : Cond.methodLink RX2 47 yX2_afterPlay ∈ tblG ∧ Cond.instanceMethod yX2_afterPlay ∈ tblG ∧ Cond.selects yX2_afterPlay.cls yX2_afterPlay yX2_afterPlay ∈ tblG := ⟨tin 790 (by decide +kernel) (by decide +kernel), tin 792 (by decide +kernel) (by decide +kernel), tsel (q := (yX2_afterPlay, 3)) (List.mem_of_getElem? (i := 19) (by decide +kernel))⟩
theorem LB_X2_bestDifference : LB yX2_bestDifference cX2_bestDifference 7 (some .int) 3 := ⟨tin 761 (by decide +kernel) (by decide +kernel), tin 6 (by decide +kernel) (by decide +kernel), by decide, by decide, by decide, by decide +kernel⟩
theorem lk_X2_55 : Cond.methodLink RX2 55 yX2_bestDifference ∈ tblG ∧ Cond.instanceMethod yX2_bestDifference ∈ tblG ∧ Cond.selects yX2_bestDifference.cls yX2_bestDifference yX2_bestDifference ∈ tblG := ⟨tin 788 (by decide +kernel) (by decide +kernel), tin 760 (by decide +kernel) (by decide +kernel), tsel (q := (yX2_bestDifference, 3)) (List.mem_of_getElem? (i := 14) (by decide +kernel))⟩
theorem lk_X2_58 : Cond.methodLink RX2 58 yX5_pointsOf ∈ tblG ∧ Cond.instanceMethod yX5_pointsOf ∈ tblG ∧ Cond.selects yX5_pointsOf.cls yX5_pointsOf yX5_pointsOf ∈ tblG := ⟨tin 794 (by decide +kernel) (by decide +kernel), tin 657 (by decide +kernel) (by decide +kernel), tin 658 (by decide +kernel) (by decide +kernel)⟩
theorem LB_X5_lay : LB yX5_lay cX5_lay 10 (some .long) 2 := ⟨tin 683 (by decide +kernel) (by decide +kernel), tin 5 (by decide +kernel) (by decide +kernel), by decide, by decide, by decide, by decide +kernel⟩
theorem lk_X2_66 : Cond.methodLink RX2 66 yX5_lay ∈ tblG ∧ Cond.instanceMethod yX5_lay ∈ tblG ∧ Cond.selects yX5_lay.cls yX5_lay yX5_lay ∈ tblG := ⟨tin 795 (by decide +kernel) (by decide +kernel), tin 681 (by decide +kernel) (by decide +kernel), tin 682 (by decide +kernel) (by decide +kernel)⟩
theorem lk_X2_74 : Cond.methodLink RX2 74 yX0_takeAway ∈ tblG ∧ Cond.instanceMethod yX0_takeAway ∈ tblG ∧ Cond.selects yX0_takeAway.cls yX0_takeAway yX0_takeAway ∈ tblG := ⟨tin 796 (by decide +kernel) (by decide +kernel), tin 585 (by decide +kernel) (by decide +kernel), tin 586 (by decide +kernel) (by decide +kernel)⟩
theorem lk_X2_80 : Cond.methodLink RX2 80 yX7_changeRack ∈ tblG ∧ Cond.instanceMethod yX7_changeRack ∈ tblG ∧ Cond.selects yX7_changeRack.cls yX7_changeRack yX7_changeRack ∈ tblG := ⟨tin 797 (by decide +kernel) (by decide +kernel), tin 570 (by decide +kernel) (by decide +kernel), tin 571 (by decide +kernel) (by decide +kernel)⟩
theorem LB_X1_copyFrom : LB yX1_copyFrom cX1_copyFrom 2 none 1 := ⟨tin 490 (by decide +kernel) (by decide +kernel), tin 3 (by decide +kernel) (by decide +kernel), by decide, by decide, by decide, by decide +kernel⟩
theorem lk_X7_66 : Cond.methodLink RX7 66 yX1_copyFrom ∈ tblG ∧ Cond.instanceMethod yX1_copyFrom ∈ tblG ∧ Cond.selects yX1_copyFrom.cls yX1_copyFrom yX1_copyFrom ∈ tblG := ⟨tin 487 (by decide +kernel) (by decide +kernel), tin 488 (by decide +kernel) (by decide +kernel), tin 489 (by decide +kernel) (by decide +kernel)⟩
theorem LB_X0_copyFrom : LB yX0_copyFrom cX0_copyFrom 2 none 1 := ⟨tin 497 (by decide +kernel) (by decide +kernel), tin 4 (by decide +kernel) (by decide +kernel), by decide, by decide, by decide, by decide +kernel⟩
theorem lk_X7_70 : Cond.methodLink RX7 70 yX0_copyFrom ∈ tblG ∧ Cond.instanceMethod yX0_copyFrom ∈ tblG ∧ Cond.selects yX0_copyFrom.cls yX0_copyFrom yX0_copyFrom ∈ tblG := ⟨tin 494 (by decide +kernel) (by decide +kernel), tin 495 (by decide +kernel) (by decide +kernel), tin 496 (by decide +kernel) (by decide +kernel)⟩
theorem lm_X2_50 : Cond.methodLink RX2 50 Lib.Math.max.name ∈ tblG := tin 798 (by decide +kernel) (by decide +kernel)
def f_X1_copyFrom (σ τ : St) : Option St := lt (sa σ 0 (ga τ 0)) fun σ1 => lt (si σ1 1 (gi τ 1)) fun σ2 => some σ2
set_option maxHeartbeats 4000000 in
set_option maxRecDepth 100000 in
theorem v_X1_copyFrom {l : Launch} {G : Gv} {a b : Nat → Nat} {τ : St} {d : Nat} {av0 : List Value} {w1 : va_W} {q : St} {σ : St} (hd : 1 ≤ d) (hf : f_X1_copyFrom σ τ = some q) : VV l G yX1_copyFrom cX1_copyFrom 2 none d 0 0 av0 w1 (pD none (wT G a q ++ wT G b τ)) 0 0 (wT G a σ ++ wT G b τ) 0 [(0, .ref (a 2)), (1, .ref (b 2))] [] := by
  unfold f_X1_copyFrom at hf
  refine V_aload_n 1 rfl dX1_copyFrom_0 rfl ?_
  refine V_get (k := 0) RC_X1 fl_X1_11 rfl (by decide) dX1_copyFrom_1 11 rfl rfl ?_
  refine V_iconst 0 dX1_copyFrom_4 (by decide) ?_
  refine V_aload_n 0 rfl dX1_copyFrom_5 rfl ?_
  refine V_get (k := 0) RC_X1 fl_X1_11 rfl (by decide) dX1_copyFrom_6 1 rfl rfl ?_
  refine V_iconst 0 dX1_copyFrom_9 (by decide) ?_
  refine V_bipush 30 dX1_copyFrom_10 (by decide) ?_
  obtain ⟨σ1, eσ1, hf⟩ := lt_some hf
  refine V_copyAll lm_X1_29 dX1_copyFrom_12 12 rfl 2 rfl (by decide) (by decide) (by omega) (Nat.le_of_ble_eq_true rfl) (wT G a σ1 ++ wT G b τ) (by rw [eσ1]; rfl) ?_
  refine V_aload_n 0 rfl dX1_copyFrom_15 rfl ?_
  refine V_aload_n 1 rfl dX1_copyFrom_16 rfl ?_
  refine V_get (k := 1) RC_X1 fl_X1_15 rfl (by decide) dX1_copyFrom_17 11 rfl rfl ?_
  obtain ⟨σ2, eσ2, hf⟩ := lt_some hf
  refine V_put (k := 1) RC_X1 fl_X1_15 rfl (by decide) rfl dX1_copyFrom_20 1 rfl (Nat.le_of_ble_eq_true rfl) rfl rfl (wT G a σ2 ++ wT G b τ) (by rw [eσ2]; rfl) ?_
  cases hf
  exact V_vret rfl dX1_copyFrom_23 ⟨rfl, rfl⟩
theorem k_X1_copyFrom {l : Launch} {G : Gv} {a b : Nat → Nat} {τ : St} {d : Nat} {σ : St} {q : St} (hd : 1 ≤ d) (hf : f_X1_copyFrom σ τ = some q) : K l G yX1_copyFrom cX1_copyFrom 2 none d 0 0 [.ref (a 2), .ref (b 2)] (wT G a σ ++ wT G b τ) (pD none (wT G a q ++ wT G b τ)) := K_intro (by decide) (Nat.le_of_ble_eq_true rfl) (v_X1_copyFrom hd hf)
def f_X0_copyFrom (σ τ : St) : Option St := lt (sa σ 1 (ga τ 1)) fun σ1 => lt (sa σ1 2 (ga τ 2)) fun σ2 => lt (sl σ2 0 (gl τ 0)) fun σ3 => some σ3
set_option maxHeartbeats 4000000 in
set_option maxRecDepth 100000 in
theorem v_X0_copyFrom {l : Launch} {G : Gv} {a b : Nat → Nat} {τ : St} {d : Nat} {av0 : List Value} {w1 : va_W} {q : St} {σ : St} (hd : 1 ≤ d) (hf : f_X0_copyFrom σ τ = some q) : VV l G yX0_copyFrom cX0_copyFrom 2 none d 0 0 av0 w1 (pD none (wT G a q ++ wT G b τ)) 0 0 (wT G a σ ++ wT G b τ) 0 [(0, .ref (a 4)), (1, .ref (b 4))] [] := by
  unfold f_X0_copyFrom at hf
  refine V_aload_n 1 rfl dX0_copyFrom_0 rfl ?_
  refine V_get (k := 0) RC_X0 fl_X0_11 rfl (by decide) dX0_copyFrom_1 13 rfl rfl ?_
  refine V_iconst 0 dX0_copyFrom_4 (by decide) ?_
  refine V_aload_n 0 rfl dX0_copyFrom_5 rfl ?_
  refine V_get (k := 0) RC_X0 fl_X0_11 rfl (by decide) dX0_copyFrom_6 3 rfl rfl ?_
  refine V_iconst 0 dX0_copyFrom_9 (by decide) ?_
  refine V_bipush 64 dX0_copyFrom_10 (by decide) ?_
  obtain ⟨σ1, eσ1, hf⟩ := lt_some hf
  refine V_copyAll lm_X0_52 dX0_copyFrom_12 14 rfl 4 rfl (by decide) (by decide) (by omega) (Nat.le_of_ble_eq_true rfl) (wT G a σ1 ++ wT G b τ) (by rw [eσ1]; rfl) ?_
  refine V_aload_n 1 rfl dX0_copyFrom_15 rfl ?_
  refine V_get (k := 1) RC_X0 fl_X0_17 rfl (by decide) dX0_copyFrom_16 13 rfl rfl ?_
  refine V_iconst 0 dX0_copyFrom_19 (by decide) ?_
  refine V_aload_n 0 rfl dX0_copyFrom_20 rfl ?_
  refine V_get (k := 1) RC_X0 fl_X0_17 rfl (by decide) dX0_copyFrom_21 3 rfl rfl ?_
  refine V_iconst 0 dX0_copyFrom_24 (by decide) ?_
  refine V_bipush 64 dX0_copyFrom_25 (by decide) ?_
  obtain ⟨σ2, eσ2, hf⟩ := lt_some hf
  refine V_copyAll lm_X0_52 dX0_copyFrom_27 15 rfl 5 rfl (by decide) (by decide) (by omega) (Nat.le_of_ble_eq_true rfl) (wT G a σ2 ++ wT G b τ) (by rw [eσ2]; rfl) ?_
  refine V_aload_n 0 rfl dX0_copyFrom_30 rfl ?_
  refine V_aload_n 1 rfl dX0_copyFrom_31 rfl ?_
  refine V_get (k := 2) RC_X0 fl_X0_20 rfl (by decide) dX0_copyFrom_32 13 rfl rfl ?_
  obtain ⟨σ3, eσ3, hf⟩ := lt_some hf
  refine V_put (k := 2) RC_X0 fl_X0_20 rfl (by decide) rfl dX0_copyFrom_35 3 rfl (Nat.le_of_ble_eq_true rfl) rfl rfl (wT G a σ3 ++ wT G b τ) (by rw [eσ3]; rfl) ?_
  cases hf
  exact V_vret rfl dX0_copyFrom_38 ⟨rfl, rfl⟩
theorem k_X0_copyFrom {l : Launch} {G : Gv} {a b : Nat → Nat} {τ : St} {d : Nat} {σ : St} {q : St} (hd : 1 ≤ d) (hf : f_X0_copyFrom σ τ = some q) : K l G yX0_copyFrom cX0_copyFrom 2 none d 0 0 [.ref (a 4), .ref (b 4)] (wT G a σ ++ wT G b τ) (pD none (wT G a q ++ wT G b τ)) := K_intro (by decide) (Nat.le_of_ble_eq_true rfl) (v_X0_copyFrom hd hf)
def f_X7_copyFrom (σ τ : St) : Option St := bno (f_X1_copyFrom σ τ) fun r1 => bno (f_X0_copyFrom r1 τ) fun r2 => lt (sa r2 3 (ga τ 3)) fun σ1 => lt (sa σ1 4 (ga τ 4)) fun σ2 => lt (sa σ2 5 (ga τ 5)) fun σ3 => lt (sa σ3 6 (ga τ 6)) fun σ4 => some σ4
set_option maxHeartbeats 4000000 in
set_option maxRecDepth 100000 in
theorem v_X7_copyFrom {l : Launch} {G : Gv} {a b : Nat → Nat} {τ : St} {d : Nat} {av0 : List Value} {w1 : va_W} {q : St} {σ : St} (hd : 2 ≤ d) (hf : f_X7_copyFrom σ τ = some q) : VV l G yX7_copyFrom cX7_copyFrom 2 none d 0 0 av0 w1 (pD none (wT G a q ++ wT G b τ)) 0 0 (wT G a σ ++ wT G b τ) 0 [(0, .ref (a 1)), (1, .ref (b 1))] [] := by
  unfold f_X7_copyFrom at hf
  refine V_aload_n 0 rfl dX7_copyFrom_0 rfl ?_
  refine V_get (k := 0) RC_X7 fl_X7_12 rfl (by decide) dX7_copyFrom_1 0 rfl rfl ?_
  refine V_aload_n 1 rfl dX7_copyFrom_4 rfl ?_
  refine V_get (k := 0) RC_X7 fl_X7_12 rfl (by decide) dX7_copyFrom_5 10 rfl rfl ?_
  obtain ⟨r1, hr1, hf⟩ := bno_some hf
  refine V_cV (As := [.ref (b 2)]) (rest := []) (k_X1_copyFrom (d := 1) (Nat.le_refl _) hr1) LB_X1_copyFrom lk_X7_66 (by omega) dX7_copyFrom_8 rfl rfl (Nat.le_of_ble_eq_true rfl) (Nat.le_refl _) (Nat.le_refl _) 1 rfl ⟨rfl, rfl⟩ [] rfl ?_
  refine V_aload_n 0 rfl dX7_copyFrom_11 rfl ?_
  refine V_get (k := 1) RC_X7 fl_X7_21 rfl (by decide) dX7_copyFrom_12 0 rfl rfl ?_
  refine V_aload_n 1 rfl dX7_copyFrom_15 rfl ?_
  refine V_get (k := 1) RC_X7 fl_X7_21 rfl (by decide) dX7_copyFrom_16 10 rfl rfl ?_
  obtain ⟨r2, hr2, hf⟩ := bno_some hf
  refine V_cV (As := [.ref (b 4)]) (rest := []) (k_X0_copyFrom (d := 1) (Nat.le_refl _) hr2) LB_X0_copyFrom lk_X7_70 (by omega) dX7_copyFrom_19 rfl rfl (Nat.le_of_ble_eq_true rfl) (Nat.le_refl _) (Nat.le_refl _) 3 rfl ⟨rfl, rfl⟩ [] rfl ?_
  refine V_aload_n 1 rfl dX7_copyFrom_22 rfl ?_
  refine V_get (k := 2) RC_X7 fl_X7_25 rfl (by decide) dX7_copyFrom_23 10 rfl rfl ?_
  refine V_iconst 0 dX7_copyFrom_26 (by decide) ?_
  refine V_aload_n 0 rfl dX7_copyFrom_27 rfl ?_
  refine V_get (k := 2) RC_X7 fl_X7_25 rfl (by decide) dX7_copyFrom_28 0 rfl rfl ?_
  refine V_iconst 0 dX7_copyFrom_31 (by decide) ?_
  refine V_bipush 8 dX7_copyFrom_32 (by decide) ?_
  obtain ⟨σ1, eσ1, hf⟩ := lt_some hf
  refine V_copyAll lm_X7_73 dX7_copyFrom_34 16 rfl 6 rfl (by decide) (by decide) (by omega) (Nat.le_of_ble_eq_true rfl) (wT G a σ1 ++ wT G b τ) (by rw [eσ1]; rfl) ?_
  refine V_aload_n 1 rfl dX7_copyFrom_37 rfl ?_
  refine V_get (k := 3) RC_X7 fl_X7_29 rfl (by decide) dX7_copyFrom_38 10 rfl rfl ?_
  refine V_iconst 0 dX7_copyFrom_41 (by decide) ?_
  refine V_aload_n 0 rfl dX7_copyFrom_42 rfl ?_
  refine V_get (k := 3) RC_X7 fl_X7_29 rfl (by decide) dX7_copyFrom_43 0 rfl rfl ?_
  refine V_iconst 0 dX7_copyFrom_46 (by decide) ?_
  refine V_bipush 8 dX7_copyFrom_47 (by decide) ?_
  obtain ⟨σ2, eσ2, hf⟩ := lt_some hf
  refine V_copyAll lm_X7_73 dX7_copyFrom_49 17 rfl 7 rfl (by decide) (by decide) (by omega) (Nat.le_of_ble_eq_true rfl) (wT G a σ2 ++ wT G b τ) (by rw [eσ2]; rfl) ?_
  refine V_aload_n 1 rfl dX7_copyFrom_52 rfl ?_
  refine V_get (k := 4) RC_X7 fl_X7_32 rfl (by decide) dX7_copyFrom_53 10 rfl rfl ?_
  refine V_iconst 0 dX7_copyFrom_56 (by decide) ?_
  refine V_aload_n 0 rfl dX7_copyFrom_57 rfl ?_
  refine V_get (k := 4) RC_X7 fl_X7_32 rfl (by decide) dX7_copyFrom_58 0 rfl rfl ?_
  refine V_iconst 0 dX7_copyFrom_61 (by decide) ?_
  refine V_iconst 2 dX7_copyFrom_62 (by decide) ?_
  obtain ⟨σ3, eσ3, hf⟩ := lt_some hf
  refine V_copyAll lm_X7_73 dX7_copyFrom_63 18 rfl 8 rfl (by decide) (by decide) (by omega) (Nat.le_of_ble_eq_true rfl) (wT G a σ3 ++ wT G b τ) (by rw [eσ3]; rfl) ?_
  refine V_aload_n 1 rfl dX7_copyFrom_66 rfl ?_
  refine V_get (k := 5) RC_X7 fl_X7_35 rfl (by decide) dX7_copyFrom_67 10 rfl rfl ?_
  refine V_iconst 0 dX7_copyFrom_70 (by decide) ?_
  refine V_aload_n 0 rfl dX7_copyFrom_71 rfl ?_
  refine V_get (k := 5) RC_X7 fl_X7_35 rfl (by decide) dX7_copyFrom_72 0 rfl rfl ?_
  refine V_iconst 0 dX7_copyFrom_75 (by decide) ?_
  refine V_iconst 2 dX7_copyFrom_76 (by decide) ?_
  obtain ⟨σ4, eσ4, hf⟩ := lt_some hf
  refine V_copyAll lm_X7_73 dX7_copyFrom_77 19 rfl 9 rfl (by decide) (by decide) (by omega) (Nat.le_of_ble_eq_true rfl) (wT G a σ4 ++ wT G b τ) (by rw [eσ4]; rfl) ?_
  cases hf
  exact V_vret rfl dX7_copyFrom_80 ⟨rfl, rfl⟩
theorem k_X7_copyFrom {l : Launch} {G : Gv} {a b : Nat → Nat} {τ : St} {d : Nat} {σ : St} {q : St} (hd : 2 ≤ d) (hf : f_X7_copyFrom σ τ = some q) : K l G yX7_copyFrom cX7_copyFrom 2 none d 0 0 [.ref (a 1), .ref (b 1)] (wT G a σ ++ wT G b τ) (pD none (wT G a q ++ wT G b τ)) := K_intro (by decide) (Nat.le_of_ble_eq_true rfl) (v_X7_copyFrom hd hf)
def f_X2_afterPass (bd : St → Int32 → Int32 → Int32 → Option (Int32 × St)) (σ : St) (x1 : Int32) (x2 : Int32) (x3 : Int32) : Option (Int32 × St) := bno (bd σ ((1) - x1) (x2 + (1)) (x3 + (1))) fun r1 => some ((-r1.1), r1.2)
set_option maxHeartbeats 4000000 in
set_option maxRecDepth 100000 in
theorem v_X2_afterPass {l : Launch} {G : Gv} {ad : Nat → Nat} {d : Nat} {av0 : List Value} {w1 : va_W} {bd : St → Int32 → Int32 → Int32 → Option (Int32 × St)} {e : Nat} (hbd : ∀ (σ : St) (x1 x2 x3 : Int32) (q : Int32 × St), bd σ x1 x2 x3 = some q → K l G yX2_bestDifference cX2_bestDifference 7 (some .int) e 0 0 [.ref (ad 12), .int x1, .int x2, .int x3] (wC G ad σ) (pD (some (.int q.1)) (wC G ad q.2))) {q : (Int32 × St)} {σ : St} {x1 : Int32} {x2 : Int32} {x3 : Int32} (hd : e + 12 ≤ d) (hf : f_X2_afterPass bd σ x1 x2 x3 = some q) : VV l G yX2_afterPass cX2_afterPass 4 (some .int) d 0 0 av0 w1 (pD (some (.int q.1)) (wC G ad q.2)) 0 0 (wC G ad σ) 0 [(0, .ref (ad 12)), (1, .int x1), (2, .int x2), (3, .int x3)] [] := by
  unfold f_X2_afterPass at hf
  refine V_aload_n 0 rfl dX2_afterPass_0 rfl ?_
  refine V_iconst 1 dX2_afterPass_1 (by decide) ?_
  refine V_iload_n 1 rfl dX2_afterPass_2 rfl ?_
  refine V_isub dX2_afterPass_3 ?_
  refine V_iload_n 2 rfl dX2_afterPass_4 rfl ?_
  refine V_iconst 1 dX2_afterPass_5 (by decide) ?_
  refine V_iadd dX2_afterPass_6 ?_
  refine V_iload_n 3 rfl dX2_afterPass_7 rfl ?_
  refine V_iconst 1 dX2_afterPass_8 (by decide) ?_
  refine V_iadd dX2_afterPass_9 ?_
  obtain ⟨r1, hr1, hf⟩ := bno_some hf
  refine V_cV (As := [.int ((1) - x1), .int (x2 + (1)), .int (x3 + (1))]) (rest := []) (hbd _ _ _ _ _ hr1) LB_X2_bestDifference lk_X2_55 (by omega) dX2_afterPass_10 rfl rfl (Nat.le_of_ble_eq_true rfl) (Nat.le_refl _) (Nat.le_refl _) 12 rfl ⟨rfl, rfl⟩ [.int r1.1] rfl ?_
  refine V_ineg dX2_afterPass_13 ?_
  cases hf
  exact V_iret rfl dX2_afterPass_14 ⟨rfl, rfl⟩
theorem k_X2_afterPass {l : Launch} {G : Gv} {ad : Nat → Nat} {d : Nat} {σ : St} {bd : St → Int32 → Int32 → Int32 → Option (Int32 × St)} {e : Nat} (hbd : ∀ (σ : St) (x1 x2 x3 : Int32) (q : Int32 × St), bd σ x1 x2 x3 = some q → K l G yX2_bestDifference cX2_bestDifference 7 (some .int) e 0 0 [.ref (ad 12), .int x1, .int x2, .int x3] (wC G ad σ) (pD (some (.int q.1)) (wC G ad q.2))) {q : (Int32 × St)} {x1 : Int32} {x2 : Int32} {x3 : Int32} (hd : e + 12 ≤ d) (hf : f_X2_afterPass bd σ x1 x2 x3 = some q) : K l G yX2_afterPass cX2_afterPass 4 (some .int) d 0 0 [.ref (ad 12), .int x1, .int x2, .int x3] (wC G ad σ) (pD (some (.int q.1)) (wC G ad q.2)) := K_intro (by decide) (Nat.le_of_ble_eq_true rfl) (v_X2_afterPass hbd hd hf)
def f_X2_afterPlay (bd : St → Int32 → Int32 → Int32 → Option (Int32 × St)) (σ : St) (x1 : Int32) (x2 : Int32) (x3 : Int32) : Option (Int32 × St) := bno (f_X5_pointsOf σ x2) fun r1 => bno (f_X7_rack σ x1) fun r2 => bno (f_X5_lay σ x1 x2) fun r3 => bno (bd r3.2 ((1) - x1) (0) (x3 + (1))) fun r4 => bno (f_X0_takeAway r4.2 r3.1) fun r5 => bno (f_X7_changeRack r5 x1 r2) fun r6 => some ((r1 - r4.1), r6)
set_option maxHeartbeats 4000000 in
set_option maxRecDepth 100000 in
theorem v_X2_afterPlay {l : Launch} {G : Gv} {ad : Nat → Nat} {d : Nat} {av0 : List Value} {w1 : va_W} {bd : St → Int32 → Int32 → Int32 → Option (Int32 × St)} {e : Nat} (hbd : ∀ (σ : St) (x1 x2 x3 : Int32) (q : Int32 × St), bd σ x1 x2 x3 = some q → K l G yX2_bestDifference cX2_bestDifference 7 (some .int) e 0 0 [.ref (ad 12), .int x1, .int x2, .int x3] (wC G ad σ) (pD (some (.int q.1)) (wC G ad q.2))) {q : (Int32 × St)} {σ : St} {x1 : Int32} {x2 : Int32} {x3 : Int32} (hd : e + 12 ≤ d) (hf : f_X2_afterPlay bd σ x1 x2 x3 = some q) : VV l G yX2_afterPlay cX2_afterPlay 9 (some .int) d 0 0 av0 w1 (pD (some (.int q.1)) (wC G ad q.2)) 0 0 (wC G ad σ) 0 [(0, .ref (ad 12)), (1, .int x1), (2, .int x2), (3, .int x3)] [] := by
  unfold f_X2_afterPlay at hf
  refine V_aload_n 0 rfl dX2_afterPlay_0 rfl ?_
  refine V_get (k := 1) RC_X2 fl_X2_15 rfl (by decide) dX2_afterPlay_1 12 rfl rfl ?_
  refine V_iload_n 2 rfl dX2_afterPlay_4 rfl ?_
  obtain ⟨r1, hr1, hf⟩ := bno_some hf
  refine V_cV (As := [.int x2]) (rest := []) (k_X5_pointsOf (d := 4) (Nat.le_refl _) hr1) LB_X5_pointsOf lk_X2_58 (by omega) dX2_afterPlay_5 rfl rfl (Nat.le_of_ble_eq_true rfl) (Nat.le_refl _) (Nat.le_refl _) 11 rfl ⟨rfl, rfl⟩ [.int r1] rfl ?_
  refine V_istore [(0, .ref (ad 12)), (1, .int x1), (2, .int x2), (3, .int x3), (4, .int r1)] [1, 2, 3, 4, 0] dX2_afterPlay_8 (by decide) rfl ?_
  refine V_aload_n 0 rfl dX2_afterPlay_10 rfl ?_
  refine V_get (k := 0) RC_X2 fl_X2_9 rfl (by decide) dX2_afterPlay_11 12 rfl rfl ?_
  refine V_iload_n 1 rfl dX2_afterPlay_14 rfl ?_
  obtain ⟨r2, hr2, hf⟩ := bno_some hf
  refine V_cV (As := [.int x1]) (rest := []) (k_X7_rack (d := 1) (Nat.le_refl _) hr2) LB_X7_rack lk_X2_61 (by omega) dX2_afterPlay_15 rfl rfl (Nat.le_of_ble_eq_true rfl) (Nat.le_refl _) (Nat.le_refl _) 1 rfl ⟨rfl, rfl⟩ [.int r2] rfl ?_
  refine V_istore [(0, .ref (ad 12)), (1, .int x1), (2, .int x2), (3, .int x3), (4, .int r1), (5, .int r2)] [1, 2, 3, 4, 5, 0] dX2_afterPlay_18 (by decide) rfl ?_
  refine V_aload_n 0 rfl dX2_afterPlay_20 rfl ?_
  refine V_get (k := 1) RC_X2 fl_X2_15 rfl (by decide) dX2_afterPlay_21 12 rfl rfl ?_
  refine V_iload_n 1 rfl dX2_afterPlay_24 rfl ?_
  refine V_iload_n 2 rfl dX2_afterPlay_25 rfl ?_
  obtain ⟨r3, hr3, hf⟩ := bno_some hf
  refine V_cV (As := [.int x1, .int x2]) (rest := []) (k_X5_lay (d := 3) (Nat.le_refl _) hr3) LB_X5_lay lk_X2_66 (by omega) dX2_afterPlay_26 rfl rfl (Nat.le_of_ble_eq_true rfl) (Nat.le_refl _) (Nat.le_refl _) 11 rfl ⟨rfl, rfl⟩ [.long r3.1] rfl ?_
  refine V_lstore [(0, .ref (ad 12)), (1, .int x1), (2, .int x2), (3, .int x3), (4, .int r1), (5, .int r2), (6, .long r3.1)] [1, 2, 3, 4, 5, 6, 0] dX2_afterPlay_29 (by decide) rfl ?_
  refine V_iload 4 rfl dX2_afterPlay_31 ?_
  refine V_aload_n 0 rfl dX2_afterPlay_33 rfl ?_
  refine V_iconst 1 dX2_afterPlay_34 (by decide) ?_
  refine V_iload_n 1 rfl dX2_afterPlay_35 rfl ?_
  refine V_isub dX2_afterPlay_36 ?_
  refine V_iconst 0 dX2_afterPlay_37 (by decide) ?_
  refine V_iload_n 3 rfl dX2_afterPlay_38 rfl ?_
  refine V_iconst 1 dX2_afterPlay_39 (by decide) ?_
  refine V_iadd dX2_afterPlay_40 ?_
  obtain ⟨r4, hr4, hf⟩ := bno_some hf
  refine V_cV (As := [.int ((1) - x1), .int (0), .int (x3 + (1))]) (rest := [.int r1]) (hbd _ _ _ _ _ hr4) LB_X2_bestDifference lk_X2_55 (by omega) dX2_afterPlay_41 rfl rfl (Nat.le_of_ble_eq_true rfl) (Nat.le_refl _) (Nat.le_refl _) 12 rfl ⟨rfl, rfl⟩ [.int r4.1, .int r1] rfl ?_
  refine V_isub dX2_afterPlay_44 ?_
  refine V_istore [(0, .ref (ad 12)), (1, .int x1), (2, .int x2), (3, .int x3), (4, .int r1), (5, .int r2), (6, .long r3.1), (8, .int (r1 - r4.1))] [1, 2, 3, 4, 5, 6, 7, 0] dX2_afterPlay_45 (by decide) rfl ?_
  refine V_aload_n 0 rfl dX2_afterPlay_47 rfl ?_
  refine V_get (k := 0) RC_X2 fl_X2_9 rfl (by decide) dX2_afterPlay_48 12 rfl rfl ?_
  refine V_getN (k := 1) RC_X7 fl_X2_70 rfl (by decide) dX2_afterPlay_51 1 rfl rfl ?_
  refine V_lload 6 rfl dX2_afterPlay_54 ?_
  obtain ⟨r5, hr5, hf⟩ := bno_some hf
  refine V_cV (As := [.long r3.1]) (rest := []) (k_X0_takeAway (d := 0) (Nat.le_refl _) hr5) LB_X0_takeAway lk_X2_74 (by omega) dX2_afterPlay_56 rfl rfl (Nat.le_of_ble_eq_true rfl) (Nat.le_refl _) (Nat.le_refl _) 4 rfl ⟨rfl, rfl⟩ [] rfl ?_
  refine V_aload_n 0 rfl dX2_afterPlay_59 rfl ?_
  refine V_get (k := 0) RC_X2 fl_X2_9 rfl (by decide) dX2_afterPlay_60 12 rfl rfl ?_
  refine V_iload_n 1 rfl dX2_afterPlay_63 rfl ?_
  refine V_iload 5 rfl dX2_afterPlay_64 ?_
  obtain ⟨r6, hr6, hf⟩ := bno_some hf
  refine V_cV (As := [.int x1, .int r2]) (rest := []) (k_X7_changeRack (d := 1) (Nat.le_refl _) hr6) LB_X7_changeRack lk_X2_80 (by omega) dX2_afterPlay_66 rfl rfl (Nat.le_of_ble_eq_true rfl) (Nat.le_refl _) (Nat.le_refl _) 1 rfl ⟨rfl, rfl⟩ [] rfl ?_
  refine V_iload 7 rfl dX2_afterPlay_69 ?_
  cases hf
  exact V_iret rfl dX2_afterPlay_71 ⟨rfl, rfl⟩
theorem k_X2_afterPlay {l : Launch} {G : Gv} {ad : Nat → Nat} {d : Nat} {σ : St} {bd : St → Int32 → Int32 → Int32 → Option (Int32 × St)} {e : Nat} (hbd : ∀ (σ : St) (x1 x2 x3 : Int32) (q : Int32 × St), bd σ x1 x2 x3 = some q → K l G yX2_bestDifference cX2_bestDifference 7 (some .int) e 0 0 [.ref (ad 12), .int x1, .int x2, .int x3] (wC G ad σ) (pD (some (.int q.1)) (wC G ad q.2))) {q : (Int32 × St)} {x1 : Int32} {x2 : Int32} {x3 : Int32} (hd : e + 12 ≤ d) (hf : f_X2_afterPlay bd σ x1 x2 x3 = some q) : K l G yX2_afterPlay cX2_afterPlay 9 (some .int) d 0 0 [.ref (ad 12), .int x1, .int x2, .int x3] (wC G ad σ) (pD (some (.int q.1)) (wC G ad q.2)) := K_intro (by decide) (Nat.le_of_ble_eq_true rfl) (v_X2_afterPlay hbd hd hf)
def f_X2_bestDifference_66 (bd : St → Int32 → Int32 → Int32 → Option (Int32 × St)) : Nat → St → Int32 → Int32 → Int32 → Int32 → Int32 → Option (Int32 × St)
  | 0, _, _, _, _, _, _ => none
  | n + 1, σ, x1, x3, x4, x5, x6 => if (4096) ≤ x6 then (some (x4, σ)) else (if x5 = (-1) then (some (x4, σ)) else (bno (f_X2_hasFailed σ) fun r1 => if (b2i r1) = 0 then (bno (f_X2_afterPlay bd σ x1 x5 x3) fun r2 => bno (f_X5_nextPlay r2.2 x1 (x5 + (1))) fun r3 => f_X2_bestDifference_66 bd n r2.2 x1 x3 (if x4 < r2.1 then r2.1 else x4) r3 (x6 + 1)) else (some (x4, σ))))
set_option maxHeartbeats 4000000 in
set_option maxRecDepth 100000 in
theorem v_X2_bestDifference_66 {l : Launch} {G : Gv} {ad : Nat → Nat} {d : Nat} {av0 : List Value} {w1 : va_W} {bd : St → Int32 → Int32 → Int32 → Option (Int32 × St)} {e : Nat} (hbd : ∀ (σ : St) (x1 x2 x3 : Int32) (q : Int32 × St), bd σ x1 x2 x3 = some q → K l G yX2_bestDifference cX2_bestDifference 7 (some .int) e 0 0 [.ref (ad 12), .int x1, .int x2, .int x3] (wC G ad σ) (pD (some (.int q.1)) (wC G ad q.2))) {q : (Int32 × St)} (hd : e + 24 ≤ d) : ∀ (n : Nat) (σ : St) (x1 : Int32) (x3 : Int32) (x4 : Int32) (x5 : Int32) (x6 : Int32), f_X2_bestDifference_66 bd n σ x1 x3 x4 x5 x6 = some q → VV l G yX2_bestDifference cX2_bestDifference 7 (some .int) d 0 0 av0 w1 (pD (some (.int q.1)) (wC G ad q.2)) 0 0 (wC G ad σ) 66 [(0, .ref (ad 12)), (1, .int x1), (3, .int x3), (4, .int x4), (5, .int x5), (6, .int x6)] [] := by
  intro n
  induction n with
  | zero =>
    intro σ x1 x3 x4 x5 x6 hf
    cases hf
  | succ n ih =>
    intro σ x1 x3 x4 x5 x6 hf
    rw [f_X2_bestDifference_66] at hf
    refine V_iload 5 rfl dX2_bestDifference_66 ?_
    refine V_sipush 4096 dX2_bestDifference_68 (by decide) ?_
    refine V_icmp_ge 122 dX2_bestDifference_71 (by decide) (fun c1 => ?_) (fun c1 => ?_)
    · replace hf := (if_pos c1).symm.trans hf
      refine V_iload 3 rfl dX2_bestDifference_122 ?_
      cases hf
      exact V_iret rfl dX2_bestDifference_124 ⟨rfl, rfl⟩
    · replace hf := (if_neg c1).symm.trans hf
      refine V_iload 4 rfl dX2_bestDifference_74 ?_
      refine V_iconst (-1) dX2_bestDifference_76 (by decide) ?_
      refine V_icmp_eq 122 dX2_bestDifference_77 (by decide) (fun c2 => ?_) (fun c2 => ?_)
      · replace hf := (if_pos c2).symm.trans hf
        refine V_iload 3 rfl dX2_bestDifference_122 ?_
        cases hf
        exact V_iret rfl dX2_bestDifference_124 ⟨rfl, rfl⟩
      · replace hf := (if_neg c2).symm.trans hf
        refine V_aload_n 0 rfl dX2_bestDifference_80 rfl ?_
        obtain ⟨r1, hr1, hf⟩ := bno_some hf
        refine V_cV (As := []) (rest := []) (k_X2_hasFailed (d := 0) (Nat.le_refl _) hr1) LB_X2_hasFailed lk_X2_23 (by omega) dX2_bestDifference_81 rfl rfl (Nat.le_of_ble_eq_true rfl) (Nat.le_refl _) (Nat.le_refl _) 12 rfl ⟨rfl, rfl⟩ [.int (b2i r1)] rfl ?_
        refine V_if_ne 122 dX2_bestDifference_84 (by decide) (fun c3 => ?_) (fun c3 => ?_)
        · replace hf := (if_neg c3).symm.trans hf
          refine V_iload 3 rfl dX2_bestDifference_122 ?_
          cases hf
          exact V_iret rfl dX2_bestDifference_124 ⟨rfl, rfl⟩
        · replace hf := (if_pos c3).symm.trans hf
          refine V_iload 3 rfl dX2_bestDifference_87 ?_
          refine V_aload_n 0 rfl dX2_bestDifference_89 rfl ?_
          refine V_iload_n 1 rfl dX2_bestDifference_90 rfl ?_
          refine V_iload 4 rfl dX2_bestDifference_91 ?_
          refine V_iload_n 2 rfl dX2_bestDifference_93 rfl ?_
          obtain ⟨r2, hr2, hf⟩ := bno_some hf
          refine V_cV (As := [.int x1, .int x5, .int x3]) (rest := [.int x4]) (k_X2_afterPlay (d := e + 12) hbd (Nat.le_refl _) hr2) LB_X2_afterPlay lk_X2_47 (by omega) dX2_bestDifference_94 rfl rfl (Nat.le_of_ble_eq_true rfl) (Nat.le_refl _) (Nat.le_refl _) 12 rfl ⟨rfl, rfl⟩ [.int r2.1, .int x4] rfl ?_
          refine V_max lm_X2_50 (by omega) dX2_bestDifference_97 (Nat.le_of_ble_eq_true rfl) (Nat.le_refl _) (Nat.le_refl _) ?_
          refine V_istore [(0, .ref (ad 12)), (1, .int x1), (3, .int x3), (4, .int (if x4 < r2.1 then r2.1 else x4)), (5, .int x5), (6, .int x6)] [1, 2, 3, 0, 4, 5] dX2_bestDifference_100 (by decide) rfl ?_
          refine V_aload_n 0 rfl dX2_bestDifference_102 rfl ?_
          refine V_get (k := 1) RC_X2 fl_X2_15 rfl (by decide) dX2_bestDifference_103 12 rfl rfl ?_
          refine V_iload_n 1 rfl dX2_bestDifference_106 rfl ?_
          refine V_iload 4 rfl dX2_bestDifference_107 ?_
          refine V_iconst 1 dX2_bestDifference_109 (by decide) ?_
          refine V_iadd dX2_bestDifference_110 ?_
          obtain ⟨r3, hr3, hf⟩ := bno_some hf
          refine V_cV (As := [.int x1, .int (x5 + (1))]) (rest := []) (k_X5_nextPlay (d := 5) (Nat.le_refl _) hr3) LB_X5_nextPlay lk_X2_39 (by omega) dX2_bestDifference_111 rfl rfl (Nat.le_of_ble_eq_true rfl) (Nat.le_refl _) (Nat.le_refl _) 11 rfl ⟨rfl, rfl⟩ [.int r3] rfl ?_
          refine V_istore [(0, .ref (ad 12)), (1, .int x1), (3, .int x3), (4, .int (if x4 < r2.1 then r2.1 else x4)), (5, .int r3), (6, .int x6)] [1, 2, 3, 4, 0, 5] dX2_bestDifference_114 (by decide) rfl ?_
          refine V_iinc (1) 5 [(0, .ref (ad 12)), (1, .int x1), (3, .int x3), (4, .int (if x4 < r2.1 then r2.1 else x4)), (5, .int r3), (6, .int (x6 + 1))] [1, 2, 3, 4, 5, 0] dX2_bestDifference_116 rfl (by decide) (by decide) rfl ?_
          refine V_goto 66 dX2_bestDifference_119 (by decide) ?_
          exact ih _ _ _ _ _ _ hf
def f_X2_bestDifference_37 (bd : St → Int32 → Int32 → Int32 → Option (Int32 × St)) (σ : St) (x1 : Int32) : Option (Int32 × St) := bno (f_X2_finalDifference σ x1) fun r1 => some (r1, σ)
set_option maxHeartbeats 4000000 in
set_option maxRecDepth 100000 in
theorem v_X2_bestDifference_37 {l : Launch} {G : Gv} {ad : Nat → Nat} {d : Nat} {av0 : List Value} {w1 : va_W} {bd : St → Int32 → Int32 → Int32 → Option (Int32 × St)} {e : Nat} (hbd : ∀ (σ : St) (x1 x2 x3 : Int32) (q : Int32 × St), bd σ x1 x2 x3 = some q → K l G yX2_bestDifference cX2_bestDifference 7 (some .int) e 0 0 [.ref (ad 12), .int x1, .int x2, .int x3] (wC G ad σ) (pD (some (.int q.1)) (wC G ad q.2))) {q : (Int32 × St)} {σ : St} {x1 : Int32} (hd : e + 24 ≤ d) (hf : f_X2_bestDifference_37 bd σ x1 = some q) : VV l G yX2_bestDifference cX2_bestDifference 7 (some .int) d 0 0 av0 w1 (pD (some (.int q.1)) (wC G ad q.2)) 0 0 (wC G ad σ) 37 [(0, .ref (ad 12)), (1, .int x1)] [] := by
  unfold f_X2_bestDifference_37 at hf
  refine V_aload_n 0 rfl dX2_bestDifference_37 rfl ?_
  refine V_iload_n 1 rfl dX2_bestDifference_38 rfl ?_
  obtain ⟨r1, hr1, hf⟩ := bno_some hf
  refine V_cV (As := [.int x1]) (rest := []) (k_X2_finalDifference (d := 3) (Nat.le_refl _) hr1) LB_X2_finalDifference lk_X2_31 (by omega) dX2_bestDifference_39 rfl rfl (Nat.le_of_ble_eq_true rfl) (Nat.le_refl _) (Nat.le_refl _) 12 rfl ⟨rfl, rfl⟩ [.int r1] rfl ?_
  cases hf
  exact V_iret rfl dX2_bestDifference_42 ⟨rfl, rfl⟩
def f_X2_bestDifference_19 (bd : St → Int32 → Int32 → Int32 → Option (Int32 × St)) (σ : St) (x1 : Int32) (x2 : Int32) (x3 : Int32) (s1 : Int32) : Option (Int32 × St) := lt (si σ 2 s1) fun σ1 => bno (f_X2_hasFailed σ1) fun r1 => if (b2i r1) = 0 then (bno (f_X2_hasEnded σ1 x2) fun r2 => if (b2i r2) = 0 then (bno (f_X2_afterPass bd σ1 x1 x2 x3) fun r3 => bno (f_X5_nextPlay r3.2 x1 (0)) fun r4 => f_X2_bestDifference_66 bd FU r3.2 x1 x3 r3.1 r4 (0)) else (f_X2_bestDifference_37 bd σ1 x1)) else (f_X2_bestDifference_37 bd σ1 x1)
set_option maxHeartbeats 4000000 in
set_option maxRecDepth 100000 in
theorem v_X2_bestDifference_19 {l : Launch} {G : Gv} {ad : Nat → Nat} {d : Nat} {av0 : List Value} {w1 : va_W} {bd : St → Int32 → Int32 → Int32 → Option (Int32 × St)} {e : Nat} (hbd : ∀ (σ : St) (x1 x2 x3 : Int32) (q : Int32 × St), bd σ x1 x2 x3 = some q → K l G yX2_bestDifference cX2_bestDifference 7 (some .int) e 0 0 [.ref (ad 12), .int x1, .int x2, .int x3] (wC G ad σ) (pD (some (.int q.1)) (wC G ad q.2))) {q : (Int32 × St)} {σ : St} {x1 : Int32} {x2 : Int32} {x3 : Int32} {s1 : Int32} (hd : e + 24 ≤ d) (hf : f_X2_bestDifference_19 bd σ x1 x2 x3 s1 = some q) : VV l G yX2_bestDifference cX2_bestDifference 7 (some .int) d 0 0 av0 w1 (pD (some (.int q.1)) (wC G ad q.2)) 0 0 (wC G ad σ) 19 [(0, .ref (ad 12)), (1, .int x1), (2, .int x2), (3, .int x3)] [.int s1, .ref (ad 12)] := by
  unfold f_X2_bestDifference_19 at hf
  obtain ⟨σ1, eσ1, hf⟩ := lt_some hf
  refine V_put (k := 2) RC_X2 fl_X2_19 rfl (by decide) rfl dX2_bestDifference_19 12 rfl (Nat.le_of_ble_eq_true rfl) rfl rfl (wC G ad σ1) (by rw [eσ1]; rfl) ?_
  refine V_aload_n 0 rfl dX2_bestDifference_22 rfl ?_
  obtain ⟨r1, hr1, hf⟩ := bno_some hf
  refine V_cV (As := []) (rest := []) (k_X2_hasFailed (d := 0) (Nat.le_refl _) hr1) LB_X2_hasFailed lk_X2_23 (by omega) dX2_bestDifference_23 rfl rfl (Nat.le_of_ble_eq_true rfl) (Nat.le_refl _) (Nat.le_refl _) 12 rfl ⟨rfl, rfl⟩ [.int (b2i r1)] rfl ?_
  refine V_if_ne 37 dX2_bestDifference_26 (by decide) (fun c1 => ?_) (fun c1 => ?_)
  · replace hf := (if_neg c1).symm.trans hf
    refine V_lv [(0, .ref (ad 12)), (1, .int x1)] [0, 1] rfl ?_
    exact v_X2_bestDifference_37 hbd hd hf
  · replace hf := (if_pos c1).symm.trans hf
    refine V_aload_n 0 rfl dX2_bestDifference_29 rfl ?_
    refine V_iload_n 2 rfl dX2_bestDifference_30 rfl ?_
    obtain ⟨r2, hr2, hf⟩ := bno_some hf
    refine V_cV (As := [.int x2]) (rest := []) (k_X2_hasEnded (d := 3) (Nat.le_refl _) hr2) LB_X2_hasEnded lk_X2_27 (by omega) dX2_bestDifference_31 rfl rfl (Nat.le_of_ble_eq_true rfl) (Nat.le_refl _) (Nat.le_refl _) 12 rfl ⟨rfl, rfl⟩ [.int (b2i r2)] rfl ?_
    refine V_if_eq 43 dX2_bestDifference_34 (by decide) (fun c2 => ?_) (fun c2 => ?_)
    · replace hf := (if_pos c2).symm.trans hf
      refine V_aload_n 0 rfl dX2_bestDifference_43 rfl ?_
      refine V_iload_n 1 rfl dX2_bestDifference_44 rfl ?_
      refine V_iload_n 2 rfl dX2_bestDifference_45 rfl ?_
      refine V_iload_n 3 rfl dX2_bestDifference_46 rfl ?_
      obtain ⟨r3, hr3, hf⟩ := bno_some hf
      refine V_cV (As := [.int x1, .int x2, .int x3]) (rest := []) (k_X2_afterPass (d := e + 12) hbd (Nat.le_refl _) hr3) LB_X2_afterPass lk_X2_35 (by omega) dX2_bestDifference_47 rfl rfl (Nat.le_of_ble_eq_true rfl) (Nat.le_refl _) (Nat.le_refl _) 12 rfl ⟨rfl, rfl⟩ [.int r3.1] rfl ?_
      refine V_istore [(0, .ref (ad 12)), (1, .int x1), (2, .int x2), (3, .int x3), (4, .int r3.1)] [1, 2, 3, 4, 0] dX2_bestDifference_50 (by decide) rfl ?_
      refine V_aload_n 0 rfl dX2_bestDifference_52 rfl ?_
      refine V_get (k := 1) RC_X2 fl_X2_15 rfl (by decide) dX2_bestDifference_53 12 rfl rfl ?_
      refine V_iload_n 1 rfl dX2_bestDifference_56 rfl ?_
      refine V_iconst 0 dX2_bestDifference_57 (by decide) ?_
      obtain ⟨r4, hr4, hf⟩ := bno_some hf
      refine V_cV (As := [.int x1, .int (0)]) (rest := []) (k_X5_nextPlay (d := 5) (Nat.le_refl _) hr4) LB_X5_nextPlay lk_X2_39 (by omega) dX2_bestDifference_58 rfl rfl (Nat.le_of_ble_eq_true rfl) (Nat.le_refl _) (Nat.le_refl _) 11 rfl ⟨rfl, rfl⟩ [.int r4] rfl ?_
      refine V_istore [(0, .ref (ad 12)), (1, .int x1), (2, .int x2), (3, .int x3), (4, .int r3.1), (5, .int r4)] [1, 2, 3, 4, 5, 0] dX2_bestDifference_61 (by decide) rfl ?_
      refine V_iconst 0 dX2_bestDifference_63 (by decide) ?_
      refine V_istore [(0, .ref (ad 12)), (1, .int x1), (2, .int x2), (3, .int x3), (4, .int r3.1), (5, .int r4), (6, .int (0))] [1, 2, 3, 4, 5, 6, 0] dX2_bestDifference_64 (by decide) rfl ?_
      refine V_lv [(0, .ref (ad 12)), (1, .int x1), (3, .int x3), (4, .int r3.1), (5, .int r4), (6, .int (0))] [0, 1, 3, 4, 5, 6] rfl ?_
      exact v_X2_bestDifference_66 hbd hd _ _ _ _ _ _ _ hf
    · replace hf := (if_neg c2).symm.trans hf
      refine V_lv [(0, .ref (ad 12)), (1, .int x1)] [0, 1] rfl ?_
      exact v_X2_bestDifference_37 hbd hd hf
def f_X2_bestDifference (bd : St → Int32 → Int32 → Int32 → Option (Int32 × St)) (σ : St) (x1 : Int32) (x2 : Int32) (x3 : Int32) : Option (Int32 × St) := if x3 ≤ (40) then (f_X2_bestDifference_19 bd σ x1 x2 x3 ((gi σ 2) + (1))) else (f_X2_bestDifference_19 bd σ x1 x2 x3 (401))
set_option maxHeartbeats 4000000 in
set_option maxRecDepth 100000 in
theorem v_X2_bestDifference {l : Launch} {G : Gv} {ad : Nat → Nat} {d : Nat} {av0 : List Value} {w1 : va_W} {bd : St → Int32 → Int32 → Int32 → Option (Int32 × St)} {e : Nat} (hbd : ∀ (σ : St) (x1 x2 x3 : Int32) (q : Int32 × St), bd σ x1 x2 x3 = some q → K l G yX2_bestDifference cX2_bestDifference 7 (some .int) e 0 0 [.ref (ad 12), .int x1, .int x2, .int x3] (wC G ad σ) (pD (some (.int q.1)) (wC G ad q.2))) {q : (Int32 × St)} {σ : St} {x1 : Int32} {x2 : Int32} {x3 : Int32} (hd : e + 24 ≤ d) (hf : f_X2_bestDifference bd σ x1 x2 x3 = some q) : VV l G yX2_bestDifference cX2_bestDifference 7 (some .int) d 0 0 av0 w1 (pD (some (.int q.1)) (wC G ad q.2)) 0 0 (wC G ad σ) 0 [(0, .ref (ad 12)), (1, .int x1), (2, .int x2), (3, .int x3)] [] := by
  unfold f_X2_bestDifference at hf
  refine V_aload_n 0 rfl dX2_bestDifference_0 rfl ?_
  refine V_iload_n 3 rfl dX2_bestDifference_1 rfl ?_
  refine V_bipush 40 dX2_bestDifference_2 (by decide) ?_
  refine V_icmp_le 13 dX2_bestDifference_4 (by decide) (fun c1 => ?_) (fun c1 => ?_)
  · replace hf := (if_pos c1).symm.trans hf
    refine V_aload_n 0 rfl dX2_bestDifference_13 rfl ?_
    refine V_get (k := 2) RC_X2 fl_X2_19 rfl (by decide) dX2_bestDifference_14 12 rfl rfl ?_
    refine V_iconst 1 dX2_bestDifference_17 (by decide) ?_
    refine V_iadd dX2_bestDifference_18 ?_
    exact v_X2_bestDifference_19 hbd hd hf
  · replace hf := (if_neg c1).symm.trans hf
    refine V_sipush 401 dX2_bestDifference_7 (by decide) ?_
    refine V_goto 19 dX2_bestDifference_10 (by decide) ?_
    exact v_X2_bestDifference_19 hbd hd hf
theorem k_X2_bestDifference {l : Launch} {G : Gv} {ad : Nat → Nat} {d : Nat} {σ : St} {bd : St → Int32 → Int32 → Int32 → Option (Int32 × St)} {e : Nat} (hbd : ∀ (σ : St) (x1 x2 x3 : Int32) (q : Int32 × St), bd σ x1 x2 x3 = some q → K l G yX2_bestDifference cX2_bestDifference 7 (some .int) e 0 0 [.ref (ad 12), .int x1, .int x2, .int x3] (wC G ad σ) (pD (some (.int q.1)) (wC G ad q.2))) {q : (Int32 × St)} {x1 : Int32} {x2 : Int32} {x3 : Int32} (hd : e + 24 ≤ d) (hf : f_X2_bestDifference bd σ x1 x2 x3 = some q) : K l G yX2_bestDifference cX2_bestDifference 7 (some .int) d 0 0 [.ref (ad 12), .int x1, .int x2, .int x3] (wC G ad σ) (pD (some (.int q.1)) (wC G ad q.2)) := K_intro (by decide) (Nat.le_of_ble_eq_true rfl) (v_X2_bestDifference hbd hd hf)
/-- the search, n levels deep at most -/
def f_bd : Nat → St → Int32 → Int32 → Int32 → Option (Int32 × St)
  | 0 => fun _ _ _ _ => none
  | n + 1 => f_X2_bestDifference (f_bd n)
theorem k_bd {l : Launch} {G : Gv} {ad : Nat → Nat} : ∀ (n : Nat) (σ : St) (x1 x2 x3 : Int32) (q : Int32 × St), f_bd n σ x1 x2 x3 = some q → K l G yX2_bestDifference cX2_bestDifference 7 (some .int) (24 * n) 0 0 [.ref (ad 12), .int x1, .int x2, .int x3] (wC G ad σ) (pD (some (.int q.1)) (wC G ad q.2)) := by
  intro n
  induction n with
  | zero =>
    intro σ x1 x2 x3 q hf
    cases hf
  | succ n ih =>
    intro σ x1 x2 x3 q hf
    exact k_X2_bestDifference (e := 24 * n) ih (by omega) hf
theorem tcopy_eq {G : Gv} {a : Nat → Nat} {σ τ q : St} (h : f_X7_copyFrom σ τ = some q) : wT G a q = wT G a τ := by
  cases h
  rfl
