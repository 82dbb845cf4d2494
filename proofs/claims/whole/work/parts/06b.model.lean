theorem fl_X10_110 : Cond.fieldLink RX10 110 RX10 "crossRow" "I" ∈ tblG := tin 831 (by decide +kernel) (by decide +kernel)
theorem fl_X10_113 : Cond.fieldLink RX10 113 RX10 "crossColumn" "I" ∈ tblG := tin 832 (by decide +kernel) (by decide +kernel)
theorem fl_X10_119 : Cond.fieldLink RX10 119 RX10 "crossLong" "I" ∈ tblG := tin 833 (by decide +kernel) (by decide +kernel)
theorem fl_X10_147 : Cond.fieldLink RX10 147 RX10 "laidLong" "I" ∈ tblG := tin 835 (by decide +kernel) (by decide +kernel)
theorem fl_X10_22 : Cond.fieldLink RX10 22 RX10 "board" "[I" ∈ tblG := tin 829 (by decide +kernel) (by decide +kernel)
theorem fl_X10_25 : Cond.fieldLink RX10 25 RX10 "racks" "[I" ∈ tblG := tin 830 (by decide +kernel) (by decide +kernel)
theorem fl_X10_28 : Cond.fieldLink RX10 28 RX10 "laid" "[I" ∈ tblG := tin 834 (by decide +kernel) (by decide +kernel)
theorem LB_X10_hasTile : LB yX10_hasTile cX10_hasTile 3 (some .boolean) 2 := ⟨tin 994 (by decide +kernel) (by decide +kernel), tin 8 (by decide +kernel) (by decide +kernel), by decide, by decide, by decide, by decide +kernel⟩
theorem lk_X10_116 : Cond.methodLink RX10 116 yX10_hasTile ∈ tblG ∧ Cond.instanceMethod yX10_hasTile ∈ tblG ∧ Cond.selects yX10_hasTile.cls yX10_hasTile yX10_hasTile ∈ tblG := ⟨tin 991 (by decide +kernel) (by decide +kernel), tin 993 (by decide +kernel) (by decide +kernel), tsel (q := (yX10_hasTile, 25)) (List.mem_of_getElem? (i := 26) (by decide +kernel))⟩
theorem LB_X10_findsCross : LB yX10_findsCross cX10_findsCross 8 none 3 := ⟨tin 1002 (by decide +kernel) (by decide +kernel), tin 8 (by decide +kernel) (by decide +kernel), by decide, by decide, by decide, by decide +kernel⟩
theorem lk_X10_122 : Cond.methodLink RX10 122 yX10_findsCross ∈ tblG ∧ Cond.instanceMethod yX10_findsCross ∈ tblG ∧ Cond.selects yX10_findsCross.cls yX10_findsCross yX10_findsCross ∈ tblG := ⟨tin 999 (by decide +kernel) (by decide +kernel), tin 1001 (by decide +kernel) (by decide +kernel), tsel (q := (yX10_findsCross, 25)) (List.mem_of_getElem? (i := 28) (by decide +kernel))⟩
theorem LB_X10_takesCross : LB yX10_takesCross cX10_takesCross 5 none 2 := ⟨tin 1006 (by decide +kernel) (by decide +kernel), tin 8 (by decide +kernel) (by decide +kernel), by decide, by decide, by decide, by decide +kernel⟩
theorem lk_X10_126 : Cond.methodLink RX10 126 yX10_takesCross ∈ tblG ∧ Cond.instanceMethod yX10_takesCross ∈ tblG ∧ Cond.selects yX10_takesCross.cls yX10_takesCross yX10_takesCross ∈ tblG := ⟨tin 1003 (by decide +kernel) (by decide +kernel), tin 1005 (by decide +kernel) (by decide +kernel), tsel (q := (yX10_takesCross, 25)) (List.mem_of_getElem? (i := 29) (by decide +kernel))⟩
theorem LB_X10_laysNow : LB yX10_laysNow cX10_laysNow 2 none 0 := ⟨tin 990 (by decide +kernel) (by decide +kernel), tin 8 (by decide +kernel) (by decide +kernel), by decide, by decide, by decide, by decide +kernel⟩
theorem lk_X10_130 : Cond.methodLink RX10 130 yX10_laysNow ∈ tblG ∧ Cond.instanceMethod yX10_laysNow ∈ tblG ∧ Cond.selects yX10_laysNow.cls yX10_laysNow yX10_laysNow ∈ tblG := ⟨tin 987 (by decide +kernel) (by decide +kernel), tin 989 (by decide +kernel) (by decide +kernel), tsel (q := (yX10_laysNow, 25)) (List.mem_of_getElem? (i := 25) (by decide +kernel))⟩
theorem LB_X10_crossOf : LB yX10_crossOf cX10_crossOf 6 (some .int) 3 := ⟨tin 998 (by decide +kernel) (by decide +kernel), tin 8 (by decide +kernel) (by decide +kernel), by decide, by decide, by decide, by decide +kernel⟩
theorem lk_X10_133 : Cond.methodLink RX10 133 yX10_crossOf ∈ tblG ∧ Cond.instanceMethod yX10_crossOf ∈ tblG ∧ Cond.selects yX10_crossOf.cls yX10_crossOf yX10_crossOf ∈ tblG := ⟨tin 995 (by decide +kernel) (by decide +kernel), tin 997 (by decide +kernel) (by decide +kernel), tsel (q := (yX10_crossOf, 25)) (List.mem_of_getElem? (i := 27) (by decide +kernel))⟩
theorem LB_X10_isBare : LB yX10_isBare cX10_isBare 3 (some .boolean) 0 := ⟨tin 1022 (by decide +kernel) (by decide +kernel), tin 8 (by decide +kernel) (by decide +kernel), by decide, by decide, by decide, by decide +kernel⟩
theorem lk_X10_137 : Cond.methodLink RX10 137 yX10_isBare ∈ tblG ∧ Cond.instanceMethod yX10_isBare ∈ tblG ∧ Cond.selects yX10_isBare.cls yX10_isBare yX10_isBare ∈ tblG := ⟨tin 1019 (by decide +kernel) (by decide +kernel), tin 1021 (by decide +kernel) (by decide +kernel), tsel (q := (yX10_isBare, 25)) (List.mem_of_getElem? (i := 32) (by decide +kernel))⟩
theorem LB_X10_isAnchorNow : LB yX10_isAnchorNow cX10_isAnchorNow 3 (some .boolean) 2 := ⟨tin 1018 (by decide +kernel) (by decide +kernel), tin 8 (by decide +kernel) (by decide +kernel), by decide, by decide, by decide, by decide +kernel⟩
theorem lk_X10_141 : Cond.methodLink RX10 141 yX10_isAnchorNow ∈ tblG ∧ Cond.instanceMethod yX10_isAnchorNow ∈ tblG ∧ Cond.selects yX10_isAnchorNow.cls yX10_isAnchorNow yX10_isAnchorNow ∈ tblG := ⟨tin 1015 (by decide +kernel) (by decide +kernel), tin 1017 (by decide +kernel) (by decide +kernel), tsel (q := (yX10_isAnchorNow, 25)) (List.mem_of_getElem? (i := 31) (by decide +kernel))⟩
theorem LB_X10_anchorsNow : LB yX10_anchorsNow cX10_anchorsNow 3 (some .int) 0 := ⟨tin 1014 (by decide +kernel) (by decide +kernel), tin 8 (by decide +kernel) (by decide +kernel), by decide, by decide, by decide, by decide +kernel⟩
theorem lk_X10_144 : Cond.methodLink RX10 144 yX10_anchorsNow ∈ tblG ∧ Cond.instanceMethod yX10_anchorsNow ∈ tblG ∧ Cond.selects yX10_anchorsNow.cls yX10_anchorsNow yX10_anchorsNow ∈ tblG := ⟨tin 1011 (by decide +kernel) (by decide +kernel), tin 1013 (by decide +kernel) (by decide +kernel), tsel (q := (yX10_anchorsNow, 25)) (List.mem_of_getElem? (i := 30) (by decide +kernel))⟩
def f_X10_setTile_23 (σ : St) (x1 : Int32) (x2 : Int32) (x3 : Int32) (s1 : Int32) (s2 : Int32) : Option (Int32 × St) := bno (f_X10_goes σ s1 s2 (1)) fun r1 => if (b2i r1.1) = 0 then (some ((0), r1.2)) else (bno (f_X10_save r1.2) fun r2 => ixo (((257) + ((7) * x1)) + x2) 373 (lt (ga r2 0 (Int32.toNatClampNeg (((257) + ((7) * x1)) + x2))) fun t1 => ixo (((257) + ((7) * x1)) + x2) 373 (lt (sa r2 0 (upd (ga r2 0) (Int32.toNatClampNeg (((257) + ((7) * x1)) + x2)) x3)) fun σ1 => some (t1, σ1))))
set_option maxHeartbeats 4000000 in
set_option maxRecDepth 100000 in
theorem v_X10_setTile_23 {l : Launch} {G : Gv} {ad : Nat → Nat} {d : Nat} {av0 : List Value} {w1 : va_W} {q : (Int32 × St)} {σ : St} {x1 : Int32} {x2 : Int32} {x3 : Int32} {s1 : Int32} {s2 : Int32} (hd : 2 ≤ d) (hf : f_X10_setTile_23 σ x1 x2 x3 s1 s2 = some q) : VV l G yX10_setTile cX10_setTile 5 (some .int) d 0 0 av0 w1 (pD (some (.int q.1)) (wM G ad q.2)) 0 0 (wM G ad σ) 23 [(0, .ref (ad 0)), (1, .int x1), (2, .int x2), (3, .int x3)] [.int s2, .int s1, .ref (ad 0)] := by
  unfold f_X10_setTile_23 at hf
  refine V_iconst 1 dX10_setTile_23 (by decide) ?_
  obtain ⟨r1, hr1, hf⟩ := bno_some hf
  refine V_cV (As := [.int s1, .int s2, .int (1)]) (rest := []) (k_X10_goes (d := 0) (Nat.le_refl _) hr1) LB_X10_goes lk_X10_74 (by omega) dX10_setTile_24 rfl rfl (Nat.le_of_ble_eq_true rfl) (Nat.le_refl _) (Nat.le_refl _) 0 rfl ⟨rfl, rfl⟩ [.int (b2i r1.1)] rfl ?_
  refine V_if_ne 32 dX10_setTile_27 (by decide) (fun c1 => ?_) (fun c1 => ?_)
  · replace hf := (if_neg c1).symm.trans hf
    refine V_aload_n 0 rfl dX10_setTile_32 rfl ?_
    obtain ⟨r2, hr2, hf⟩ := bno_some hf
    refine V_cV (As := []) (rest := []) (k_X10_save (d := 0) (Nat.le_refl _) hr2) LB_X10_save lk_X10_85 (by omega) dX10_setTile_33 rfl rfl (Nat.le_of_ble_eq_true rfl) (Nat.le_refl _) (Nat.le_refl _) 0 rfl ⟨rfl, rfl⟩ [] rfl ?_
    refine V_aload_n 0 rfl dX10_setTile_36 rfl ?_
    refine V_get (k := 0) RC_X10 fl_X10_7 rfl (by decide) dX10_setTile_37 0 rfl rfl ?_
    refine V_sipush 257 dX10_setTile_40 (by decide) ?_
    refine V_bipush 7 dX10_setTile_43 (by decide) ?_
    refine V_iload_n 1 rfl dX10_setTile_45 rfl ?_
    refine V_imul dX10_setTile_46 ?_
    refine V_iadd dX10_setTile_47 ?_
    refine V_iload_n 2 rfl dX10_setTile_48 rfl ?_
    refine V_iadd dX10_setTile_49 ?_
    obtain ⟨hi, hf⟩ := ixo_some hf
    refine V_iaload dX10_setTile_50 1 rfl hi ?_
    obtain ⟨t1, et1, hf⟩ := lt_some hf
    refine V_topi et1 ?_
    refine V_istore [(0, .ref (ad 0)), (1, .int x1), (2, .int x2), (3, .int x3), (4, .int t1)] [1, 2, 3, 4, 0] dX10_setTile_51 (by decide) rfl ?_
    refine V_aload_n 0 rfl dX10_setTile_53 rfl ?_
    refine V_get (k := 0) RC_X10 fl_X10_7 rfl (by decide) dX10_setTile_54 0 rfl rfl ?_
    refine V_sipush 257 dX10_setTile_57 (by decide) ?_
    refine V_bipush 7 dX10_setTile_60 (by decide) ?_
    refine V_iload_n 1 rfl dX10_setTile_62 rfl ?_
    refine V_imul dX10_setTile_63 ?_
    refine V_iadd dX10_setTile_64 ?_
    refine V_iload_n 2 rfl dX10_setTile_65 rfl ?_
    refine V_iadd dX10_setTile_66 ?_
    refine V_iload_n 3 rfl dX10_setTile_67 rfl ?_
    obtain ⟨hi, hf⟩ := ixo_some hf
    obtain ⟨σ1, eσ1, hf⟩ := lt_some hf
    refine V_iastore dX10_setTile_68 1 rfl hi (wM G ad σ1) (by rw [eσ1]; rfl) ?_
    refine V_iload 4 rfl dX10_setTile_69 ?_
    cases hf
    exact V_iret rfl dX10_setTile_71 ⟨rfl, rfl⟩
  · replace hf := (if_pos c1).symm.trans hf
    refine V_iconst 0 dX10_setTile_30 (by decide) ?_
    cases hf
    exact V_iret rfl dX10_setTile_31 ⟨rfl, rfl⟩
def f_X10_setTile_18 (σ : St) (x1 : Int32) (x2 : Int32) (x3 : Int32) (s1 : Int32) : Option (Int32 × St) := f_X10_setTile_23 σ x1 x2 x3 s1 (1)
set_option maxHeartbeats 4000000 in
set_option maxRecDepth 100000 in
theorem v_X10_setTile_18 {l : Launch} {G : Gv} {ad : Nat → Nat} {d : Nat} {av0 : List Value} {w1 : va_W} {q : (Int32 × St)} {σ : St} {x1 : Int32} {x2 : Int32} {x3 : Int32} {s1 : Int32} (hd : 2 ≤ d) (hf : f_X10_setTile_18 σ x1 x2 x3 s1 = some q) : VV l G yX10_setTile cX10_setTile 5 (some .int) d 0 0 av0 w1 (pD (some (.int q.1)) (wM G ad q.2)) 0 0 (wM G ad σ) 18 [(0, .ref (ad 0)), (1, .int x1), (2, .int x2), (3, .int x3)] [.int s1, .ref (ad 0)] := by
  unfold f_X10_setTile_18 at hf
  refine V_iconst 1 dX10_setTile_18 (by decide) ?_
  refine V_goto 23 dX10_setTile_19 (by decide) ?_
  exact v_X10_setTile_23 hd hf
def f_X10_setTile (σ : St) (x1 : Int32) (x2 : Int32) (x3 : Int32) : Option (Int32 × St) := bno (f_X10_isSquare x1 x2) fun r1 => if x3 = (-1) then (f_X10_setTile_18 σ x1 x2 x3 (b2i r1)) else (bno (f_X10_isLetter x3) fun r2 => if (b2i r2) = 0 then (f_X10_setTile_23 σ x1 x2 x3 (b2i r1) (0)) else (f_X10_setTile_18 σ x1 x2 x3 (b2i r1)))
set_option maxHeartbeats 4000000 in
set_option maxRecDepth 100000 in
theorem v_X10_setTile {l : Launch} {G : Gv} {ad : Nat → Nat} {d : Nat} {av0 : List Value} {w1 : va_W} {q : (Int32 × St)} {σ : St} {x1 : Int32} {x2 : Int32} {x3 : Int32} (hd : 2 ≤ d) (hf : f_X10_setTile σ x1 x2 x3 = some q) : VV l G yX10_setTile cX10_setTile 5 (some .int) d 0 0 av0 w1 (pD (some (.int q.1)) (wM G ad q.2)) 0 0 (wM G ad σ) 0 [(0, .ref (ad 0)), (1, .int x1), (2, .int x2), (3, .int x3)] [] := by
  unfold f_X10_setTile at hf
  refine V_aload_n 0 rfl dX10_setTile_0 rfl ?_
  refine V_iload_n 1 rfl dX10_setTile_1 rfl ?_
  refine V_iload_n 2 rfl dX10_setTile_2 rfl ?_
  obtain ⟨r1, hr1, hf⟩ := bno_some hf
  refine V_cS (As := [.int x1, .int x2]) (rest := [.ref (ad 0)]) (k_X10_isSquare (d := 1) (Nat.le_refl _) hr1) LB_X10_isSquare lk_X10_101 (by omega) dX10_setTile_3 rfl rfl (Nat.le_of_ble_eq_true rfl) (Nat.le_refl _) (Nat.le_refl _) [.int (b2i r1), .ref (ad 0)] rfl ?_
  refine V_iload_n 3 rfl dX10_setTile_6 rfl ?_
  refine V_iconst (-1) dX10_setTile_7 (by decide) ?_
  refine V_icmp_eq 18 dX10_setTile_8 (by decide) (fun c1 => ?_) (fun c1 => ?_)
  · replace hf := (if_pos c1).symm.trans hf
    exact v_X10_setTile_18 hd hf
  · replace hf := (if_neg c1).symm.trans hf
    refine V_iload_n 3 rfl dX10_setTile_11 rfl ?_
    obtain ⟨r2, hr2, hf⟩ := bno_some hf
    refine V_cS (As := [.int x3]) (rest := [.int (b2i r1), .ref (ad 0)]) (k_X10_isLetter (d := 1) (Nat.le_refl _) hr2) LB_X10_isLetter lk_X10_67 (by omega) dX10_setTile_12 rfl rfl (Nat.le_of_ble_eq_true rfl) (Nat.le_refl _) (Nat.le_refl _) [.int (b2i r2), .int (b2i r1), .ref (ad 0)] rfl ?_
    refine V_if_eq 22 dX10_setTile_15 (by decide) (fun c2 => ?_) (fun c2 => ?_)
    · replace hf := (if_pos c2).symm.trans hf
      refine V_iconst 0 dX10_setTile_22 (by decide) ?_
      exact v_X10_setTile_23 hd hf
    · replace hf := (if_neg c2).symm.trans hf
      exact v_X10_setTile_18 hd hf
theorem k_X10_setTile {l : Launch} {G : Gv} {ad : Nat → Nat} {d : Nat} {σ : St} {q : (Int32 × St)} {x1 : Int32} {x2 : Int32} {x3 : Int32} (hd : 2 ≤ d) (hf : f_X10_setTile σ x1 x2 x3 = some q) : K l G yX10_setTile cX10_setTile 5 (some .int) d 0 0 [.ref (ad 0), .int x1, .int x2, .int x3] (wM G ad σ) (pD (some (.int q.1)) (wM G ad q.2)) := K_intro (by decide) (Nat.le_of_ble_eq_true rfl) (v_X10_setTile hd hf)
def f_X10_tileAt (σ : St) (x1 : Int32) (x2 : Int32) : Option (Int32 × St) := bno (f_X10_isSquare x1 x2) fun r1 => bno (f_X10_goes σ (b2i r1) (1) (1)) fun r2 => if (b2i r2.1) = 0 then (some ((0), r2.2)) else (ixo (((257) + ((7) * x1)) + x2) 373 (some ((ga r2.2 0 (Int32.toNatClampNeg (((257) + ((7) * x1)) + x2))), r2.2)))
set_option maxHeartbeats 4000000 in
set_option maxRecDepth 100000 in
theorem v_X10_tileAt {l : Launch} {G : Gv} {ad : Nat → Nat} {d : Nat} {av0 : List Value} {w1 : va_W} {q : (Int32 × St)} {σ : St} {x1 : Int32} {x2 : Int32} (hd : 2 ≤ d) (hf : f_X10_tileAt σ x1 x2 = some q) : VV l G yX10_tileAt cX10_tileAt 3 (some .int) d 0 0 av0 w1 (pD (some (.int q.1)) (wM G ad q.2)) 0 0 (wM G ad σ) 0 [(0, .ref (ad 0)), (1, .int x1), (2, .int x2)] [] := by
  unfold f_X10_tileAt at hf
  refine V_aload_n 0 rfl dX10_tileAt_0 rfl ?_
  refine V_iload_n 1 rfl dX10_tileAt_1 rfl ?_
  refine V_iload_n 2 rfl dX10_tileAt_2 rfl ?_
  obtain ⟨r1, hr1, hf⟩ := bno_some hf
  refine V_cS (As := [.int x1, .int x2]) (rest := [.ref (ad 0)]) (k_X10_isSquare (d := 1) (Nat.le_refl _) hr1) LB_X10_isSquare lk_X10_101 (by omega) dX10_tileAt_3 rfl rfl (Nat.le_of_ble_eq_true rfl) (Nat.le_refl _) (Nat.le_refl _) [.int (b2i r1), .ref (ad 0)] rfl ?_
  refine V_iconst 1 dX10_tileAt_6 (by decide) ?_
  refine V_iconst 1 dX10_tileAt_7 (by decide) ?_
  obtain ⟨r2, hr2, hf⟩ := bno_some hf
  refine V_cV (As := [.int (b2i r1), .int (1), .int (1)]) (rest := []) (k_X10_goes (d := 0) (Nat.le_refl _) hr2) LB_X10_goes lk_X10_74 (by omega) dX10_tileAt_8 rfl rfl (Nat.le_of_ble_eq_true rfl) (Nat.le_refl _) (Nat.le_refl _) 0 rfl ⟨rfl, rfl⟩ [.int (b2i r2.1)] rfl ?_
  refine V_if_eq 32 dX10_tileAt_11 (by decide) (fun c1 => ?_) (fun c1 => ?_)
  · replace hf := (if_pos c1).symm.trans hf
    refine V_iconst 0 dX10_tileAt_32 (by decide) ?_
    cases hf
    exact V_iret rfl dX10_tileAt_33 ⟨rfl, rfl⟩
  · replace hf := (if_neg c1).symm.trans hf
    refine V_aload_n 0 rfl dX10_tileAt_14 rfl ?_
    refine V_get (k := 0) RC_X10 fl_X10_7 rfl (by decide) dX10_tileAt_15 0 rfl rfl ?_
    refine V_sipush 257 dX10_tileAt_18 (by decide) ?_
    refine V_bipush 7 dX10_tileAt_21 (by decide) ?_
    refine V_iload_n 1 rfl dX10_tileAt_23 rfl ?_
    refine V_imul dX10_tileAt_24 ?_
    refine V_iadd dX10_tileAt_25 ?_
    refine V_iload_n 2 rfl dX10_tileAt_26 rfl ?_
    refine V_iadd dX10_tileAt_27 ?_
    obtain ⟨hi, hf⟩ := ixo_some hf
    refine V_iaload dX10_tileAt_28 1 rfl hi ?_
    refine V_goto 33 dX10_tileAt_29 (by decide) ?_
    cases hf
    exact V_iret rfl dX10_tileAt_33 ⟨rfl, rfl⟩
theorem k_X10_tileAt {l : Launch} {G : Gv} {ad : Nat → Nat} {d : Nat} {σ : St} {q : (Int32 × St)} {x1 : Int32} {x2 : Int32} (hd : 2 ≤ d) (hf : f_X10_tileAt σ x1 x2 = some q) : K l G yX10_tileAt cX10_tileAt 3 (some .int) d 0 0 [.ref (ad 0), .int x1, .int x2] (wM G ad σ) (pD (some (.int q.1)) (wM G ad q.2)) := K_intro (by decide) (Nat.le_of_ble_eq_true rfl) (v_X10_tileAt hd hf)
def f_X10_onRack (σ : St) (x1 : Int32) (x2 : Int32) : Option (Int32 × St) := bno (f_X10_isPlayer x1) fun r1 => bno (f_X10_isLetter x2) fun r2 => bno (f_X10_goes σ (b2i r1) (b2i r2) (1)) fun r3 => if (b2i r3.1) = 0 then (some ((0), r3.2)) else (ixo (((355) + ((8) * x1)) + x2) 373 (some ((ga r3.2 0 (Int32.toNatClampNeg (((355) + ((8) * x1)) + x2))), r3.2)))
set_option maxHeartbeats 4000000 in
set_option maxRecDepth 100000 in
theorem v_X10_onRack {l : Launch} {G : Gv} {ad : Nat → Nat} {d : Nat} {av0 : List Value} {w1 : va_W} {q : (Int32 × St)} {σ : St} {x1 : Int32} {x2 : Int32} (hd : 2 ≤ d) (hf : f_X10_onRack σ x1 x2 = some q) : VV l G yX10_onRack cX10_onRack 3 (some .int) d 0 0 av0 w1 (pD (some (.int q.1)) (wM G ad q.2)) 0 0 (wM G ad σ) 0 [(0, .ref (ad 0)), (1, .int x1), (2, .int x2)] [] := by
  unfold f_X10_onRack at hf
  refine V_aload_n 0 rfl dX10_onRack_0 rfl ?_
  refine V_iload_n 1 rfl dX10_onRack_1 rfl ?_
  obtain ⟨r1, hr1, hf⟩ := bno_some hf
  refine V_cS (As := [.int x1]) (rest := [.ref (ad 0)]) (k_X10_isPlayer (d := 1) (Nat.le_refl _) hr1) LB_X10_isPlayer lk_X10_107 (by omega) dX10_onRack_2 rfl rfl (Nat.le_of_ble_eq_true rfl) (Nat.le_refl _) (Nat.le_refl _) [.int (b2i r1), .ref (ad 0)] rfl ?_
  refine V_iload_n 2 rfl dX10_onRack_5 rfl ?_
  obtain ⟨r2, hr2, hf⟩ := bno_some hf
  refine V_cS (As := [.int x2]) (rest := [.int (b2i r1), .ref (ad 0)]) (k_X10_isLetter (d := 1) (Nat.le_refl _) hr2) LB_X10_isLetter lk_X10_67 (by omega) dX10_onRack_6 rfl rfl (Nat.le_of_ble_eq_true rfl) (Nat.le_refl _) (Nat.le_refl _) [.int (b2i r2), .int (b2i r1), .ref (ad 0)] rfl ?_
  refine V_iconst 1 dX10_onRack_9 (by decide) ?_
  obtain ⟨r3, hr3, hf⟩ := bno_some hf
  refine V_cV (As := [.int (b2i r1), .int (b2i r2), .int (1)]) (rest := []) (k_X10_goes (d := 0) (Nat.le_refl _) hr3) LB_X10_goes lk_X10_74 (by omega) dX10_onRack_10 rfl rfl (Nat.le_of_ble_eq_true rfl) (Nat.le_refl _) (Nat.le_refl _) 0 rfl ⟨rfl, rfl⟩ [.int (b2i r3.1)] rfl ?_
  refine V_if_eq 34 dX10_onRack_13 (by decide) (fun c1 => ?_) (fun c1 => ?_)
  · replace hf := (if_pos c1).symm.trans hf
    refine V_iconst 0 dX10_onRack_34 (by decide) ?_
    cases hf
    exact V_iret rfl dX10_onRack_35 ⟨rfl, rfl⟩
  · replace hf := (if_neg c1).symm.trans hf
    refine V_aload_n 0 rfl dX10_onRack_16 rfl ?_
    refine V_get (k := 0) RC_X10 fl_X10_7 rfl (by decide) dX10_onRack_17 0 rfl rfl ?_
    refine V_sipush 355 dX10_onRack_20 (by decide) ?_
    refine V_bipush 8 dX10_onRack_23 (by decide) ?_
    refine V_iload_n 1 rfl dX10_onRack_25 rfl ?_
    refine V_imul dX10_onRack_26 ?_
    refine V_iadd dX10_onRack_27 ?_
    refine V_iload_n 2 rfl dX10_onRack_28 rfl ?_
    refine V_iadd dX10_onRack_29 ?_
    obtain ⟨hi, hf⟩ := ixo_some hf
    refine V_iaload dX10_onRack_30 1 rfl hi ?_
    refine V_goto 35 dX10_onRack_31 (by decide) ?_
    cases hf
    exact V_iret rfl dX10_onRack_35 ⟨rfl, rfl⟩
theorem k_X10_onRack {l : Launch} {G : Gv} {ad : Nat → Nat} {d : Nat} {σ : St} {q : (Int32 × St)} {x1 : Int32} {x2 : Int32} (hd : 2 ≤ d) (hf : f_X10_onRack σ x1 x2 = some q) : K l G yX10_onRack cX10_onRack 3 (some .int) d 0 0 [.ref (ad 0), .int x1, .int x2] (wM G ad σ) (pD (some (.int q.1)) (wM G ad q.2)) := K_intro (by decide) (Nat.le_of_ble_eq_true rfl) (v_X10_onRack hd hf)
def f_X10_score (σ : St) (x1 : Int32) : Option (Int32 × St) := bno (f_X10_isPlayer x1) fun r1 => bno (f_X10_goes σ (b2i r1) (1) (1)) fun r2 => if (b2i r2.1) = 0 then (some ((0), r2.2)) else (ixo ((371) + x1) 373 (some ((ga r2.2 0 (Int32.toNatClampNeg ((371) + x1))), r2.2)))
set_option maxHeartbeats 4000000 in
set_option maxRecDepth 100000 in
theorem v_X10_score {l : Launch} {G : Gv} {ad : Nat → Nat} {d : Nat} {av0 : List Value} {w1 : va_W} {q : (Int32 × St)} {σ : St} {x1 : Int32} (hd : 2 ≤ d) (hf : f_X10_score σ x1 = some q) : VV l G yX10_score cX10_score 2 (some .int) d 0 0 av0 w1 (pD (some (.int q.1)) (wM G ad q.2)) 0 0 (wM G ad σ) 0 [(0, .ref (ad 0)), (1, .int x1)] [] := by
  unfold f_X10_score at hf
  refine V_aload_n 0 rfl dX10_score_0 rfl ?_
  refine V_iload_n 1 rfl dX10_score_1 rfl ?_
  obtain ⟨r1, hr1, hf⟩ := bno_some hf
  refine V_cS (As := [.int x1]) (rest := [.ref (ad 0)]) (k_X10_isPlayer (d := 1) (Nat.le_refl _) hr1) LB_X10_isPlayer lk_X10_107 (by omega) dX10_score_2 rfl rfl (Nat.le_of_ble_eq_true rfl) (Nat.le_refl _) (Nat.le_refl _) [.int (b2i r1), .ref (ad 0)] rfl ?_
  refine V_iconst 1 dX10_score_5 (by decide) ?_
  refine V_iconst 1 dX10_score_6 (by decide) ?_
  obtain ⟨r2, hr2, hf⟩ := bno_some hf
  refine V_cV (As := [.int (b2i r1), .int (1), .int (1)]) (rest := []) (k_X10_goes (d := 0) (Nat.le_refl _) hr2) LB_X10_goes lk_X10_74 (by omega) dX10_score_7 rfl rfl (Nat.le_of_ble_eq_true rfl) (Nat.le_refl _) (Nat.le_refl _) 0 rfl ⟨rfl, rfl⟩ [.int (b2i r2.1)] rfl ?_
  refine V_if_eq 26 dX10_score_10 (by decide) (fun c1 => ?_) (fun c1 => ?_)
  · replace hf := (if_pos c1).symm.trans hf
    refine V_iconst 0 dX10_score_26 (by decide) ?_
    cases hf
    exact V_iret rfl dX10_score_27 ⟨rfl, rfl⟩
  · replace hf := (if_neg c1).symm.trans hf
    refine V_aload_n 0 rfl dX10_score_13 rfl ?_
    refine V_get (k := 0) RC_X10 fl_X10_7 rfl (by decide) dX10_score_14 0 rfl rfl ?_
    refine V_sipush 371 dX10_score_17 (by decide) ?_
    refine V_iload_n 1 rfl dX10_score_20 rfl ?_
    refine V_iadd dX10_score_21 ?_
    obtain ⟨hi, hf⟩ := ixo_some hf
    refine V_iaload dX10_score_22 1 rfl hi ?_
    refine V_goto 27 dX10_score_23 (by decide) ?_
    cases hf
    exact V_iret rfl dX10_score_27 ⟨rfl, rfl⟩
theorem k_X10_score {l : Launch} {G : Gv} {ad : Nat → Nat} {d : Nat} {σ : St} {q : (Int32 × St)} {x1 : Int32} (hd : 2 ≤ d) (hf : f_X10_score σ x1 = some q) : K l G yX10_score cX10_score 2 (some .int) d 0 0 [.ref (ad 0), .int x1] (wM G ad σ) (pD (some (.int q.1)) (wM G ad q.2)) := K_intro (by decide) (Nat.le_of_ble_eq_true rfl) (v_X10_score hd hf)
def f_X10_laysNow_32 : Nat → St → Int32 → Option St
  | 0, _, _ => none
  | n + 1, σ, x1 => if (16) ≤ x1 then (some σ) else (ixo ((355) + x1) 373 (ixo x1 16 (lt (sa σ 9 (upd (ga σ 9) (Int32.toNatClampNeg x1) (ga σ 0 (Int32.toNatClampNeg ((355) + x1))))) fun σ1 => f_X10_laysNow_32 n σ1 (x1 + 1))))
set_option maxHeartbeats 4000000 in
set_option maxRecDepth 100000 in
theorem v_X10_laysNow_32 {l : Launch} {G : Gv} {ad : Nat → Nat} {d : Nat} {av0 : List Value} {w1 : va_W} {q : St} (hd : 0 ≤ d) : ∀ (n : Nat) (σ : St) (x1 : Int32), f_X10_laysNow_32 n σ x1 = some q → VV l G yX10_laysNow cX10_laysNow 2 none d 0 0 av0 w1 (pD none (wM G ad q)) 0 0 (wM G ad σ) 32 [(0, .ref (ad 0)), (1, .int x1)] [] := by
  intro n
  induction n with
  | zero =>
    intro σ x1 hf
    cases hf
  | succ n ih =>
    intro σ x1 hf
    rw [f_X10_laysNow_32] at hf
    refine V_iload_n 1 rfl dX10_laysNow_32 rfl ?_
    refine V_bipush 16 dX10_laysNow_33 (by decide) ?_
    refine V_icmp_ge 60 dX10_laysNow_35 (by decide) (fun c1 => ?_) (fun c1 => ?_)
    · replace hf := (if_pos c1).symm.trans hf
      cases hf
      exact V_vret rfl dX10_laysNow_60 ⟨rfl, rfl⟩
    · replace hf := (if_neg c1).symm.trans hf
      refine V_aload_n 0 rfl dX10_laysNow_38 rfl ?_
      refine V_get (k := 9) RC_X10 fl_X10_25 rfl (by decide) dX10_laysNow_39 0 rfl rfl ?_
      refine V_iload_n 1 rfl dX10_laysNow_42 rfl ?_
      refine V_aload_n 0 rfl dX10_laysNow_43 rfl ?_
      refine V_get (k := 0) RC_X10 fl_X10_7 rfl (by decide) dX10_laysNow_44 0 rfl rfl ?_
      refine V_sipush 355 dX10_laysNow_47 (by decide) ?_
      refine V_iload_n 1 rfl dX10_laysNow_50 rfl ?_
      refine V_iadd dX10_laysNow_51 ?_
      obtain ⟨hi, hf⟩ := ixo_some hf
      refine V_iaload dX10_laysNow_52 1 rfl hi ?_
      obtain ⟨hi, hf⟩ := ixo_some hf
      obtain ⟨σ1, eσ1, hf⟩ := lt_some hf
      refine V_iastore dX10_laysNow_53 6 rfl hi (wM G ad σ1) (by rw [eσ1]; rfl) ?_
      refine V_iinc (1) 1 [(0, .ref (ad 0)), (1, .int (x1 + 1))] [1, 0] dX10_laysNow_54 rfl (by decide) (by decide) rfl ?_
      refine V_goto 32 dX10_laysNow_57 (by decide) ?_
      exact ih _ _ hf
def f_X10_laysNow_2 : Nat → St → Int32 → Option St
  | 0, _, _ => none
  | n + 1, σ, x1 => if (49) ≤ x1 then (f_X10_laysNow_32 FU σ (0)) else (ixo ((257) + x1) 373 (ixo x1 49 (lt (sa σ 8 (upd (ga σ 8) (Int32.toNatClampNeg x1) (ga σ 0 (Int32.toNatClampNeg ((257) + x1))))) fun σ1 => f_X10_laysNow_2 n σ1 (x1 + 1))))
set_option maxHeartbeats 4000000 in
set_option maxRecDepth 100000 in
theorem v_X10_laysNow_2 {l : Launch} {G : Gv} {ad : Nat → Nat} {d : Nat} {av0 : List Value} {w1 : va_W} {q : St} (hd : 0 ≤ d) : ∀ (n : Nat) (σ : St) (x1 : Int32), f_X10_laysNow_2 n σ x1 = some q → VV l G yX10_laysNow cX10_laysNow 2 none d 0 0 av0 w1 (pD none (wM G ad q)) 0 0 (wM G ad σ) 2 [(0, .ref (ad 0)), (1, .int x1)] [] := by
  intro n
  induction n with
  | zero =>
    intro σ x1 hf
    cases hf
  | succ n ih =>
    intro σ x1 hf
    rw [f_X10_laysNow_2] at hf
    refine V_iload_n 1 rfl dX10_laysNow_2 rfl ?_
    refine V_bipush 49 dX10_laysNow_3 (by decide) ?_
    refine V_icmp_ge 30 dX10_laysNow_5 (by decide) (fun c1 => ?_) (fun c1 => ?_)
    · replace hf := (if_pos c1).symm.trans hf
      refine V_iconst 0 dX10_laysNow_30 (by decide) ?_
      refine V_istore_n [(0, .ref (ad 0)), (1, .int (0))] [1, 0] dX10_laysNow_31 rfl (by decide) rfl ?_
      exact v_X10_laysNow_32 hd _ _ _ hf
    · replace hf := (if_neg c1).symm.trans hf
      refine V_aload_n 0 rfl dX10_laysNow_8 rfl ?_
      refine V_get (k := 8) RC_X10 fl_X10_22 rfl (by decide) dX10_laysNow_9 0 rfl rfl ?_
      refine V_iload_n 1 rfl dX10_laysNow_12 rfl ?_
      refine V_aload_n 0 rfl dX10_laysNow_13 rfl ?_
      refine V_get (k := 0) RC_X10 fl_X10_7 rfl (by decide) dX10_laysNow_14 0 rfl rfl ?_
      refine V_sipush 257 dX10_laysNow_17 (by decide) ?_
      refine V_iload_n 1 rfl dX10_laysNow_20 rfl ?_
      refine V_iadd dX10_laysNow_21 ?_
      obtain ⟨hi, hf⟩ := ixo_some hf
      refine V_iaload dX10_laysNow_22 1 rfl hi ?_
      obtain ⟨hi, hf⟩ := ixo_some hf
      obtain ⟨σ1, eσ1, hf⟩ := lt_some hf
      refine V_iastore dX10_laysNow_23 5 rfl hi (wM G ad σ1) (by rw [eσ1]; rfl) ?_
      refine V_iinc (1) 1 [(0, .ref (ad 0)), (1, .int (x1 + 1))] [1, 0] dX10_laysNow_24 rfl (by decide) (by decide) rfl ?_
      refine V_goto 2 dX10_laysNow_27 (by decide) ?_
      exact ih _ _ hf
def f_X10_laysNow (σ : St) : Option St := f_X10_laysNow_2 FU σ (0)
set_option maxHeartbeats 4000000 in
set_option maxRecDepth 100000 in
theorem v_X10_laysNow {l : Launch} {G : Gv} {ad : Nat → Nat} {d : Nat} {av0 : List Value} {w1 : va_W} {q : St} {σ : St} (hd : 0 ≤ d) (hf : f_X10_laysNow σ = some q) : VV l G yX10_laysNow cX10_laysNow 2 none d 0 0 av0 w1 (pD none (wM G ad q)) 0 0 (wM G ad σ) 0 [(0, .ref (ad 0))] [] := by
  unfold f_X10_laysNow at hf
  refine V_iconst 0 dX10_laysNow_0 (by decide) ?_
  refine V_istore_n [(0, .ref (ad 0)), (1, .int (0))] [1, 0] dX10_laysNow_1 rfl (by decide) rfl ?_
  exact v_X10_laysNow_2 hd _ _ _ hf
theorem k_X10_laysNow {l : Launch} {G : Gv} {ad : Nat → Nat} {d : Nat} {σ : St} {q : St} (hd : 0 ≤ d) (hf : f_X10_laysNow σ = some q) : K l G yX10_laysNow cX10_laysNow 2 none d 0 0 [.ref (ad 0)] (wM G ad σ) (pD none (wM G ad q)) := K_intro (by decide) (Nat.le_of_ble_eq_true rfl) (v_X10_laysNow hd hf)
def f_X10_hasTile (σ : St) (x1 : Int32) (x2 : Int32) : Option Bool := bno (f_X10_isSquare x1 x2) fun r1 => if (b2i r1) = 0 then (some false) else (ixo (((7) * x1) + x2) 49 (if (ga σ 8 (Int32.toNatClampNeg (((7) * x1) + x2))) = (-1) then (some false) else (some true)))
set_option maxHeartbeats 4000000 in
set_option maxRecDepth 100000 in
theorem v_X10_hasTile {l : Launch} {G : Gv} {ad : Nat → Nat} {d : Nat} {av0 : List Value} {w1 : va_W} {q : Bool} {σ : St} {x1 : Int32} {x2 : Int32} (hd : 2 ≤ d) (hf : f_X10_hasTile σ x1 x2 = some q) : VV l G yX10_hasTile cX10_hasTile 3 (some .boolean) d 0 0 av0 w1 (pD (some (.int (b2i q))) (wM G ad σ)) 0 0 (wM G ad σ) 0 [(0, .ref (ad 0)), (1, .int x1), (2, .int x2)] [] := by
  unfold f_X10_hasTile at hf
  refine V_iload_n 1 rfl dX10_hasTile_0 rfl ?_
  refine V_iload_n 2 rfl dX10_hasTile_1 rfl ?_
  obtain ⟨r1, hr1, hf⟩ := bno_some hf
  refine V_cS (As := [.int x1, .int x2]) (rest := []) (k_X10_isSquare (d := 1) (Nat.le_refl _) hr1) LB_X10_isSquare lk_X10_101 (by omega) dX10_hasTile_2 rfl rfl (Nat.le_of_ble_eq_true rfl) (Nat.le_refl _) (Nat.le_refl _) [.int (b2i r1)] rfl ?_
  refine V_if_eq 27 dX10_hasTile_5 (by decide) (fun c1 => ?_) (fun c1 => ?_)
  · replace hf := (if_pos c1).symm.trans hf
    refine V_iconst 0 dX10_hasTile_27 (by decide) ?_
    cases hf
    exact V_zret (ty := .boolean) rfl rfl dX10_hasTile_28 ⟨rfl, rfl⟩
  · replace hf := (if_neg c1).symm.trans hf
    refine V_aload_n 0 rfl dX10_hasTile_8 rfl ?_
    refine V_get (k := 8) RC_X10 fl_X10_22 rfl (by decide) dX10_hasTile_9 0 rfl rfl ?_
    refine V_bipush 7 dX10_hasTile_12 (by decide) ?_
    refine V_iload_n 1 rfl dX10_hasTile_14 rfl ?_
    refine V_imul dX10_hasTile_15 ?_
    refine V_iload_n 2 rfl dX10_hasTile_16 rfl ?_
    refine V_iadd dX10_hasTile_17 ?_
    obtain ⟨hi, hf⟩ := ixo_some hf
    refine V_iaload dX10_hasTile_18 5 rfl hi ?_
    refine V_iconst (-1) dX10_hasTile_19 (by decide) ?_
    refine V_icmp_eq 27 dX10_hasTile_20 (by decide) (fun c2 => ?_) (fun c2 => ?_)
    · replace hf := (if_pos c2).symm.trans hf
      refine V_iconst 0 dX10_hasTile_27 (by decide) ?_
      cases hf
      exact V_zret (ty := .boolean) rfl rfl dX10_hasTile_28 ⟨rfl, rfl⟩
    · replace hf := (if_neg c2).symm.trans hf
      refine V_iconst 1 dX10_hasTile_23 (by decide) ?_
      refine V_goto 28 dX10_hasTile_24 (by decide) ?_
      cases hf
      exact V_zret (ty := .boolean) rfl rfl dX10_hasTile_28 ⟨rfl, rfl⟩
theorem k_X10_hasTile {l : Launch} {G : Gv} {ad : Nat → Nat} {d : Nat} {σ : St} {q : Bool} {x1 : Int32} {x2 : Int32} (hd : 2 ≤ d) (hf : f_X10_hasTile σ x1 x2 = some q) : K l G yX10_hasTile cX10_hasTile 3 (some .boolean) d 0 0 [.ref (ad 0), .int x1, .int x2] (wM G ad σ) (pD (some (.int (b2i q))) (wM G ad σ)) := K_intro (by decide) (Nat.le_of_ble_eq_true rfl) (v_X10_hasTile hd hf)
def f_X10_isBare_29 (bk4 : Int32 → Int32 → Option Bool) (σ : St) (x2 : Int32) (s0 : Int32) : Option Bool := bk4 s0 (x2 + 1)
set_option maxHeartbeats 4000000 in
set_option maxRecDepth 100000 in
theorem v_X10_isBare_29 {l : Launch} {G : Gv} {ad : Nat → Nat} {d : Nat} {av0 : List Value} {w1 : va_W} {q : Bool} {bk4 : Int32 → Int32 → Option Bool} {σ : St} {x2 : Int32} {s0 : Int32} (hd : 0 ≤ d) (hb4 : ∀ (x1 : Int32) (x2 : Int32), bk4 x1 x2 = some q → VV l G yX10_isBare cX10_isBare 3 (some .boolean) d 0 0 av0 w1 (pD (some (.int (b2i q))) (wM G ad σ)) 0 0 (wM G ad σ) 4 [(0, .ref (ad 0)), (1, .int x1), (2, .int x2)] []) (hf : f_X10_isBare_29 bk4 σ x2 s0 = some q) : VV l G yX10_isBare cX10_isBare 3 (some .boolean) d 0 0 av0 w1 (pD (some (.int (b2i q))) (wM G ad σ)) 0 0 (wM G ad σ) 29 [(0, .ref (ad 0)), (2, .int x2)] [.int s0] := by
  unfold f_X10_isBare_29 at hf
  refine V_istore_n [(0, .ref (ad 0)), (1, .int s0), (2, .int x2)] [1, 0, 2] dX10_isBare_29 rfl (by decide) rfl ?_
  refine V_iinc (1) 2 [(0, .ref (ad 0)), (1, .int s0), (2, .int (x2 + 1))] [1, 2, 0] dX10_isBare_30 rfl (by decide) (by decide) rfl ?_
  refine V_goto 4 dX10_isBare_33 (by decide) ?_
  exact hb4 _ _ hf
def f_X10_isBare_28 (bk4 : Int32 → Int32 → Option Bool) (σ : St) (x2 : Int32) : Option Bool := f_X10_isBare_29 bk4 σ x2 (0)
set_option maxHeartbeats 4000000 in
set_option maxRecDepth 100000 in
theorem v_X10_isBare_28 {l : Launch} {G : Gv} {ad : Nat → Nat} {d : Nat} {av0 : List Value} {w1 : va_W} {q : Bool} {bk4 : Int32 → Int32 → Option Bool} {σ : St} {x2 : Int32} (hd : 0 ≤ d) (hb4 : ∀ (x1 : Int32) (x2 : Int32), bk4 x1 x2 = some q → VV l G yX10_isBare cX10_isBare 3 (some .boolean) d 0 0 av0 w1 (pD (some (.int (b2i q))) (wM G ad σ)) 0 0 (wM G ad σ) 4 [(0, .ref (ad 0)), (1, .int x1), (2, .int x2)] []) (hf : f_X10_isBare_28 bk4 σ x2 = some q) : VV l G yX10_isBare cX10_isBare 3 (some .boolean) d 0 0 av0 w1 (pD (some (.int (b2i q))) (wM G ad σ)) 0 0 (wM G ad σ) 28 [(0, .ref (ad 0)), (2, .int x2)] [] := by
  unfold f_X10_isBare_28 at hf
  refine V_iconst 0 dX10_isBare_28 (by decide) ?_
  exact v_X10_isBare_29 hd hb4 hf
def f_X10_isBare_4 (σ : St) : Nat → Int32 → Int32 → Option Bool
  | 0, _, _ => none
  | n + 1, x1, x2 => if (49) ≤ x2 then (bno (i2b x1) fun b => some b) else (if x1 = 0 then (f_X10_isBare_28 (f_X10_isBare_4 σ n) σ x2) else (ixo x2 49 (if (ga σ 8 (Int32.toNatClampNeg x2)) = (-1) then (f_X10_isBare_29 (f_X10_isBare_4 σ n) σ x2 (1)) else (f_X10_isBare_28 (f_X10_isBare_4 σ n) σ x2))))
set_option maxHeartbeats 4000000 in
set_option maxRecDepth 100000 in
theorem v_X10_isBare_4 {l : Launch} {G : Gv} {ad : Nat → Nat} {d : Nat} {av0 : List Value} {w1 : va_W} {q : Bool} {σ : St} (hd : 0 ≤ d) : ∀ (n : Nat) (x1 : Int32) (x2 : Int32), f_X10_isBare_4 σ n x1 x2 = some q → VV l G yX10_isBare cX10_isBare 3 (some .boolean) d 0 0 av0 w1 (pD (some (.int (b2i q))) (wM G ad σ)) 0 0 (wM G ad σ) 4 [(0, .ref (ad 0)), (1, .int x1), (2, .int x2)] [] := by
  intro n
  induction n with
  | zero =>
    intro x1 x2 hf
    cases hf
  | succ n ih =>
    intro x1 x2 hf
    rw [f_X10_isBare_4] at hf
    refine V_iload_n 2 rfl dX10_isBare_4 rfl ?_
    refine V_bipush 49 dX10_isBare_5 (by decide) ?_
    refine V_icmp_ge 36 dX10_isBare_7 (by decide) (fun c1 => ?_) (fun c1 => ?_)
    · replace hf := (if_pos c1).symm.trans hf
      refine V_iload_n 1 rfl dX10_isBare_36 rfl ?_
      obtain ⟨b, hb, hf⟩ := bno_some hf
      have hb := i2b_some hb
      cases hf
      exact V_zret (ty := .boolean) rfl (by rw [hb]; exact narrow_b2i _) dX10_isBare_37 ⟨by rw [hb], rfl⟩
    · replace hf := (if_neg c1).symm.trans hf
      refine V_iload_n 1 rfl dX10_isBare_10 rfl ?_
      refine V_if_eq 28 dX10_isBare_11 (by decide) (fun c2 => ?_) (fun c2 => ?_)
      · replace hf := (if_pos c2).symm.trans hf
        refine V_lv [(0, .ref (ad 0)), (2, .int x2)] [0, 2] rfl ?_
        exact v_X10_isBare_28 hd ih hf
      · replace hf := (if_neg c2).symm.trans hf
        refine V_aload_n 0 rfl dX10_isBare_14 rfl ?_
        refine V_get (k := 8) RC_X10 fl_X10_22 rfl (by decide) dX10_isBare_15 0 rfl rfl ?_
        refine V_iload_n 2 rfl dX10_isBare_18 rfl ?_
        obtain ⟨hi, hf⟩ := ixo_some hf
        refine V_iaload dX10_isBare_19 5 rfl hi ?_
        refine V_iconst (-1) dX10_isBare_20 (by decide) ?_
        refine V_icmp_ne 28 dX10_isBare_21 (by decide) (fun c3 => ?_) (fun c3 => ?_)
        · replace hf := (if_neg c3).symm.trans hf
          refine V_lv [(0, .ref (ad 0)), (2, .int x2)] [0, 2] rfl ?_
          exact v_X10_isBare_28 hd ih hf
        · replace hf := (if_pos c3).symm.trans hf
          refine V_iconst 1 dX10_isBare_24 (by decide) ?_
          refine V_goto 29 dX10_isBare_25 (by decide) ?_
          refine V_lv [(0, .ref (ad 0)), (2, .int x2)] [0, 2] rfl ?_
          exact v_X10_isBare_29 hd ih hf
def f_X10_isBare (σ : St) : Option Bool := f_X10_isBare_4 σ FU (1) (0)
set_option maxHeartbeats 4000000 in
set_option maxRecDepth 100000 in
theorem v_X10_isBare {l : Launch} {G : Gv} {ad : Nat → Nat} {d : Nat} {av0 : List Value} {w1 : va_W} {q : Bool} {σ : St} (hd : 0 ≤ d) (hf : f_X10_isBare σ = some q) : VV l G yX10_isBare cX10_isBare 3 (some .boolean) d 0 0 av0 w1 (pD (some (.int (b2i q))) (wM G ad σ)) 0 0 (wM G ad σ) 0 [(0, .ref (ad 0))] [] := by
  unfold f_X10_isBare at hf
  refine V_iconst 1 dX10_isBare_0 (by decide) ?_
  refine V_istore_n [(0, .ref (ad 0)), (1, .int (1))] [1, 0] dX10_isBare_1 rfl (by decide) rfl ?_
  refine V_iconst 0 dX10_isBare_2 (by decide) ?_
  refine V_istore_n [(0, .ref (ad 0)), (1, .int (1)), (2, .int (0))] [1, 2, 0] dX10_isBare_3 rfl (by decide) rfl ?_
  exact v_X10_isBare_4 hd _ _ _ hf
theorem k_X10_isBare {l : Launch} {G : Gv} {ad : Nat → Nat} {d : Nat} {σ : St} {q : Bool} (hd : 0 ≤ d) (hf : f_X10_isBare σ = some q) : K l G yX10_isBare cX10_isBare 3 (some .boolean) d 0 0 [.ref (ad 0)] (wM G ad σ) (pD (some (.int (b2i q))) (wM G ad σ)) := K_intro (by decide) (Nat.le_of_ble_eq_true rfl) (v_X10_isBare hd hf)
def f_X10_findsCross_79 : Nat → St → Int32 → Int32 → Int32 → Int32 → Option St
  | 0, _, _, _, _, _ => none
  | n + 1, σ, x4, x5, x6, x7 => bno (f_X10_hasTile σ (x6 + x4) (x7 + x5)) fun r1 => if (b2i r1) = 0 then (lt (si σ 12 ((((x6 - (gi σ 10)) + x7) - (gi σ 11)) + (1))) fun σ1 => some σ1) else (f_X10_findsCross_79 n σ x4 x5 (x6 + x4) (x7 + x5))
set_option maxHeartbeats 4000000 in
set_option maxRecDepth 100000 in
theorem v_X10_findsCross_79 {l : Launch} {G : Gv} {ad : Nat → Nat} {d : Nat} {av0 : List Value} {w1 : va_W} {q : St} (hd : 3 ≤ d) : ∀ (n : Nat) (σ : St) (x4 : Int32) (x5 : Int32) (x6 : Int32) (x7 : Int32), f_X10_findsCross_79 n σ x4 x5 x6 x7 = some q → VV l G yX10_findsCross cX10_findsCross 8 none d 0 0 av0 w1 (pD none (wM G ad q)) 0 0 (wM G ad σ) 79 [(0, .ref (ad 0)), (4, .int x4), (5, .int x5), (6, .int x6), (7, .int x7)] [] := by
  intro n
  induction n with
  | zero =>
    intro σ x4 x5 x6 x7 hf
    cases hf
  | succ n ih =>
    intro σ x4 x5 x6 x7 hf
    rw [f_X10_findsCross_79] at hf
    refine V_aload_n 0 rfl dX10_findsCross_79 rfl ?_
    refine V_iload 3 rfl dX10_findsCross_80 ?_
    refine V_iload 1 rfl dX10_findsCross_82 ?_
    refine V_iadd dX10_findsCross_84 ?_
    refine V_iload 4 rfl dX10_findsCross_85 ?_
    refine V_iload 2 rfl dX10_findsCross_87 ?_
    refine V_iadd dX10_findsCross_89 ?_
    obtain ⟨r1, hr1, hf⟩ := bno_some hf
    refine V_cV (As := [.int (x6 + x4), .int (x7 + x5)]) (rest := []) (k_X10_hasTile (d := 2) (Nat.le_refl _) hr1) LB_X10_hasTile lk_X10_116 (by omega) dX10_findsCross_90 rfl rfl (Nat.le_of_ble_eq_true rfl) (Nat.le_refl _) (Nat.le_refl _) 0 rfl ⟨rfl, rfl⟩ [.int (b2i r1)] rfl ?_
    refine V_if_eq 113 dX10_findsCross_93 (by decide) (fun c1 => ?_) (fun c1 => ?_)
    · replace hf := (if_pos c1).symm.trans hf
      refine V_aload_n 0 rfl dX10_findsCross_113 rfl ?_
      refine V_iload 3 rfl dX10_findsCross_114 ?_
      refine V_aload_n 0 rfl dX10_findsCross_116 rfl ?_
      refine V_get (k := 10) RC_X10 fl_X10_110 rfl (by decide) dX10_findsCross_117 0 rfl rfl ?_
      refine V_isub dX10_findsCross_120 ?_
      refine V_iload 4 rfl dX10_findsCross_121 ?_
      refine V_iadd dX10_findsCross_123 ?_
      refine V_aload_n 0 rfl dX10_findsCross_124 rfl ?_
      refine V_get (k := 11) RC_X10 fl_X10_113 rfl (by decide) dX10_findsCross_125 0 rfl rfl ?_
      refine V_isub dX10_findsCross_128 ?_
      refine V_iconst 1 dX10_findsCross_129 (by decide) ?_
      refine V_iadd dX10_findsCross_130 ?_
      obtain ⟨σ1, eσ1, hf⟩ := lt_some hf
      refine V_put (k := 12) RC_X10 fl_X10_119 rfl (by decide) rfl dX10_findsCross_131 0 rfl (Nat.le_of_ble_eq_true rfl) rfl rfl (wM G ad σ1) (by rw [eσ1]; rfl) ?_
      cases hf
      exact V_vret rfl dX10_findsCross_134 ⟨rfl, rfl⟩
    · replace hf := (if_neg c1).symm.trans hf
      refine V_iload 3 rfl dX10_findsCross_96 ?_
      refine V_iload 1 rfl dX10_findsCross_98 ?_
      refine V_iadd dX10_findsCross_100 ?_
      refine V_istore [(0, .ref (ad 0)), (4, .int x4), (5, .int x5), (6, .int (x6 + x4)), (7, .int x7)] [1, 2, 3, 0, 4] dX10_findsCross_101 (by decide) rfl ?_
      refine V_iload 4 rfl dX10_findsCross_103 ?_
      refine V_iload 2 rfl dX10_findsCross_105 ?_
      refine V_iadd dX10_findsCross_107 ?_
      refine V_istore [(0, .ref (ad 0)), (4, .int x4), (5, .int x5), (6, .int (x6 + x4)), (7, .int (x7 + x5))] [1, 2, 3, 4, 0] dX10_findsCross_108 (by decide) rfl ?_
      refine V_goto 79 dX10_findsCross_110 (by decide) ?_
      exact ih _ _ _ _ _ hf
def f_X10_findsCross_27 : Nat → St → Int32 → Int32 → Int32 → Int32 → Option St
  | 0, _, _, _, _, _ => none
  | n + 1, σ, x1, x2, x4, x5 => bno (f_X10_hasTile σ ((gi σ 10) - x4) ((gi σ 11) - x5)) fun r1 => if (b2i r1) = 0 then (f_X10_findsCross_79 FU σ x4 x5 x1 x2) else (lt (si σ 10 ((gi σ 10) - x4)) fun σ1 => lt (si σ1 11 ((gi σ1 11) - x5)) fun σ2 => f_X10_findsCross_27 n σ2 x1 x2 x4 x5)
set_option maxHeartbeats 4000000 in
set_option maxRecDepth 100000 in
theorem v_X10_findsCross_27 {l : Launch} {G : Gv} {ad : Nat → Nat} {d : Nat} {av0 : List Value} {w1 : va_W} {q : St} (hd : 3 ≤ d) : ∀ (n : Nat) (σ : St) (x1 : Int32) (x2 : Int32) (x4 : Int32) (x5 : Int32), f_X10_findsCross_27 n σ x1 x2 x4 x5 = some q → VV l G yX10_findsCross cX10_findsCross 8 none d 0 0 av0 w1 (pD none (wM G ad q)) 0 0 (wM G ad σ) 27 [(0, .ref (ad 0)), (1, .int x1), (2, .int x2), (4, .int x4), (5, .int x5)] [] := by
  intro n
  induction n with
  | zero =>
    intro σ x1 x2 x4 x5 hf
    cases hf
  | succ n ih =>
    intro σ x1 x2 x4 x5 hf
    rw [f_X10_findsCross_27] at hf
    refine V_aload_n 0 rfl dX10_findsCross_27 rfl ?_
    refine V_aload_n 0 rfl dX10_findsCross_28 rfl ?_
    refine V_get (k := 10) RC_X10 fl_X10_110 rfl (by decide) dX10_findsCross_29 0 rfl rfl ?_
    refine V_iload 3 rfl dX10_findsCross_32 ?_
    refine V_isub dX10_findsCross_34 ?_
    refine V_aload_n 0 rfl dX10_findsCross_35 rfl ?_
    refine V_get (k := 11) RC_X10 fl_X10_113 rfl (by decide) dX10_findsCross_36 0 rfl rfl ?_
    refine V_iload 4 rfl dX10_findsCross_39 ?_
    refine V_isub dX10_findsCross_41 ?_
    obtain ⟨r1, hr1, hf⟩ := bno_some hf
    refine V_cV (As := [.int ((gi σ 10) - x4), .int ((gi σ 11) - x5)]) (rest := []) (k_X10_hasTile (d := 2) (Nat.le_refl _) hr1) LB_X10_hasTile lk_X10_116 (by omega) dX10_findsCross_42 rfl rfl (Nat.le_of_ble_eq_true rfl) (Nat.le_refl _) (Nat.le_refl _) 0 rfl ⟨rfl, rfl⟩ [.int (b2i r1)] rfl ?_
    refine V_if_eq 73 dX10_findsCross_45 (by decide) (fun c1 => ?_) (fun c1 => ?_)
    · replace hf := (if_pos c1).symm.trans hf
      refine V_iload_n 1 rfl dX10_findsCross_73 rfl ?_
      refine V_istore [(0, .ref (ad 0)), (1, .int x1), (2, .int x2), (4, .int x4), (5, .int x5), (6, .int x1)] [1, 2, 3, 4, 5, 0] dX10_findsCross_74 (by decide) rfl ?_
      refine V_iload_n 2 rfl dX10_findsCross_76 rfl ?_
      refine V_istore [(0, .ref (ad 0)), (1, .int x1), (2, .int x2), (4, .int x4), (5, .int x5), (6, .int x1), (7, .int x2)] [1, 2, 3, 4, 5, 6, 0] dX10_findsCross_77 (by decide) rfl ?_
      refine V_lv [(0, .ref (ad 0)), (4, .int x4), (5, .int x5), (6, .int x1), (7, .int x2)] [0, 3, 4, 5, 6] rfl ?_
      exact v_X10_findsCross_79 hd _ _ _ _ _ _ hf
    · replace hf := (if_neg c1).symm.trans hf
      refine V_aload_n 0 rfl dX10_findsCross_48 rfl ?_
      refine V_dup rfl dX10_findsCross_49 ?_
      refine V_get (k := 10) RC_X10 fl_X10_110 rfl (by decide) dX10_findsCross_50 0 rfl rfl ?_
      refine V_iload 3 rfl dX10_findsCross_53 ?_
      refine V_isub dX10_findsCross_55 ?_
      obtain ⟨σ1, eσ1, hf⟩ := lt_some hf
      refine V_put (k := 10) RC_X10 fl_X10_110 rfl (by decide) rfl dX10_findsCross_56 0 rfl (Nat.le_of_ble_eq_true rfl) rfl rfl (wM G ad σ1) (by rw [eσ1]; rfl) ?_
      refine V_aload_n 0 rfl dX10_findsCross_59 rfl ?_
      refine V_dup rfl dX10_findsCross_60 ?_
      refine V_get (k := 11) RC_X10 fl_X10_113 rfl (by decide) dX10_findsCross_61 0 rfl rfl ?_
      refine V_iload 4 rfl dX10_findsCross_64 ?_
      refine V_isub dX10_findsCross_66 ?_
      obtain ⟨σ2, eσ2, hf⟩ := lt_some hf
      refine V_put (k := 11) RC_X10 fl_X10_113 rfl (by decide) rfl dX10_findsCross_67 0 rfl (Nat.le_of_ble_eq_true rfl) rfl rfl (wM G ad σ2) (by rw [eσ2]; rfl) ?_
      refine V_goto 27 dX10_findsCross_70 (by decide) ?_
      exact ih _ _ _ _ _ hf
def f_X10_findsCross_9 (σ : St) (x1 : Int32) (x2 : Int32) (s0 : Int32) : Option St := lt (si σ 10 x1) fun σ1 => lt (si σ1 11 x2) fun σ2 => f_X10_findsCross_27 FU σ2 x1 x2 s0 ((1) - s0)
set_option maxHeartbeats 4000000 in
set_option maxRecDepth 100000 in
theorem v_X10_findsCross_9 {l : Launch} {G : Gv} {ad : Nat → Nat} {d : Nat} {av0 : List Value} {w1 : va_W} {q : St} {σ : St} {x1 : Int32} {x2 : Int32} {s0 : Int32} (hd : 3 ≤ d) (hf : f_X10_findsCross_9 σ x1 x2 s0 = some q) : VV l G yX10_findsCross cX10_findsCross 8 none d 0 0 av0 w1 (pD none (wM G ad q)) 0 0 (wM G ad σ) 9 [(0, .ref (ad 0)), (1, .int x1), (2, .int x2)] [.int s0] := by
  unfold f_X10_findsCross_9 at hf
  refine V_istore [(0, .ref (ad 0)), (1, .int x1), (2, .int x2), (4, .int s0)] [1, 2, 3, 0] dX10_findsCross_9 (by decide) rfl ?_
  refine V_iconst 1 dX10_findsCross_11 (by decide) ?_
  refine V_iload 3 rfl dX10_findsCross_12 ?_
  refine V_isub dX10_findsCross_14 ?_
  refine V_istore [(0, .ref (ad 0)), (1, .int x1), (2, .int x2), (4, .int s0), (5, .int ((1) - s0))] [1, 2, 3, 4, 0] dX10_findsCross_15 (by decide) rfl ?_
  refine V_aload_n 0 rfl dX10_findsCross_17 rfl ?_
  refine V_iload_n 1 rfl dX10_findsCross_18 rfl ?_
  obtain ⟨σ1, eσ1, hf⟩ := lt_some hf
  refine V_put (k := 10) RC_X10 fl_X10_110 rfl (by decide) rfl dX10_findsCross_19 0 rfl (Nat.le_of_ble_eq_true rfl) rfl rfl (wM G ad σ1) (by rw [eσ1]; rfl) ?_
  refine V_aload_n 0 rfl dX10_findsCross_22 rfl ?_
  refine V_iload_n 2 rfl dX10_findsCross_23 rfl ?_
  obtain ⟨σ2, eσ2, hf⟩ := lt_some hf
  refine V_put (k := 11) RC_X10 fl_X10_113 rfl (by decide) rfl dX10_findsCross_24 0 rfl (Nat.le_of_ble_eq_true rfl) rfl rfl (wM G ad σ2) (by rw [eσ2]; rfl) ?_
  exact v_X10_findsCross_27 hd _ _ _ _ _ _ hf
def f_X10_findsCross (σ : St) (x1 : Int32) (x2 : Int32) (x3 : Int32) : Option St := if x3 = 0 then (f_X10_findsCross_9 σ x1 x2 (1)) else (f_X10_findsCross_9 σ x1 x2 (0))
set_option maxHeartbeats 4000000 in
set_option maxRecDepth 100000 in
theorem v_X10_findsCross {l : Launch} {G : Gv} {ad : Nat → Nat} {d : Nat} {av0 : List Value} {w1 : va_W} {q : St} {σ : St} {x1 : Int32} {x2 : Int32} {x3 : Int32} (hd : 3 ≤ d) (hf : f_X10_findsCross σ x1 x2 x3 = some q) : VV l G yX10_findsCross cX10_findsCross 8 none d 0 0 av0 w1 (pD none (wM G ad q)) 0 0 (wM G ad σ) 0 [(0, .ref (ad 0)), (1, .int x1), (2, .int x2), (3, .int x3)] [] := by
  unfold f_X10_findsCross at hf
  refine V_iload_n 3 rfl dX10_findsCross_0 rfl ?_
  refine V_if_ne 8 dX10_findsCross_1 (by decide) (fun c1 => ?_) (fun c1 => ?_)
  · replace hf := (if_neg c1).symm.trans hf
    refine V_iconst 0 dX10_findsCross_8 (by decide) ?_
    refine V_lv [(0, .ref (ad 0)), (1, .int x1), (2, .int x2)] [0, 1, 2] rfl ?_
    exact v_X10_findsCross_9 hd hf
  · replace hf := (if_pos c1).symm.trans hf
    refine V_iconst 1 dX10_findsCross_4 (by decide) ?_
    refine V_goto 9 dX10_findsCross_5 (by decide) ?_
    refine V_lv [(0, .ref (ad 0)), (1, .int x1), (2, .int x2)] [0, 1, 2] rfl ?_
    exact v_X10_findsCross_9 hd hf
theorem k_X10_findsCross {l : Launch} {G : Gv} {ad : Nat → Nat} {d : Nat} {σ : St} {q : St} {x1 : Int32} {x2 : Int32} {x3 : Int32} (hd : 3 ≤ d) (hf : f_X10_findsCross σ x1 x2 x3 = some q) : K l G yX10_findsCross cX10_findsCross 8 none d 0 0 [.ref (ad 0), .int x1, .int x2, .int x3] (wM G ad σ) (pD none (wM G ad q)) := K_intro (by decide) (Nat.le_of_ble_eq_true rfl) (v_X10_findsCross hd hf)
def f_X10_takesCross_79 (bk10 : St → Int32 → Int32 → Int32 → Option St) (σ : St) (x1 : Int32) (x2 : Int32) (x3 : Int32) (s1 : Int32) (s2 : Int32) : Option St := ixo s1 7 (lt (sa σ 6 (upd (ga σ 6) (Int32.toNatClampNeg s1) s2)) fun σ1 => bk10 σ1 x1 x2 (x3 + 1))
set_option maxHeartbeats 4000000 in
set_option maxRecDepth 100000 in
theorem v_X10_takesCross_79 {l : Launch} {G : Gv} {ad : Nat → Nat} {d : Nat} {av0 : List Value} {w1 : va_W} {q : St} {bk10 : St → Int32 → Int32 → Int32 → Option St} {σ : St} {x1 : Int32} {x2 : Int32} {x3 : Int32} {s1 : Int32} {s2 : Int32} (hd : 0 ≤ d) (hb10 : ∀ (σ : St) (x1 : Int32) (x2 : Int32) (x3 : Int32), bk10 σ x1 x2 x3 = some q → VV l G yX10_takesCross cX10_takesCross 5 none d 0 0 av0 w1 (pD none (wM G ad q)) 0 0 (wM G ad σ) 10 [(0, .ref (ad 0)), (1, .int x1), (2, .int x2), (3, .int x3)] []) (hf : f_X10_takesCross_79 bk10 σ x1 x2 x3 s1 s2 = some q) : VV l G yX10_takesCross cX10_takesCross 5 none d 0 0 av0 w1 (pD none (wM G ad q)) 0 0 (wM G ad σ) 79 [(0, .ref (ad 0)), (1, .int x1), (2, .int x2), (3, .int x3)] [.int s2, .int s1, .ref (ad 4)] := by
  unfold f_X10_takesCross_79 at hf
  obtain ⟨hi, hf⟩ := ixo_some hf
  obtain ⟨σ1, eσ1, hf⟩ := lt_some hf
  refine V_iastore dX10_takesCross_79 4 rfl hi (wM G ad σ1) (by rw [eσ1]; rfl) ?_
  refine V_iinc (1) 3 [(0, .ref (ad 0)), (1, .int x1), (2, .int x2), (3, .int (x3 + 1))] [1, 2, 3, 0] dX10_takesCross_80 rfl (by decide) (by decide) rfl ?_
  refine V_goto 10 dX10_takesCross_83 (by decide) ?_
  exact hb10 _ _ _ _ hf
def f_X10_takesCross_49 (bk10 : St → Int32 → Int32 → Int32 → Option St) (σ : St) (x1 : Int32) (x2 : Int32) (x3 : Int32) (s0 : Int32) (s1 : Int32) : Option St := ixo (s0 + s1) 49 (if (ga σ 8 (Int32.toNatClampNeg (s0 + s1))) = (-1) then (f_X10_takesCross_79 bk10 σ x1 x2 x3 x3 x2) else (ixo (s0 + s1) 49 (f_X10_takesCross_79 bk10 σ x1 x2 x3 x3 (ga σ 8 (Int32.toNatClampNeg (s0 + s1))))))
set_option maxHeartbeats 4000000 in
set_option maxRecDepth 100000 in
theorem v_X10_takesCross_49 {l : Launch} {G : Gv} {ad : Nat → Nat} {d : Nat} {av0 : List Value} {w1 : va_W} {q : St} {bk10 : St → Int32 → Int32 → Int32 → Option St} {σ : St} {x1 : Int32} {x2 : Int32} {x3 : Int32} {s0 : Int32} {s1 : Int32} (hd : 0 ≤ d) (hb10 : ∀ (σ : St) (x1 : Int32) (x2 : Int32) (x3 : Int32), bk10 σ x1 x2 x3 = some q → VV l G yX10_takesCross cX10_takesCross 5 none d 0 0 av0 w1 (pD none (wM G ad q)) 0 0 (wM G ad σ) 10 [(0, .ref (ad 0)), (1, .int x1), (2, .int x2), (3, .int x3)] []) (hf : f_X10_takesCross_49 bk10 σ x1 x2 x3 s0 s1 = some q) : VV l G yX10_takesCross cX10_takesCross 5 none d 0 0 av0 w1 (pD none (wM G ad q)) 0 0 (wM G ad σ) 49 [(0, .ref (ad 0)), (1, .int x1), (2, .int x2), (3, .int x3)] [.int s1, .int s0] := by
  unfold f_X10_takesCross_49 at hf
  refine V_iadd dX10_takesCross_49 ?_
  refine V_istore [(0, .ref (ad 0)), (1, .int x1), (2, .int x2), (3, .int x3), (4, .int (s0 + s1))] [1, 2, 3, 4, 0] dX10_takesCross_50 (by decide) rfl ?_
  refine V_aload_n 0 rfl dX10_takesCross_52 rfl ?_
  refine V_get (k := 6) RC_X10 fl_X10_19 rfl (by decide) dX10_takesCross_53 0 rfl rfl ?_
  refine V_iload_n 3 rfl dX10_takesCross_56 rfl ?_
  refine V_aload_n 0 rfl dX10_takesCross_57 rfl ?_
  refine V_get (k := 8) RC_X10 fl_X10_22 rfl (by decide) dX10_takesCross_58 0 rfl rfl ?_
  refine V_iload 4 rfl dX10_takesCross_61 ?_
  obtain ⟨hi, hf⟩ := ixo_some hf
  refine V_iaload dX10_takesCross_63 5 rfl hi ?_
  refine V_iconst (-1) dX10_takesCross_64 (by decide) ?_
  refine V_icmp_ne 72 dX10_takesCross_65 (by decide) (fun c1 => ?_) (fun c1 => ?_)
  · replace hf := (if_neg c1).symm.trans hf
    refine V_aload_n 0 rfl dX10_takesCross_72 rfl ?_
    refine V_get (k := 8) RC_X10 fl_X10_22 rfl (by decide) dX10_takesCross_73 0 rfl rfl ?_
    refine V_iload 4 rfl dX10_takesCross_76 ?_
    obtain ⟨hi, hf⟩ := ixo_some hf
    refine V_iaload dX10_takesCross_78 5 rfl hi ?_
    refine V_lv [(0, .ref (ad 0)), (1, .int x1), (2, .int x2), (3, .int x3)] [0, 1, 2, 3] rfl ?_
    exact v_X10_takesCross_79 hd hb10 hf
  · replace hf := (if_pos c1).symm.trans hf
    refine V_iload_n 2 rfl dX10_takesCross_68 rfl ?_
    refine V_goto 79 dX10_takesCross_69 (by decide) ?_
    refine V_lv [(0, .ref (ad 0)), (1, .int x1), (2, .int x2), (3, .int x3)] [0, 1, 2, 3] rfl ?_
    exact v_X10_takesCross_79 hd hb10 hf
def f_X10_takesCross_33 (bk10 : St → Int32 → Int32 → Int32 → Option St) (σ : St) (x1 : Int32) (x2 : Int32) (x3 : Int32) (s0 : Int32) (s1 : Int32) (s2 : Int32) : Option St := if x1 = 0 then (f_X10_takesCross_49 bk10 σ x1 x2 x3 ((s0 * (s1 + s2)) + (gi σ 11)) (0)) else (f_X10_takesCross_49 bk10 σ x1 x2 x3 ((s0 * (s1 + s2)) + (gi σ 11)) x3)
set_option maxHeartbeats 4000000 in
set_option maxRecDepth 100000 in
theorem v_X10_takesCross_33 {l : Launch} {G : Gv} {ad : Nat → Nat} {d : Nat} {av0 : List Value} {w1 : va_W} {q : St} {bk10 : St → Int32 → Int32 → Int32 → Option St} {σ : St} {x1 : Int32} {x2 : Int32} {x3 : Int32} {s0 : Int32} {s1 : Int32} {s2 : Int32} (hd : 0 ≤ d) (hb10 : ∀ (σ : St) (x1 : Int32) (x2 : Int32) (x3 : Int32), bk10 σ x1 x2 x3 = some q → VV l G yX10_takesCross cX10_takesCross 5 none d 0 0 av0 w1 (pD none (wM G ad q)) 0 0 (wM G ad σ) 10 [(0, .ref (ad 0)), (1, .int x1), (2, .int x2), (3, .int x3)] []) (hf : f_X10_takesCross_33 bk10 σ x1 x2 x3 s0 s1 s2 = some q) : VV l G yX10_takesCross cX10_takesCross 5 none d 0 0 av0 w1 (pD none (wM G ad q)) 0 0 (wM G ad σ) 33 [(0, .ref (ad 0)), (1, .int x1), (2, .int x2), (3, .int x3)] [.int s2, .int s1, .int s0] := by
  unfold f_X10_takesCross_33 at hf
  refine V_iadd dX10_takesCross_33 ?_
  refine V_imul dX10_takesCross_34 ?_
  refine V_aload_n 0 rfl dX10_takesCross_35 rfl ?_
  refine V_get (k := 11) RC_X10 fl_X10_113 rfl (by decide) dX10_takesCross_36 0 rfl rfl ?_
  refine V_iadd dX10_takesCross_39 ?_
  refine V_iload_n 1 rfl dX10_takesCross_40 rfl ?_
  refine V_if_ne 48 dX10_takesCross_41 (by decide) (fun c1 => ?_) (fun c1 => ?_)
  · replace hf := (if_neg c1).symm.trans hf
    refine V_iload_n 3 rfl dX10_takesCross_48 rfl ?_
    exact v_X10_takesCross_49 hd hb10 hf
  · replace hf := (if_pos c1).symm.trans hf
    refine V_iconst 0 dX10_takesCross_44 (by decide) ?_
    refine V_goto 49 dX10_takesCross_45 (by decide) ?_
    exact v_X10_takesCross_49 hd hb10 hf
def f_X10_takesCross_10 : Nat → St → Int32 → Int32 → Int32 → Option St
  | 0, _, _, _, _ => none
  | n + 1, σ, x1, x2, x3 => if (gi σ 12) ≤ x3 then (some σ) else (if x1 = 0 then (f_X10_takesCross_33 (f_X10_takesCross_10 n) σ x1 x2 x3 (7) (gi σ 10) x3) else (f_X10_takesCross_33 (f_X10_takesCross_10 n) σ x1 x2 x3 (7) (gi σ 10) (0)))
set_option maxHeartbeats 4000000 in
set_option maxRecDepth 100000 in
theorem v_X10_takesCross_10 {l : Launch} {G : Gv} {ad : Nat → Nat} {d : Nat} {av0 : List Value} {w1 : va_W} {q : St} (hd : 0 ≤ d) : ∀ (n : Nat) (σ : St) (x1 : Int32) (x2 : Int32) (x3 : Int32), f_X10_takesCross_10 n σ x1 x2 x3 = some q → VV l G yX10_takesCross cX10_takesCross 5 none d 0 0 av0 w1 (pD none (wM G ad q)) 0 0 (wM G ad σ) 10 [(0, .ref (ad 0)), (1, .int x1), (2, .int x2), (3, .int x3)] [] := by
  intro n
  induction n with
  | zero =>
    intro σ x1 x2 x3 hf
    cases hf
  | succ n ih =>
    intro σ x1 x2 x3 hf
    rw [f_X10_takesCross_10] at hf
    refine V_iload_n 3 rfl dX10_takesCross_10 rfl ?_
    refine V_aload_n 0 rfl dX10_takesCross_11 rfl ?_
    refine V_get (k := 12) RC_X10 fl_X10_119 rfl (by decide) dX10_takesCross_12 0 rfl rfl ?_
    refine V_icmp_ge 86 dX10_takesCross_15 (by decide) (fun c1 => ?_) (fun c1 => ?_)
    · replace hf := (if_pos c1).symm.trans hf
      cases hf
      exact V_vret rfl dX10_takesCross_86 ⟨rfl, rfl⟩
    · replace hf := (if_neg c1).symm.trans hf
      refine V_bipush 7 dX10_takesCross_18 (by decide) ?_
      refine V_aload_n 0 rfl dX10_takesCross_20 rfl ?_
      refine V_get (k := 10) RC_X10 fl_X10_110 rfl (by decide) dX10_takesCross_21 0 rfl rfl ?_
      refine V_iload_n 1 rfl dX10_takesCross_24 rfl ?_
      refine V_if_ne 32 dX10_takesCross_25 (by decide) (fun c2 => ?_) (fun c2 => ?_)
      · replace hf := (if_neg c2).symm.trans hf
        refine V_iconst 0 dX10_takesCross_32 (by decide) ?_
        exact v_X10_takesCross_33 hd ih hf
      · replace hf := (if_pos c2).symm.trans hf
        refine V_iload_n 3 rfl dX10_takesCross_28 rfl ?_
        refine V_goto 33 dX10_takesCross_29 (by decide) ?_
        exact v_X10_takesCross_33 hd ih hf
def f_X10_takesCross (σ : St) (x1 : Int32) (x2 : Int32) : Option St := lt (si σ 7 (gi σ 12)) fun σ1 => f_X10_takesCross_10 FU σ1 x1 x2 (0)
set_option maxHeartbeats 4000000 in
set_option maxRecDepth 100000 in
theorem v_X10_takesCross {l : Launch} {G : Gv} {ad : Nat → Nat} {d : Nat} {av0 : List Value} {w1 : va_W} {q : St} {σ : St} {x1 : Int32} {x2 : Int32} (hd : 0 ≤ d) (hf : f_X10_takesCross σ x1 x2 = some q) : VV l G yX10_takesCross cX10_takesCross 5 none d 0 0 av0 w1 (pD none (wM G ad q)) 0 0 (wM G ad σ) 0 [(0, .ref (ad 0)), (1, .int x1), (2, .int x2)] [] := by
  unfold f_X10_takesCross at hf
  refine V_aload_n 0 rfl dX10_takesCross_0 rfl ?_
  refine V_aload_n 0 rfl dX10_takesCross_1 rfl ?_
  refine V_get (k := 12) RC_X10 fl_X10_119 rfl (by decide) dX10_takesCross_2 0 rfl rfl ?_
  obtain ⟨σ1, eσ1, hf⟩ := lt_some hf
  refine V_put (k := 7) RC_X10 fl_X10_78 rfl (by decide) rfl dX10_takesCross_5 0 rfl (Nat.le_of_ble_eq_true rfl) rfl rfl (wM G ad σ1) (by rw [eσ1]; rfl) ?_
  refine V_iconst 0 dX10_takesCross_8 (by decide) ?_
  refine V_istore_n [(0, .ref (ad 0)), (1, .int x1), (2, .int x2), (3, .int (0))] [1, 2, 3, 0] dX10_takesCross_9 rfl (by decide) rfl ?_
  exact v_X10_takesCross_10 hd _ _ _ _ _ hf
theorem k_X10_takesCross {l : Launch} {G : Gv} {ad : Nat → Nat} {d : Nat} {σ : St} {q : St} {x1 : Int32} {x2 : Int32} (hd : 0 ≤ d) (hf : f_X10_takesCross σ x1 x2 = some q) : K l G yX10_takesCross cX10_takesCross 5 none d 0 0 [.ref (ad 0), .int x1, .int x2] (wM G ad σ) (pD none (wM G ad q)) := K_intro (by decide) (Nat.le_of_ble_eq_true rfl) (v_X10_takesCross hd hf)
def f_X10_crossOf_62 (σ : St) (x4 : Int32) : Option (Int32 × St) := if (gi σ 12) ≤ (1) then (some ((255), σ)) else (some (x4, σ))
set_option maxHeartbeats 4000000 in
set_option maxRecDepth 100000 in
theorem v_X10_crossOf_62 {l : Launch} {G : Gv} {ad : Nat → Nat} {d : Nat} {av0 : List Value} {w1 : va_W} {q : (Int32 × St)} {σ : St} {x4 : Int32} (hd : 4 ≤ d) (hf : f_X10_crossOf_62 σ x4 = some q) : VV l G yX10_crossOf cX10_crossOf 6 (some .int) d 0 0 av0 w1 (pD (some (.int q.1)) (wM G ad q.2)) 0 0 (wM G ad σ) 62 [(0, .ref (ad 0)), (4, .int x4)] [] := by
  unfold f_X10_crossOf_62 at hf
  refine V_aload_n 0 rfl dX10_crossOf_62 rfl ?_
  refine V_get (k := 12) RC_X10 fl_X10_119 rfl (by decide) dX10_crossOf_63 0 rfl rfl ?_
  refine V_iconst 1 dX10_crossOf_66 (by decide) ?_
  refine V_icmp_le 75 dX10_crossOf_67 (by decide) (fun c1 => ?_) (fun c1 => ?_)
  · replace hf := (if_pos c1).symm.trans hf
    refine V_sipush 255 dX10_crossOf_75 (by decide) ?_
    cases hf
    exact V_iret rfl dX10_crossOf_78 ⟨rfl, rfl⟩
  · replace hf := (if_neg c1).symm.trans hf
    refine V_iload 1 rfl dX10_crossOf_70 ?_
    refine V_goto 78 dX10_crossOf_72 (by decide) ?_
    cases hf
    exact V_iret rfl dX10_crossOf_78 ⟨rfl, rfl⟩
def f_X10_crossOf_53 (bk13 : St → Int32 → Int32 → Int32 → Option (Int32 × St)) (σ : St) (x3 : Int32) (x5 : Int32) (s0 : Int32) (s1 : Int32) : Option (Int32 × St) := bk13 σ x3 (s0 ||| s1) (x5 + 1)
set_option maxHeartbeats 4000000 in
set_option maxRecDepth 100000 in
theorem v_X10_crossOf_53 {l : Launch} {G : Gv} {ad : Nat → Nat} {d : Nat} {av0 : List Value} {w1 : va_W} {q : (Int32 × St)} {bk13 : St → Int32 → Int32 → Int32 → Option (Int32 × St)} {σ : St} {x3 : Int32} {x5 : Int32} {s0 : Int32} {s1 : Int32} (hd : 4 ≤ d) (hb13 : ∀ (σ : St) (x3 : Int32) (x4 : Int32) (x5 : Int32), bk13 σ x3 x4 x5 = some q → VV l G yX10_crossOf cX10_crossOf 6 (some .int) d 0 0 av0 w1 (pD (some (.int q.1)) (wM G ad q.2)) 0 0 (wM G ad σ) 13 [(0, .ref (ad 0)), (3, .int x3), (4, .int x4), (5, .int x5)] []) (hf : f_X10_crossOf_53 bk13 σ x3 x5 s0 s1 = some q) : VV l G yX10_crossOf cX10_crossOf 6 (some .int) d 0 0 av0 w1 (pD (some (.int q.1)) (wM G ad q.2)) 0 0 (wM G ad σ) 53 [(0, .ref (ad 0)), (3, .int x3), (5, .int x5)] [.int s1, .int s0] := by
  unfold f_X10_crossOf_53 at hf
  refine V_ior dX10_crossOf_53 ?_
  refine V_istore [(0, .ref (ad 0)), (3, .int x3), (4, .int (s0 ||| s1)), (5, .int x5)] [1, 2, 0, 3] dX10_crossOf_54 (by decide) rfl ?_
  refine V_iinc (1) 3 [(0, .ref (ad 0)), (3, .int x3), (4, .int (s0 ||| s1)), (5, .int (x5 + 1))] [1, 2, 3, 0] dX10_crossOf_56 rfl (by decide) (by decide) rfl ?_
  refine V_goto 13 dX10_crossOf_59 (by decide) ?_
  exact hb13 _ _ _ _ hf
def f_X10_crossOf_13 : Nat → St → Int32 → Int32 → Int32 → Option (Int32 × St)
  | 0, _, _, _, _ => none
  | n + 1, σ, x3, x4, x5 => if (8) ≤ x5 then (f_X10_crossOf_62 σ x4) else (if (gi σ 12) ≤ (1) then (f_X10_crossOf_62 σ x4) else (bno (f_X10_takesCross σ x3 x5) fun r1 => bno (f_X10_foundAt r1) fun r2 => if r2 = (-1) then (f_X10_crossOf_53 (f_X10_crossOf_13 n) r1 x3 x5 x4 (0)) else (f_X10_crossOf_53 (f_X10_crossOf_13 n) r1 x3 x5 x4 ((1) <<< (x5 &&& 31)))))
set_option maxHeartbeats 4000000 in
set_option maxRecDepth 100000 in
theorem v_X10_crossOf_13 {l : Launch} {G : Gv} {ad : Nat → Nat} {d : Nat} {av0 : List Value} {w1 : va_W} {q : (Int32 × St)} (hd : 4 ≤ d) : ∀ (n : Nat) (σ : St) (x3 : Int32) (x4 : Int32) (x5 : Int32), f_X10_crossOf_13 n σ x3 x4 x5 = some q → VV l G yX10_crossOf cX10_crossOf 6 (some .int) d 0 0 av0 w1 (pD (some (.int q.1)) (wM G ad q.2)) 0 0 (wM G ad σ) 13 [(0, .ref (ad 0)), (3, .int x3), (4, .int x4), (5, .int x5)] [] := by
  intro n
  induction n with
  | zero =>
    intro σ x3 x4 x5 hf
    cases hf
  | succ n ih =>
    intro σ x3 x4 x5 hf
    rw [f_X10_crossOf_13] at hf
    refine V_iload 3 rfl dX10_crossOf_13 ?_
    refine V_bipush 8 dX10_crossOf_15 (by decide) ?_
    refine V_icmp_ge 62 dX10_crossOf_17 (by decide) (fun c1 => ?_) (fun c1 => ?_)
    · replace hf := (if_pos c1).symm.trans hf
      refine V_lv [(0, .ref (ad 0)), (4, .int x4)] [0, 2] rfl ?_
      exact v_X10_crossOf_62 hd hf
    · replace hf := (if_neg c1).symm.trans hf
      refine V_aload_n 0 rfl dX10_crossOf_20 rfl ?_
      refine V_get (k := 12) RC_X10 fl_X10_119 rfl (by decide) dX10_crossOf_21 0 rfl rfl ?_
      refine V_iconst 1 dX10_crossOf_24 (by decide) ?_
      refine V_icmp_le 62 dX10_crossOf_25 (by decide) (fun c2 => ?_) (fun c2 => ?_)
      · replace hf := (if_pos c2).symm.trans hf
        refine V_lv [(0, .ref (ad 0)), (4, .int x4)] [0, 2] rfl ?_
        exact v_X10_crossOf_62 hd hf
      · replace hf := (if_neg c2).symm.trans hf
        refine V_aload_n 0 rfl dX10_crossOf_28 rfl ?_
        refine V_iload_n 1 rfl dX10_crossOf_29 rfl ?_
        refine V_iload 3 rfl dX10_crossOf_30 ?_
        obtain ⟨r1, hr1, hf⟩ := bno_some hf
        refine V_cV (As := [.int x3, .int x5]) (rest := []) (k_X10_takesCross (d := 0) (Nat.le_refl _) hr1) LB_X10_takesCross lk_X10_126 (by omega) dX10_crossOf_32 rfl rfl (Nat.le_of_ble_eq_true rfl) (Nat.le_refl _) (Nat.le_refl _) 0 rfl ⟨rfl, rfl⟩ [] rfl ?_
        refine V_iload 2 rfl dX10_crossOf_35 ?_
        refine V_aload_n 0 rfl dX10_crossOf_37 rfl ?_
        obtain ⟨r2, hr2, hf⟩ := bno_some hf
        refine V_cV (As := []) (rest := [.int x4]) (k_X10_foundAt (d := 1) (Nat.le_refl _) hr2) LB_X10_foundAt lk_X10_91 (by omega) dX10_crossOf_38 rfl rfl (Nat.le_of_ble_eq_true rfl) (Nat.le_refl _) (Nat.le_refl _) 0 rfl ⟨rfl, rfl⟩ [.int r2, .int x4] rfl ?_
        refine V_iconst (-1) dX10_crossOf_41 (by decide) ?_
        refine V_icmp_ne 49 dX10_crossOf_42 (by decide) (fun c3 => ?_) (fun c3 => ?_)
        · replace hf := (if_neg c3).symm.trans hf
          refine V_iconst 1 dX10_crossOf_49 (by decide) ?_
          refine V_iload 3 rfl dX10_crossOf_50 ?_
          refine V_ishl dX10_crossOf_52 ?_
          refine V_lv [(0, .ref (ad 0)), (3, .int x3), (5, .int x5)] [0, 1, 3] rfl ?_
          exact v_X10_crossOf_53 hd ih hf
        · replace hf := (if_pos c3).symm.trans hf
          refine V_iconst 0 dX10_crossOf_45 (by decide) ?_
          refine V_goto 53 dX10_crossOf_46 (by decide) ?_
          refine V_lv [(0, .ref (ad 0)), (3, .int x3), (5, .int x5)] [0, 1, 3] rfl ?_
          exact v_X10_crossOf_53 hd ih hf
def f_X10_crossOf (σ : St) (x1 : Int32) (x2 : Int32) (x3 : Int32) : Option (Int32 × St) := bno (f_X10_findsCross σ x1 x2 x3) fun r1 => f_X10_crossOf_13 FU r1 x3 (0) (0)
set_option maxHeartbeats 4000000 in
set_option maxRecDepth 100000 in
theorem v_X10_crossOf {l : Launch} {G : Gv} {ad : Nat → Nat} {d : Nat} {av0 : List Value} {w1 : va_W} {q : (Int32 × St)} {σ : St} {x1 : Int32} {x2 : Int32} {x3 : Int32} (hd : 4 ≤ d) (hf : f_X10_crossOf σ x1 x2 x3 = some q) : VV l G yX10_crossOf cX10_crossOf 6 (some .int) d 0 0 av0 w1 (pD (some (.int q.1)) (wM G ad q.2)) 0 0 (wM G ad σ) 0 [(0, .ref (ad 0)), (1, .int x1), (2, .int x2), (3, .int x3)] [] := by
  unfold f_X10_crossOf at hf
  refine V_aload_n 0 rfl dX10_crossOf_0 rfl ?_
  refine V_iload_n 1 rfl dX10_crossOf_1 rfl ?_
  refine V_iload_n 2 rfl dX10_crossOf_2 rfl ?_
  refine V_iload_n 3 rfl dX10_crossOf_3 rfl ?_
  obtain ⟨r1, hr1, hf⟩ := bno_some hf
  refine V_cV (As := [.int x1, .int x2, .int x3]) (rest := []) (k_X10_findsCross (d := 3) (Nat.le_refl _) hr1) LB_X10_findsCross lk_X10_122 (by omega) dX10_crossOf_4 rfl rfl (Nat.le_of_ble_eq_true rfl) (Nat.le_refl _) (Nat.le_refl _) 0 rfl ⟨rfl, rfl⟩ [] rfl ?_
  refine V_iconst 0 dX10_crossOf_7 (by decide) ?_
  refine V_istore [(0, .ref (ad 0)), (1, .int x1), (2, .int x2), (3, .int x3), (4, .int (0))] [1, 2, 3, 4, 0] dX10_crossOf_8 (by decide) rfl ?_
  refine V_iconst 0 dX10_crossOf_10 (by decide) ?_
  refine V_istore [(0, .ref (ad 0)), (1, .int x1), (2, .int x2), (3, .int x3), (4, .int (0)), (5, .int (0))] [1, 2, 3, 4, 5, 0] dX10_crossOf_11 (by decide) rfl ?_
  refine V_lv [(0, .ref (ad 0)), (3, .int x3), (4, .int (0)), (5, .int (0))] [0, 3, 4, 5] rfl ?_
  exact v_X10_crossOf_13 hd _ _ _ _ _ hf
theorem k_X10_crossOf {l : Launch} {G : Gv} {ad : Nat → Nat} {d : Nat} {σ : St} {q : (Int32 × St)} {x1 : Int32} {x2 : Int32} {x3 : Int32} (hd : 4 ≤ d) (hf : f_X10_crossOf σ x1 x2 x3 = some q) : K l G yX10_crossOf cX10_crossOf 6 (some .int) d 0 0 [.ref (ad 0), .int x1, .int x2, .int x3] (wM G ad σ) (pD (some (.int q.1)) (wM G ad q.2)) := K_intro (by decide) (Nat.le_of_ble_eq_true rfl) (v_X10_crossOf hd hf)
def f_X10_crossSet (σ : St) (x1 : Int32) (x2 : Int32) (x3 : Int32) : Option (Int32 × St) := bno (f_X10_isSquare x1 x2) fun r1 => bno (f_X10_in (Int32.toInt64 x3) (0) (1)) fun r2 => bno (f_X10_goes σ (b2i r1) (b2i r2) (1)) fun r3 => if (b2i r3.1) = 0 then (some ((0), r3.2)) else (bno (f_X10_laysNow r3.2) fun r4 => bno (f_X10_hasTile r4 x1 x2) fun r5 => if (b2i r5) = 0 then (bno (f_X10_crossOf r4 x1 x2 x3) fun r6 => some (r6.1, r6.2)) else (some ((0), r4)))
set_option maxHeartbeats 4000000 in
set_option maxRecDepth 100000 in
theorem v_X10_crossSet {l : Launch} {G : Gv} {ad : Nat → Nat} {d : Nat} {av0 : List Value} {w1 : va_W} {q : (Int32 × St)} {σ : St} {x1 : Int32} {x2 : Int32} {x3 : Int32} (hd : 5 ≤ d) (hf : f_X10_crossSet σ x1 x2 x3 = some q) : VV l G yX10_crossSet cX10_crossSet 4 (some .int) d 0 0 av0 w1 (pD (some (.int q.1)) (wM G ad q.2)) 0 0 (wM G ad σ) 0 [(0, .ref (ad 0)), (1, .int x1), (2, .int x2), (3, .int x3)] [] := by
  unfold f_X10_crossSet at hf
  refine V_aload_n 0 rfl dX10_crossSet_0 rfl ?_
  refine V_iload_n 1 rfl dX10_crossSet_1 rfl ?_
  refine V_iload_n 2 rfl dX10_crossSet_2 rfl ?_
  obtain ⟨r1, hr1, hf⟩ := bno_some hf
  refine V_cS (As := [.int x1, .int x2]) (rest := [.ref (ad 0)]) (k_X10_isSquare (d := 1) (Nat.le_refl _) hr1) LB_X10_isSquare lk_X10_101 (by omega) dX10_crossSet_3 rfl rfl (Nat.le_of_ble_eq_true rfl) (Nat.le_refl _) (Nat.le_refl _) [.int (b2i r1), .ref (ad 0)] rfl ?_
  refine V_iload_n 3 rfl dX10_crossSet_6 rfl ?_
  refine V_i2l dX10_crossSet_7 ?_
  refine V_lconst 0 dX10_crossSet_8 (by decide) ?_
  refine V_lconst 1 dX10_crossSet_9 (by decide) ?_
  obtain ⟨r2, hr2, hf⟩ := bno_some hf
  refine V_cS (As := [.long (Int32.toInt64 x3), .long (0), .long (1)]) (rest := [.int (b2i r1), .ref (ad 0)]) (k_X10_in (d := 0) (Nat.le_refl _) hr2) LB_X10_in lk_X10_61 (by omega) dX10_crossSet_10 rfl rfl (Nat.le_of_ble_eq_true rfl) (Nat.le_refl _) (Nat.le_refl _) [.int (b2i r2), .int (b2i r1), .ref (ad 0)] rfl ?_
  refine V_iconst 1 dX10_crossSet_13 (by decide) ?_
  obtain ⟨r3, hr3, hf⟩ := bno_some hf
  refine V_cV (As := [.int (b2i r1), .int (b2i r2), .int (1)]) (rest := []) (k_X10_goes (d := 0) (Nat.le_refl _) hr3) LB_X10_goes lk_X10_74 (by omega) dX10_crossSet_14 rfl rfl (Nat.le_of_ble_eq_true rfl) (Nat.le_refl _) (Nat.le_refl _) 0 rfl ⟨rfl, rfl⟩ [.int (b2i r3.1)] rfl ?_
  refine V_if_ne 22 dX10_crossSet_17 (by decide) (fun c1 => ?_) (fun c1 => ?_)
  · replace hf := (if_neg c1).symm.trans hf
    refine V_aload_n 0 rfl dX10_crossSet_22 rfl ?_
    obtain ⟨r4, hr4, hf⟩ := bno_some hf
    refine V_cV (As := []) (rest := []) (k_X10_laysNow (d := 0) (Nat.le_refl _) hr4) LB_X10_laysNow lk_X10_130 (by omega) dX10_crossSet_23 rfl rfl (Nat.le_of_ble_eq_true rfl) (Nat.le_refl _) (Nat.le_refl _) 0 rfl ⟨rfl, rfl⟩ [] rfl ?_
    refine V_aload_n 0 rfl dX10_crossSet_26 rfl ?_
    refine V_iload_n 1 rfl dX10_crossSet_27 rfl ?_
    refine V_iload_n 2 rfl dX10_crossSet_28 rfl ?_
    obtain ⟨r5, hr5, hf⟩ := bno_some hf
    refine V_cV (As := [.int x1, .int x2]) (rest := []) (k_X10_hasTile (d := 2) (Nat.le_refl _) hr5) LB_X10_hasTile lk_X10_116 (by omega) dX10_crossSet_29 rfl rfl (Nat.le_of_ble_eq_true rfl) (Nat.le_refl _) (Nat.le_refl _) 0 rfl ⟨rfl, rfl⟩ [.int (b2i r5)] rfl ?_
    refine V_if_eq 39 dX10_crossSet_32 (by decide) (fun c2 => ?_) (fun c2 => ?_)
    · replace hf := (if_pos c2).symm.trans hf
      refine V_aload_n 0 rfl dX10_crossSet_39 rfl ?_
      refine V_iload_n 1 rfl dX10_crossSet_40 rfl ?_
      refine V_iload_n 2 rfl dX10_crossSet_41 rfl ?_
      refine V_iload_n 3 rfl dX10_crossSet_42 rfl ?_
      obtain ⟨r6, hr6, hf⟩ := bno_some hf
      refine V_cV (As := [.int x1, .int x2, .int x3]) (rest := []) (k_X10_crossOf (d := 4) (Nat.le_refl _) hr6) LB_X10_crossOf lk_X10_133 (by omega) dX10_crossSet_43 rfl rfl (Nat.le_of_ble_eq_true rfl) (Nat.le_refl _) (Nat.le_refl _) 0 rfl ⟨rfl, rfl⟩ [.int r6.1] rfl ?_
      cases hf
      exact V_iret rfl dX10_crossSet_46 ⟨rfl, rfl⟩
    · replace hf := (if_neg c2).symm.trans hf
      refine V_iconst 0 dX10_crossSet_35 (by decide) ?_
      refine V_goto 46 dX10_crossSet_36 (by decide) ?_
      cases hf
      exact V_iret rfl dX10_crossSet_46 ⟨rfl, rfl⟩
  · replace hf := (if_pos c1).symm.trans hf
    refine V_iconst 0 dX10_crossSet_20 (by decide) ?_
    cases hf
    exact V_iret rfl dX10_crossSet_21 ⟨rfl, rfl⟩
theorem k_X10_crossSet {l : Launch} {G : Gv} {ad : Nat → Nat} {d : Nat} {σ : St} {q : (Int32 × St)} {x1 : Int32} {x2 : Int32} {x3 : Int32} (hd : 5 ≤ d) (hf : f_X10_crossSet σ x1 x2 x3 = some q) : K l G yX10_crossSet cX10_crossSet 4 (some .int) d 0 0 [.ref (ad 0), .int x1, .int x2, .int x3] (wM G ad σ) (pD (some (.int q.1)) (wM G ad q.2)) := K_intro (by decide) (Nat.le_of_ble_eq_true rfl) (v_X10_crossSet hd hf)
def f_X10_isAnchorNow_76 (σ : St) : Option Bool := some true
set_option maxHeartbeats 4000000 in
set_option maxRecDepth 100000 in
theorem v_X10_isAnchorNow_76 {l : Launch} {G : Gv} {ad : Nat → Nat} {d : Nat} {av0 : List Value} {w1 : va_W} {q : Bool} {σ : St} (hd : 3 ≤ d) (hf : f_X10_isAnchorNow_76 σ = some q) : VV l G yX10_isAnchorNow cX10_isAnchorNow 3 (some .boolean) d 0 0 av0 w1 (pD (some (.int (b2i q))) (wM G ad σ)) 0 0 (wM G ad σ) 76 [] [] := by
  unfold f_X10_isAnchorNow_76 at hf
  refine V_iconst 1 dX10_isAnchorNow_76 (by decide) ?_
  refine V_goto 81 dX10_isAnchorNow_77 (by decide) ?_
  cases hf
  exact V_zret (ty := .boolean) rfl rfl dX10_isAnchorNow_81 ⟨rfl, rfl⟩
def f_X10_isAnchorNow (σ : St) (x1 : Int32) (x2 : Int32) : Option Bool := bno (f_X10_isBare σ) fun r1 => if (b2i r1) = 0 then (bno (f_X10_hasTile σ x1 x2) fun r2 => if (b2i r2) = 0 then (bno (f_X10_hasTile σ (x1 - (1)) x2) fun r3 => if (b2i r3) = 0 then (bno (f_X10_hasTile σ (x1 + (1)) x2) fun r4 => if (b2i r4) = 0 then (bno (f_X10_hasTile σ x1 (x2 - (1))) fun r5 => if (b2i r5) = 0 then (bno (f_X10_hasTile σ x1 (x2 + (1))) fun r6 => if (b2i r6) = 0 then (some false) else (f_X10_isAnchorNow_76 σ)) else (f_X10_isAnchorNow_76 σ)) else (f_X10_isAnchorNow_76 σ)) else (f_X10_isAnchorNow_76 σ)) else (some false)) else (if x1 = (3) then (if x2 = (3) then (some true) else (some false)) else (some false))
set_option maxHeartbeats 4000000 in
set_option maxRecDepth 100000 in
theorem v_X10_isAnchorNow {l : Launch} {G : Gv} {ad : Nat → Nat} {d : Nat} {av0 : List Value} {w1 : va_W} {q : Bool} {σ : St} {x1 : Int32} {x2 : Int32} (hd : 3 ≤ d) (hf : f_X10_isAnchorNow σ x1 x2 = some q) : VV l G yX10_isAnchorNow cX10_isAnchorNow 3 (some .boolean) d 0 0 av0 w1 (pD (some (.int (b2i q))) (wM G ad σ)) 0 0 (wM G ad σ) 0 [(0, .ref (ad 0)), (1, .int x1), (2, .int x2)] [] := by
  unfold f_X10_isAnchorNow at hf
  refine V_aload_n 0 rfl dX10_isAnchorNow_0 rfl ?_
  obtain ⟨r1, hr1, hf⟩ := bno_some hf
  refine V_cV (As := []) (rest := []) (k_X10_isBare (d := 0) (Nat.le_refl _) hr1) LB_X10_isBare lk_X10_137 (by omega) dX10_isAnchorNow_1 rfl rfl (Nat.le_of_ble_eq_true rfl) (Nat.le_refl _) (Nat.le_refl _) 0 rfl ⟨rfl, rfl⟩ [.int (b2i r1)] rfl ?_
  refine V_if_eq 23 dX10_isAnchorNow_4 (by decide) (fun c1 => ?_) (fun c1 => ?_)
  · replace hf := (if_pos c1).symm.trans hf
    refine V_aload_n 0 rfl dX10_isAnchorNow_23 rfl ?_
    refine V_iload_n 1 rfl dX10_isAnchorNow_24 rfl ?_
    refine V_iload_n 2 rfl dX10_isAnchorNow_25 rfl ?_
    obtain ⟨r2, hr2, hf⟩ := bno_some hf
    refine V_cV (As := [.int x1, .int x2]) (rest := []) (k_X10_hasTile (d := 2) (Nat.le_refl _) hr2) LB_X10_hasTile lk_X10_116 (by omega) dX10_isAnchorNow_26 rfl rfl (Nat.le_of_ble_eq_true rfl) (Nat.le_refl _) (Nat.le_refl _) 0 rfl ⟨rfl, rfl⟩ [.int (b2i r2)] rfl ?_
    refine V_if_ne 80 dX10_isAnchorNow_29 (by decide) (fun c2 => ?_) (fun c2 => ?_)
    · replace hf := (if_neg c2).symm.trans hf
      refine V_iconst 0 dX10_isAnchorNow_80 (by decide) ?_
      cases hf
      exact V_zret (ty := .boolean) rfl rfl dX10_isAnchorNow_81 ⟨rfl, rfl⟩
    · replace hf := (if_pos c2).symm.trans hf
      refine V_aload_n 0 rfl dX10_isAnchorNow_32 rfl ?_
      refine V_iload_n 1 rfl dX10_isAnchorNow_33 rfl ?_
      refine V_iconst 1 dX10_isAnchorNow_34 (by decide) ?_
      refine V_isub dX10_isAnchorNow_35 ?_
      refine V_iload_n 2 rfl dX10_isAnchorNow_36 rfl ?_
      obtain ⟨r3, hr3, hf⟩ := bno_some hf
      refine V_cV (As := [.int (x1 - (1)), .int x2]) (rest := []) (k_X10_hasTile (d := 2) (Nat.le_refl _) hr3) LB_X10_hasTile lk_X10_116 (by omega) dX10_isAnchorNow_37 rfl rfl (Nat.le_of_ble_eq_true rfl) (Nat.le_refl _) (Nat.le_refl _) 0 rfl ⟨rfl, rfl⟩ [.int (b2i r3)] rfl ?_
      refine V_if_ne 76 dX10_isAnchorNow_40 (by decide) (fun c3 => ?_) (fun c3 => ?_)
      · replace hf := (if_neg c3).symm.trans hf
        refine V_lv [] [] rfl ?_
        exact v_X10_isAnchorNow_76 hd hf
      · replace hf := (if_pos c3).symm.trans hf
        refine V_aload_n 0 rfl dX10_isAnchorNow_43 rfl ?_
        refine V_iload_n 1 rfl dX10_isAnchorNow_44 rfl ?_
        refine V_iconst 1 dX10_isAnchorNow_45 (by decide) ?_
        refine V_iadd dX10_isAnchorNow_46 ?_
        refine V_iload_n 2 rfl dX10_isAnchorNow_47 rfl ?_
        obtain ⟨r4, hr4, hf⟩ := bno_some hf
        refine V_cV (As := [.int (x1 + (1)), .int x2]) (rest := []) (k_X10_hasTile (d := 2) (Nat.le_refl _) hr4) LB_X10_hasTile lk_X10_116 (by omega) dX10_isAnchorNow_48 rfl rfl (Nat.le_of_ble_eq_true rfl) (Nat.le_refl _) (Nat.le_refl _) 0 rfl ⟨rfl, rfl⟩ [.int (b2i r4)] rfl ?_
        refine V_if_ne 76 dX10_isAnchorNow_51 (by decide) (fun c4 => ?_) (fun c4 => ?_)
        · replace hf := (if_neg c4).symm.trans hf
          refine V_lv [] [] rfl ?_
          exact v_X10_isAnchorNow_76 hd hf
        · replace hf := (if_pos c4).symm.trans hf
          refine V_aload_n 0 rfl dX10_isAnchorNow_54 rfl ?_
          refine V_iload_n 1 rfl dX10_isAnchorNow_55 rfl ?_
          refine V_iload_n 2 rfl dX10_isAnchorNow_56 rfl ?_
          refine V_iconst 1 dX10_isAnchorNow_57 (by decide) ?_
          refine V_isub dX10_isAnchorNow_58 ?_
          obtain ⟨r5, hr5, hf⟩ := bno_some hf
          refine V_cV (As := [.int x1, .int (x2 - (1))]) (rest := []) (k_X10_hasTile (d := 2) (Nat.le_refl _) hr5) LB_X10_hasTile lk_X10_116 (by omega) dX10_isAnchorNow_59 rfl rfl (Nat.le_of_ble_eq_true rfl) (Nat.le_refl _) (Nat.le_refl _) 0 rfl ⟨rfl, rfl⟩ [.int (b2i r5)] rfl ?_
          refine V_if_ne 76 dX10_isAnchorNow_62 (by decide) (fun c5 => ?_) (fun c5 => ?_)
          · replace hf := (if_neg c5).symm.trans hf
            refine V_lv [] [] rfl ?_
            exact v_X10_isAnchorNow_76 hd hf
          · replace hf := (if_pos c5).symm.trans hf
            refine V_aload_n 0 rfl dX10_isAnchorNow_65 rfl ?_
            refine V_iload_n 1 rfl dX10_isAnchorNow_66 rfl ?_
            refine V_iload_n 2 rfl dX10_isAnchorNow_67 rfl ?_
            refine V_iconst 1 dX10_isAnchorNow_68 (by decide) ?_
            refine V_iadd dX10_isAnchorNow_69 ?_
            obtain ⟨r6, hr6, hf⟩ := bno_some hf
            refine V_cV (As := [.int x1, .int (x2 + (1))]) (rest := []) (k_X10_hasTile (d := 2) (Nat.le_refl _) hr6) LB_X10_hasTile lk_X10_116 (by omega) dX10_isAnchorNow_70 rfl rfl (Nat.le_of_ble_eq_true rfl) (Nat.le_refl _) (Nat.le_refl _) 0 rfl ⟨rfl, rfl⟩ [.int (b2i r6)] rfl ?_
            refine V_if_eq 80 dX10_isAnchorNow_73 (by decide) (fun c6 => ?_) (fun c6 => ?_)
            · replace hf := (if_pos c6).symm.trans hf
              refine V_iconst 0 dX10_isAnchorNow_80 (by decide) ?_
              cases hf
              exact V_zret (ty := .boolean) rfl rfl dX10_isAnchorNow_81 ⟨rfl, rfl⟩
            · replace hf := (if_neg c6).symm.trans hf
              refine V_lv [] [] rfl ?_
              exact v_X10_isAnchorNow_76 hd hf
  · replace hf := (if_neg c1).symm.trans hf
    refine V_iload_n 1 rfl dX10_isAnchorNow_7 rfl ?_
    refine V_iconst 3 dX10_isAnchorNow_8 (by decide) ?_
    refine V_icmp_ne 21 dX10_isAnchorNow_9 (by decide) (fun c7 => ?_) (fun c7 => ?_)
    · replace hf := (if_neg c7).symm.trans hf
      refine V_iconst 0 dX10_isAnchorNow_21 (by decide) ?_
      cases hf
      exact V_zret (ty := .boolean) rfl rfl dX10_isAnchorNow_22 ⟨rfl, rfl⟩
    · replace hf := (if_pos c7).symm.trans hf
      refine V_iload_n 2 rfl dX10_isAnchorNow_12 rfl ?_
      refine V_iconst 3 dX10_isAnchorNow_13 (by decide) ?_
      refine V_icmp_ne 21 dX10_isAnchorNow_14 (by decide) (fun c8 => ?_) (fun c8 => ?_)
      · replace hf := (if_neg c8).symm.trans hf
        refine V_iconst 0 dX10_isAnchorNow_21 (by decide) ?_
        cases hf
        exact V_zret (ty := .boolean) rfl rfl dX10_isAnchorNow_22 ⟨rfl, rfl⟩
      · replace hf := (if_pos c8).symm.trans hf
        refine V_iconst 1 dX10_isAnchorNow_17 (by decide) ?_
        refine V_goto 22 dX10_isAnchorNow_18 (by decide) ?_
        cases hf
        exact V_zret (ty := .boolean) rfl rfl dX10_isAnchorNow_22 ⟨rfl, rfl⟩
theorem k_X10_isAnchorNow {l : Launch} {G : Gv} {ad : Nat → Nat} {d : Nat} {σ : St} {q : Bool} {x1 : Int32} {x2 : Int32} (hd : 3 ≤ d) (hf : f_X10_isAnchorNow σ x1 x2 = some q) : K l G yX10_isAnchorNow cX10_isAnchorNow 3 (some .boolean) d 0 0 [.ref (ad 0), .int x1, .int x2] (wM G ad σ) (pD (some (.int (b2i q))) (wM G ad σ)) := K_intro (by decide) (Nat.le_of_ble_eq_true rfl) (v_X10_isAnchorNow hd hf)
def f_X10_anchorsNow_31 (bk4 : Int32 → Int32 → Option Int32) (σ : St) (x2 : Int32) (s0 : Int32) (s1 : Int32) : Option Int32 := bk4 (s0 + s1) (x2 + 1)
set_option maxHeartbeats 4000000 in
set_option maxRecDepth 100000 in
theorem v_X10_anchorsNow_31 {l : Launch} {G : Gv} {ad : Nat → Nat} {d : Nat} {av0 : List Value} {w1 : va_W} {q : Int32} {bk4 : Int32 → Int32 → Option Int32} {σ : St} {x2 : Int32} {s0 : Int32} {s1 : Int32} (hd : 4 ≤ d) (hb4 : ∀ (x1 : Int32) (x2 : Int32), bk4 x1 x2 = some q → VV l G yX10_anchorsNow cX10_anchorsNow 3 (some .int) d 0 0 av0 w1 (pD (some (.int q)) (wM G ad σ)) 0 0 (wM G ad σ) 4 [(0, .ref (ad 0)), (1, .int x1), (2, .int x2)] []) (hf : f_X10_anchorsNow_31 bk4 σ x2 s0 s1 = some q) : VV l G yX10_anchorsNow cX10_anchorsNow 3 (some .int) d 0 0 av0 w1 (pD (some (.int q)) (wM G ad σ)) 0 0 (wM G ad σ) 31 [(0, .ref (ad 0)), (2, .int x2)] [.int s1, .int s0] := by
  unfold f_X10_anchorsNow_31 at hf
  refine V_iadd dX10_anchorsNow_31 ?_
  refine V_istore_n [(0, .ref (ad 0)), (1, .int (s0 + s1)), (2, .int x2)] [1, 0, 2] dX10_anchorsNow_32 rfl (by decide) rfl ?_
  refine V_iinc (1) 2 [(0, .ref (ad 0)), (1, .int (s0 + s1)), (2, .int (x2 + 1))] [1, 2, 0] dX10_anchorsNow_33 rfl (by decide) (by decide) rfl ?_
  refine V_goto 4 dX10_anchorsNow_36 (by decide) ?_
  exact hb4 _ _ hf
def f_X10_anchorsNow_4 (σ : St) : Nat → Int32 → Int32 → Option Int32
  | 0, _, _ => none
  | n + 1, x1, x2 => if (49) ≤ x2 then (some x1) else (bno (f_X10_isAnchorNow σ (x2 / (7)) (x2 - x2 / (7) * (7))) fun r1 => if (b2i r1) = 0 then (f_X10_anchorsNow_31 (f_X10_anchorsNow_4 σ n) σ x2 x1 (0)) else (f_X10_anchorsNow_31 (f_X10_anchorsNow_4 σ n) σ x2 x1 (1)))
set_option maxHeartbeats 4000000 in
set_option maxRecDepth 100000 in
theorem v_X10_anchorsNow_4 {l : Launch} {G : Gv} {ad : Nat → Nat} {d : Nat} {av0 : List Value} {w1 : va_W} {q : Int32} {σ : St} (hd : 4 ≤ d) : ∀ (n : Nat) (x1 : Int32) (x2 : Int32), f_X10_anchorsNow_4 σ n x1 x2 = some q → VV l G yX10_anchorsNow cX10_anchorsNow 3 (some .int) d 0 0 av0 w1 (pD (some (.int q)) (wM G ad σ)) 0 0 (wM G ad σ) 4 [(0, .ref (ad 0)), (1, .int x1), (2, .int x2)] [] := by
  intro n
  induction n with
  | zero =>
    intro x1 x2 hf
    cases hf
  | succ n ih =>
    intro x1 x2 hf
    rw [f_X10_anchorsNow_4] at hf
    refine V_iload_n 2 rfl dX10_anchorsNow_4 rfl ?_
    refine V_bipush 49 dX10_anchorsNow_5 (by decide) ?_
    refine V_icmp_ge 39 dX10_anchorsNow_7 (by decide) (fun c1 => ?_) (fun c1 => ?_)
    · replace hf := (if_pos c1).symm.trans hf
      refine V_iload_n 1 rfl dX10_anchorsNow_39 rfl ?_
      cases hf
      exact V_iret rfl dX10_anchorsNow_40 ⟨rfl, rfl⟩
    · replace hf := (if_neg c1).symm.trans hf
      refine V_iload_n 1 rfl dX10_anchorsNow_10 rfl ?_
      refine V_aload_n 0 rfl dX10_anchorsNow_11 rfl ?_
      refine V_iload_n 2 rfl dX10_anchorsNow_12 rfl ?_
      refine V_bipush 7 dX10_anchorsNow_13 (by decide) ?_
      refine V_idiv dX10_anchorsNow_15 (by decide) ?_
      refine V_iload_n 2 rfl dX10_anchorsNow_16 rfl ?_
      refine V_bipush 7 dX10_anchorsNow_17 (by decide) ?_
      refine V_irem dX10_anchorsNow_19 (by decide) ?_
      obtain ⟨r1, hr1, hf⟩ := bno_some hf
      refine V_cV (As := [.int (x2 / (7)), .int (x2 - x2 / (7) * (7))]) (rest := [.int x1]) (k_X10_isAnchorNow (d := 3) (Nat.le_refl _) hr1) LB_X10_isAnchorNow lk_X10_141 (by omega) dX10_anchorsNow_20 rfl rfl (Nat.le_of_ble_eq_true rfl) (Nat.le_refl _) (Nat.le_refl _) 0 rfl ⟨rfl, rfl⟩ [.int (b2i r1), .int x1] rfl ?_
      refine V_if_eq 30 dX10_anchorsNow_23 (by decide) (fun c2 => ?_) (fun c2 => ?_)
      · replace hf := (if_pos c2).symm.trans hf
        refine V_iconst 0 dX10_anchorsNow_30 (by decide) ?_
        refine V_lv [(0, .ref (ad 0)), (2, .int x2)] [0, 2] rfl ?_
        exact v_X10_anchorsNow_31 hd ih hf
      · replace hf := (if_neg c2).symm.trans hf
        refine V_iconst 1 dX10_anchorsNow_26 (by decide) ?_
        refine V_goto 31 dX10_anchorsNow_27 (by decide) ?_
        refine V_lv [(0, .ref (ad 0)), (2, .int x2)] [0, 2] rfl ?_
        exact v_X10_anchorsNow_31 hd ih hf
def f_X10_anchorsNow (σ : St) : Option Int32 := f_X10_anchorsNow_4 σ FU (0) (0)
set_option maxHeartbeats 4000000 in
set_option maxRecDepth 100000 in
theorem v_X10_anchorsNow {l : Launch} {G : Gv} {ad : Nat → Nat} {d : Nat} {av0 : List Value} {w1 : va_W} {q : Int32} {σ : St} (hd : 4 ≤ d) (hf : f_X10_anchorsNow σ = some q) : VV l G yX10_anchorsNow cX10_anchorsNow 3 (some .int) d 0 0 av0 w1 (pD (some (.int q)) (wM G ad σ)) 0 0 (wM G ad σ) 0 [(0, .ref (ad 0))] [] := by
  unfold f_X10_anchorsNow at hf
  refine V_iconst 0 dX10_anchorsNow_0 (by decide) ?_
  refine V_istore_n [(0, .ref (ad 0)), (1, .int (0))] [1, 0] dX10_anchorsNow_1 rfl (by decide) rfl ?_
  refine V_iconst 0 dX10_anchorsNow_2 (by decide) ?_
  refine V_istore_n [(0, .ref (ad 0)), (1, .int (0)), (2, .int (0))] [1, 2, 0] dX10_anchorsNow_3 rfl (by decide) rfl ?_
  exact v_X10_anchorsNow_4 hd _ _ _ hf
theorem k_X10_anchorsNow {l : Launch} {G : Gv} {ad : Nat → Nat} {d : Nat} {σ : St} {q : Int32} (hd : 4 ≤ d) (hf : f_X10_anchorsNow σ = some q) : K l G yX10_anchorsNow cX10_anchorsNow 3 (some .int) d 0 0 [.ref (ad 0)] (wM G ad σ) (pD (some (.int q)) (wM G ad σ)) := K_intro (by decide) (Nat.le_of_ble_eq_true rfl) (v_X10_anchorsNow hd hf)
def f_X10_anchors (σ : St) : Option (Int32 × St) := lt (si σ 3 (0)) fun σ1 => bno (f_X10_laysNow σ1) fun r1 => bno (f_X10_anchorsNow r1) fun r2 => some (r2, r1)
set_option maxHeartbeats 4000000 in
set_option maxRecDepth 100000 in
theorem v_X10_anchors {l : Launch} {G : Gv} {ad : Nat → Nat} {d : Nat} {av0 : List Value} {w1 : va_W} {q : (Int32 × St)} {σ : St} (hd : 5 ≤ d) (hf : f_X10_anchors σ = some q) : VV l G yX10_anchors cX10_anchors 1 (some .int) d 0 0 av0 w1 (pD (some (.int q.1)) (wM G ad q.2)) 0 0 (wM G ad σ) 0 [(0, .ref (ad 0))] [] := by
  unfold f_X10_anchors at hf
  refine V_aload_n 0 rfl dX10_anchors_0 rfl ?_
  refine V_iconst 0 dX10_anchors_1 (by decide) ?_
  obtain ⟨σ1, eσ1, hf⟩ := lt_some hf
  refine V_put (k := 3) RC_X10 fl_X10_52 rfl (by decide) rfl dX10_anchors_2 0 rfl (Nat.le_of_ble_eq_true rfl) rfl rfl (wM G ad σ1) (by rw [eσ1]; rfl) ?_
  refine V_aload_n 0 rfl dX10_anchors_5 rfl ?_
  obtain ⟨r1, hr1, hf⟩ := bno_some hf
  refine V_cV (As := []) (rest := []) (k_X10_laysNow (d := 0) (Nat.le_refl _) hr1) LB_X10_laysNow lk_X10_130 (by omega) dX10_anchors_6 rfl rfl (Nat.le_of_ble_eq_true rfl) (Nat.le_refl _) (Nat.le_refl _) 0 rfl ⟨rfl, rfl⟩ [] rfl ?_
  refine V_aload_n 0 rfl dX10_anchors_9 rfl ?_
  obtain ⟨r2, hr2, hf⟩ := bno_some hf
  refine V_cV (As := []) (rest := []) (k_X10_anchorsNow (d := 4) (Nat.le_refl _) hr2) LB_X10_anchorsNow lk_X10_144 (by omega) dX10_anchors_10 rfl rfl (Nat.le_of_ble_eq_true rfl) (Nat.le_refl _) (Nat.le_refl _) 0 rfl ⟨rfl, rfl⟩ [.int r2] rfl ?_
  cases hf
  exact V_iret rfl dX10_anchors_13 ⟨rfl, rfl⟩
theorem k_X10_anchors {l : Launch} {G : Gv} {ad : Nat → Nat} {d : Nat} {σ : St} {q : (Int32 × St)} (hd : 5 ≤ d) (hf : f_X10_anchors σ = some q) : K l G yX10_anchors cX10_anchors 1 (some .int) d 0 0 [.ref (ad 0)] (wM G ad σ) (pD (some (.int q.1)) (wM G ad q.2)) := K_intro (by decide) (Nat.le_of_ble_eq_true rfl) (v_X10_anchors hd hf)
def f_X10_isAnchor (σ : St) (x1 : Int32) (x2 : Int32) : Option (Bool × St) := bno (f_X10_laysNow σ) fun r1 => bno (f_X10_isSquare x1 x2) fun r2 => bno (f_X10_goes r1 (b2i r2) (1) (1)) fun r3 => if (b2i r3.1) = 0 then (some (false, r3.2)) else (bno (f_X10_isAnchorNow r3.2 x1 x2) fun r4 => if (b2i r4) = 0 then (some (false, r3.2)) else (some (true, r3.2)))
set_option maxHeartbeats 4000000 in
set_option maxRecDepth 100000 in
theorem v_X10_isAnchor {l : Launch} {G : Gv} {ad : Nat → Nat} {d : Nat} {av0 : List Value} {w1 : va_W} {q : (Bool × St)} {σ : St} {x1 : Int32} {x2 : Int32} (hd : 4 ≤ d) (hf : f_X10_isAnchor σ x1 x2 = some q) : VV l G yX10_isAnchor cX10_isAnchor 3 (some .boolean) d 0 0 av0 w1 (pD (some (.int (b2i q.1))) (wM G ad q.2)) 0 0 (wM G ad σ) 0 [(0, .ref (ad 0)), (1, .int x1), (2, .int x2)] [] := by
  unfold f_X10_isAnchor at hf
  refine V_aload_n 0 rfl dX10_isAnchor_0 rfl ?_
  obtain ⟨r1, hr1, hf⟩ := bno_some hf
  refine V_cV (As := []) (rest := []) (k_X10_laysNow (d := 0) (Nat.le_refl _) hr1) LB_X10_laysNow lk_X10_130 (by omega) dX10_isAnchor_1 rfl rfl (Nat.le_of_ble_eq_true rfl) (Nat.le_refl _) (Nat.le_refl _) 0 rfl ⟨rfl, rfl⟩ [] rfl ?_
  refine V_aload_n 0 rfl dX10_isAnchor_4 rfl ?_
  refine V_iload_n 1 rfl dX10_isAnchor_5 rfl ?_
  refine V_iload_n 2 rfl dX10_isAnchor_6 rfl ?_
  obtain ⟨r2, hr2, hf⟩ := bno_some hf
  refine V_cS (As := [.int x1, .int x2]) (rest := [.ref (ad 0)]) (k_X10_isSquare (d := 1) (Nat.le_refl _) hr2) LB_X10_isSquare lk_X10_101 (by omega) dX10_isAnchor_7 rfl rfl (Nat.le_of_ble_eq_true rfl) (Nat.le_refl _) (Nat.le_refl _) [.int (b2i r2), .ref (ad 0)] rfl ?_
  refine V_iconst 1 dX10_isAnchor_10 (by decide) ?_
  refine V_iconst 1 dX10_isAnchor_11 (by decide) ?_
  obtain ⟨r3, hr3, hf⟩ := bno_some hf
  refine V_cV (As := [.int (b2i r2), .int (1), .int (1)]) (rest := []) (k_X10_goes (d := 0) (Nat.le_refl _) hr3) LB_X10_goes lk_X10_74 (by omega) dX10_isAnchor_12 rfl rfl (Nat.le_of_ble_eq_true rfl) (Nat.le_refl _) (Nat.le_refl _) 0 rfl ⟨rfl, rfl⟩ [.int (b2i r3.1)] rfl ?_
  refine V_if_eq 31 dX10_isAnchor_15 (by decide) (fun c1 => ?_) (fun c1 => ?_)
  · replace hf := (if_pos c1).symm.trans hf
    refine V_iconst 0 dX10_isAnchor_31 (by decide) ?_
    cases hf
    exact V_zret (ty := .boolean) rfl rfl dX10_isAnchor_32 ⟨rfl, rfl⟩
  · replace hf := (if_neg c1).symm.trans hf
    refine V_aload_n 0 rfl dX10_isAnchor_18 rfl ?_
    refine V_iload_n 1 rfl dX10_isAnchor_19 rfl ?_
    refine V_iload_n 2 rfl dX10_isAnchor_20 rfl ?_
    obtain ⟨r4, hr4, hf⟩ := bno_some hf
    refine V_cV (As := [.int x1, .int x2]) (rest := []) (k_X10_isAnchorNow (d := 3) (Nat.le_refl _) hr4) LB_X10_isAnchorNow lk_X10_141 (by omega) dX10_isAnchor_21 rfl rfl (Nat.le_of_ble_eq_true rfl) (Nat.le_refl _) (Nat.le_refl _) 0 rfl ⟨rfl, rfl⟩ [.int (b2i r4)] rfl ?_
    refine V_if_eq 31 dX10_isAnchor_24 (by decide) (fun c2 => ?_) (fun c2 => ?_)
    · replace hf := (if_pos c2).symm.trans hf
      refine V_iconst 0 dX10_isAnchor_31 (by decide) ?_
      cases hf
      exact V_zret (ty := .boolean) rfl rfl dX10_isAnchor_32 ⟨rfl, rfl⟩
    · replace hf := (if_neg c2).symm.trans hf
      refine V_iconst 1 dX10_isAnchor_27 (by decide) ?_
      refine V_goto 32 dX10_isAnchor_28 (by decide) ?_
      cases hf
      exact V_zret (ty := .boolean) rfl rfl dX10_isAnchor_32 ⟨rfl, rfl⟩
theorem k_X10_isAnchor {l : Launch} {G : Gv} {ad : Nat → Nat} {d : Nat} {σ : St} {q : (Bool × St)} {x1 : Int32} {x2 : Int32} (hd : 4 ≤ d) (hf : f_X10_isAnchor σ x1 x2 = some q) : K l G yX10_isAnchor cX10_isAnchor 3 (some .boolean) d 0 0 [.ref (ad 0), .int x1, .int x2] (wM G ad σ) (pD (some (.int (b2i q.1))) (wM G ad q.2)) := K_intro (by decide) (Nat.le_of_ble_eq_true rfl) (v_X10_isAnchor hd hf)
def f_X10_laysWord_10 : Nat → St → Int32 → Option St
  | 0, _, _ => none
  | n + 1, σ, x1 => if (gi σ 7) ≤ x1 then (some σ) else (ixo x1 7 (ixo x1 7 (lt (sa σ 13 (upd (ga σ 13) (Int32.toNatClampNeg x1) (ga σ 6 (Int32.toNatClampNeg x1)))) fun σ1 => f_X10_laysWord_10 n σ1 (x1 + 1))))
set_option maxHeartbeats 4000000 in
set_option maxRecDepth 100000 in
theorem v_X10_laysWord_10 {l : Launch} {G : Gv} {ad : Nat → Nat} {d : Nat} {av0 : List Value} {w1 : va_W} {q : St} (hd : 0 ≤ d) : ∀ (n : Nat) (σ : St) (x1 : Int32), f_X10_laysWord_10 n σ x1 = some q → VV l G yX10_laysWord cX10_laysWord 2 none d 0 0 av0 w1 (pD none (wM G ad q)) 0 0 (wM G ad σ) 10 [(0, .ref (ad 0)), (1, .int x1)] [] := by
  intro n
  induction n with
  | zero =>
    intro σ x1 hf
    cases hf
  | succ n ih =>
    intro σ x1 hf
    rw [f_X10_laysWord_10] at hf
    refine V_iload_n 1 rfl dX10_laysWord_10 rfl ?_
    refine V_aload_n 0 rfl dX10_laysWord_11 rfl ?_
    refine V_get (k := 7) RC_X10 fl_X10_78 rfl (by decide) dX10_laysWord_12 0 rfl rfl ?_
    refine V_icmp_ge 36 dX10_laysWord_15 (by decide) (fun c1 => ?_) (fun c1 => ?_)
    · replace hf := (if_pos c1).symm.trans hf
      cases hf
      exact V_vret rfl dX10_laysWord_36 ⟨rfl, rfl⟩
    · replace hf := (if_neg c1).symm.trans hf
      refine V_aload_n 0 rfl dX10_laysWord_18 rfl ?_
      refine V_get (k := 13) RC_X10 fl_X10_28 rfl (by decide) dX10_laysWord_19 0 rfl rfl ?_
      refine V_iload_n 1 rfl dX10_laysWord_22 rfl ?_
      refine V_aload_n 0 rfl dX10_laysWord_23 rfl ?_
      refine V_get (k := 6) RC_X10 fl_X10_19 rfl (by decide) dX10_laysWord_24 0 rfl rfl ?_
      refine V_iload_n 1 rfl dX10_laysWord_27 rfl ?_
      obtain ⟨hi, hf⟩ := ixo_some hf
      refine V_iaload dX10_laysWord_28 4 rfl hi ?_
      obtain ⟨hi, hf⟩ := ixo_some hf
      obtain ⟨σ1, eσ1, hf⟩ := lt_some hf
      refine V_iastore dX10_laysWord_29 7 rfl hi (wM G ad σ1) (by rw [eσ1]; rfl) ?_
      refine V_iinc (1) 1 [(0, .ref (ad 0)), (1, .int (x1 + 1))] [1, 0] dX10_laysWord_30 rfl (by decide) (by decide) rfl ?_
      refine V_goto 10 dX10_laysWord_33 (by decide) ?_
      exact ih _ _ hf
def f_X10_laysWord (σ : St) : Option St := lt (si σ 14 (gi σ 7)) fun σ1 => f_X10_laysWord_10 FU σ1 (0)
set_option maxHeartbeats 4000000 in
set_option maxRecDepth 100000 in
theorem v_X10_laysWord {l : Launch} {G : Gv} {ad : Nat → Nat} {d : Nat} {av0 : List Value} {w1 : va_W} {q : St} {σ : St} (hd : 0 ≤ d) (hf : f_X10_laysWord σ = some q) : VV l G yX10_laysWord cX10_laysWord 2 none d 0 0 av0 w1 (pD none (wM G ad q)) 0 0 (wM G ad σ) 0 [(0, .ref (ad 0))] [] := by
  unfold f_X10_laysWord at hf
  refine V_aload_n 0 rfl dX10_laysWord_0 rfl ?_
  refine V_aload_n 0 rfl dX10_laysWord_1 rfl ?_
  refine V_get (k := 7) RC_X10 fl_X10_78 rfl (by decide) dX10_laysWord_2 0 rfl rfl ?_
  obtain ⟨σ1, eσ1, hf⟩ := lt_some hf
  refine V_put (k := 14) RC_X10 fl_X10_147 rfl (by decide) rfl dX10_laysWord_5 0 rfl (Nat.le_of_ble_eq_true rfl) rfl rfl (wM G ad σ1) (by rw [eσ1]; rfl) ?_
  refine V_iconst 0 dX10_laysWord_8 (by decide) ?_
  refine V_istore_n [(0, .ref (ad 0)), (1, .int (0))] [1, 0] dX10_laysWord_9 rfl (by decide) rfl ?_
  exact v_X10_laysWord_10 hd _ _ _ hf
theorem k_X10_laysWord {l : Launch} {G : Gv} {ad : Nat → Nat} {d : Nat} {σ : St} {q : St} (hd : 0 ≤ d) (hf : f_X10_laysWord σ = some q) : K l G yX10_laysWord cX10_laysWord 2 none d 0 0 [.ref (ad 0)] (wM G ad σ) (pD none (wM G ad q)) := K_intro (by decide) (Nat.le_of_ble_eq_true rfl) (v_X10_laysWord hd hf)
def f_X10_squareOf_13 (x0 : Int32) (x2 : Int32) (x3 : Int32) (s0 : Int32) (s1 : Int32) (s2 : Int32) : Option Int32 := if x0 = 0 then (some (((s0 * (s1 + s2)) + x2) + x3)) else (some (((s0 * (s1 + s2)) + x2) + (0)))
set_option maxHeartbeats 4000000 in
set_option maxRecDepth 100000 in
theorem v_X10_squareOf_13 {l : Launch} {G : Gv} {d : Nat} {av0 : List Value} {w1 : va_W} {w0 : va_W} {q : Int32} {x0 : Int32} {x2 : Int32} {x3 : Int32} {s0 : Int32} {s1 : Int32} {s2 : Int32} (hd : 0 ≤ d) (hf : f_X10_squareOf_13 x0 x2 x3 s0 s1 s2 = some q) : VV l G yX10_squareOf cX10_squareOf 4 (some .int) d 0 0 av0 w1 (pD (some (.int q)) w0) 0 0 w0 13 [(0, .int x0), (2, .int x2), (3, .int x3)] [.int s2, .int s1, .int s0] := by
  unfold f_X10_squareOf_13 at hf
  refine V_iadd dX10_squareOf_13 ?_
  refine V_imul dX10_squareOf_14 ?_
  refine V_iload_n 1 rfl dX10_squareOf_15 rfl ?_
  refine V_iadd dX10_squareOf_16 ?_
  refine V_iload_n 0 rfl dX10_squareOf_17 rfl ?_
  refine V_if_ne 25 dX10_squareOf_18 (by decide) (fun c1 => ?_) (fun c1 => ?_)
  · replace hf := (if_neg c1).symm.trans hf
    refine V_iconst 0 dX10_squareOf_25 (by decide) ?_
    refine V_iadd dX10_squareOf_26 ?_
    cases hf
    exact V_iret rfl dX10_squareOf_27 ⟨rfl, rfl⟩
  · replace hf := (if_pos c1).symm.trans hf
    refine V_iload_n 2 rfl dX10_squareOf_21 rfl ?_
    refine V_goto 26 dX10_squareOf_22 (by decide) ?_
    refine V_iadd dX10_squareOf_26 ?_
    cases hf
    exact V_iret rfl dX10_squareOf_27 ⟨rfl, rfl⟩
def f_X10_squareOf (x0 : Int32) (x1 : Int32) (x2 : Int32) (x3 : Int32) : Option Int32 := if x0 = (1) then (f_X10_squareOf_13 x0 x2 x3 (7) x1 x3) else (f_X10_squareOf_13 x0 x2 x3 (7) x1 (0))
set_option maxHeartbeats 4000000 in
set_option maxRecDepth 100000 in
theorem v_X10_squareOf {l : Launch} {G : Gv} {d : Nat} {av0 : List Value} {w1 : va_W} {w0 : va_W} {q : Int32} {x0 : Int32} {x1 : Int32} {x2 : Int32} {x3 : Int32} (hd : 0 ≤ d) (hf : f_X10_squareOf x0 x1 x2 x3 = some q) : VV l G yX10_squareOf cX10_squareOf 4 (some .int) d 0 0 av0 w1 (pD (some (.int q)) w0) 0 0 w0 0 [(0, .int x0), (1, .int x1), (2, .int x2), (3, .int x3)] [] := by
  unfold f_X10_squareOf at hf
  refine V_bipush 7 dX10_squareOf_0 (by decide) ?_
  refine V_iload_n 1 rfl dX10_squareOf_2 rfl ?_
  refine V_iload_n 0 rfl dX10_squareOf_3 rfl ?_
  refine V_iconst 1 dX10_squareOf_4 (by decide) ?_
  refine V_icmp_ne 12 dX10_squareOf_5 (by decide) (fun c1 => ?_) (fun c1 => ?_)
  · replace hf := (if_neg c1).symm.trans hf
    refine V_iconst 0 dX10_squareOf_12 (by decide) ?_
    refine V_lv [(0, .int x0), (2, .int x2), (3, .int x3)] [0, 2, 3] rfl ?_
    exact v_X10_squareOf_13 hd hf
  · replace hf := (if_pos c1).symm.trans hf
    refine V_iload_n 3 rfl dX10_squareOf_8 rfl ?_
    refine V_goto 13 dX10_squareOf_9 (by decide) ?_
    refine V_lv [(0, .int x0), (2, .int x2), (3, .int x3)] [0, 2, 3] rfl ?_
    exact v_X10_squareOf_13 hd hf
theorem k_X10_squareOf {l : Launch} {G : Gv} {d : Nat} {w0 : va_W} {q : Int32} {x0 : Int32} {x1 : Int32} {x2 : Int32} {x3 : Int32} (hd : 0 ≤ d) (hf : f_X10_squareOf x0 x1 x2 x3 = some q) : K l G yX10_squareOf cX10_squareOf 4 (some .int) d 0 0 [.int x0, .int x1, .int x2, .int x3] w0 (pD (some (.int q)) w0) := K_intro (by decide) (Nat.le_of_ble_eq_true rfl) (v_X10_squareOf hd hf)
def f_X10_isTouching_141 (bk6 : Int32 → Int32 → Int32 → Int32 → Int32 → Option Bool) (σ : St) (x1 : Int32) (x2 : Int32) (x3 : Int32) (x5 : Int32) (s0 : Int32) : Option Bool := bk6 x1 x2 x3 s0 (x5 + 1)
set_option maxHeartbeats 4000000 in
set_option maxRecDepth 100000 in
theorem v_X10_isTouching_141 {l : Launch} {G : Gv} {ad : Nat → Nat} {d : Nat} {av0 : List Value} {w1 : va_W} {q : Bool} {bk6 : Int32 → Int32 → Int32 → Int32 → Int32 → Option Bool} {σ : St} {x1 : Int32} {x2 : Int32} {x3 : Int32} {x5 : Int32} {s0 : Int32} (hd : 3 ≤ d) (hb6 : ∀ (x1 : Int32) (x2 : Int32) (x3 : Int32) (x4 : Int32) (x5 : Int32), bk6 x1 x2 x3 x4 x5 = some q → VV l G yX10_isTouching cX10_isTouching 9 (some .boolean) d 0 0 av0 w1 (pD (some (.int (b2i q))) (wM G ad σ)) 0 0 (wM G ad σ) 6 [(0, .ref (ad 0)), (1, .int x1), (2, .int x2), (3, .int x3), (4, .int x4), (5, .int x5)] []) (hf : f_X10_isTouching_141 bk6 σ x1 x2 x3 x5 s0 = some q) : VV l G yX10_isTouching cX10_isTouching 9 (some .boolean) d 0 0 av0 w1 (pD (some (.int (b2i q))) (wM G ad σ)) 0 0 (wM G ad σ) 141 [(0, .ref (ad 0)), (1, .int x1), (2, .int x2), (3, .int x3), (5, .int x5)] [.int s0] := by
  unfold f_X10_isTouching_141 at hf
  refine V_istore [(0, .ref (ad 0)), (1, .int x1), (2, .int x2), (3, .int x3), (4, .int s0), (5, .int x5)] [1, 2, 3, 4, 0, 5] dX10_isTouching_141 (by decide) rfl ?_
  refine V_iinc (1) 5 [(0, .ref (ad 0)), (1, .int x1), (2, .int x2), (3, .int x3), (4, .int s0), (5, .int (x5 + 1))] [1, 2, 3, 4, 5, 0] dX10_isTouching_143 rfl (by decide) (by decide) rfl ?_
  refine V_goto 6 dX10_isTouching_146 (by decide) ?_
  exact hb6 _ _ _ _ _ hf
def f_X10_isTouching_136 (bk6 : Int32 → Int32 → Int32 → Int32 → Int32 → Option Bool) (σ : St) (x1 : Int32) (x2 : Int32) (x3 : Int32) (x5 : Int32) : Option Bool := f_X10_isTouching_141 bk6 σ x1 x2 x3 x5 (1)
set_option maxHeartbeats 4000000 in
set_option maxRecDepth 100000 in
theorem v_X10_isTouching_136 {l : Launch} {G : Gv} {ad : Nat → Nat} {d : Nat} {av0 : List Value} {w1 : va_W} {q : Bool} {bk6 : Int32 → Int32 → Int32 → Int32 → Int32 → Option Bool} {σ : St} {x1 : Int32} {x2 : Int32} {x3 : Int32} {x5 : Int32} (hd : 3 ≤ d) (hb6 : ∀ (x1 : Int32) (x2 : Int32) (x3 : Int32) (x4 : Int32) (x5 : Int32), bk6 x1 x2 x3 x4 x5 = some q → VV l G yX10_isTouching cX10_isTouching 9 (some .boolean) d 0 0 av0 w1 (pD (some (.int (b2i q))) (wM G ad σ)) 0 0 (wM G ad σ) 6 [(0, .ref (ad 0)), (1, .int x1), (2, .int x2), (3, .int x3), (4, .int x4), (5, .int x5)] []) (hf : f_X10_isTouching_136 bk6 σ x1 x2 x3 x5 = some q) : VV l G yX10_isTouching cX10_isTouching 9 (some .boolean) d 0 0 av0 w1 (pD (some (.int (b2i q))) (wM G ad σ)) 0 0 (wM G ad σ) 136 [(0, .ref (ad 0)), (1, .int x1), (2, .int x2), (3, .int x3), (5, .int x5)] [] := by
  unfold f_X10_isTouching_136 at hf
  refine V_iconst 1 dX10_isTouching_136 (by decide) ?_
  refine V_goto 141 dX10_isTouching_137 (by decide) ?_
  exact v_X10_isTouching_141 hd hb6 hf
def f_X10_isTouching_113 (bk6 : Int32 → Int32 → Int32 → Int32 → Int32 → Option Bool) (σ : St) (x1 : Int32) (x2 : Int32) (x3 : Int32) (x4 : Int32) (x5 : Int32) (x6 : Int32) (x7 : Int32) (s0 : Int32) : Option Bool := if x4 = 0 then (bno (f_X10_hasTile σ x6 x7) fun r1 => if (b2i r1) = 0 then (if s0 = 0 then (f_X10_isTouching_141 bk6 σ x1 x2 x3 x5 (0)) else (f_X10_isTouching_136 bk6 σ x1 x2 x3 x5)) else (f_X10_isTouching_136 bk6 σ x1 x2 x3 x5)) else (f_X10_isTouching_136 bk6 σ x1 x2 x3 x5)
set_option maxHeartbeats 4000000 in
set_option maxRecDepth 100000 in
theorem v_X10_isTouching_113 {l : Launch} {G : Gv} {ad : Nat → Nat} {d : Nat} {av0 : List Value} {w1 : va_W} {q : Bool} {bk6 : Int32 → Int32 → Int32 → Int32 → Int32 → Option Bool} {σ : St} {x1 : Int32} {x2 : Int32} {x3 : Int32} {x4 : Int32} {x5 : Int32} {x6 : Int32} {x7 : Int32} {s0 : Int32} (hd : 3 ≤ d) (hb6 : ∀ (x1 : Int32) (x2 : Int32) (x3 : Int32) (x4 : Int32) (x5 : Int32), bk6 x1 x2 x3 x4 x5 = some q → VV l G yX10_isTouching cX10_isTouching 9 (some .boolean) d 0 0 av0 w1 (pD (some (.int (b2i q))) (wM G ad σ)) 0 0 (wM G ad σ) 6 [(0, .ref (ad 0)), (1, .int x1), (2, .int x2), (3, .int x3), (4, .int x4), (5, .int x5)] []) (hf : f_X10_isTouching_113 bk6 σ x1 x2 x3 x4 x5 x6 x7 s0 = some q) : VV l G yX10_isTouching cX10_isTouching 9 (some .boolean) d 0 0 av0 w1 (pD (some (.int (b2i q))) (wM G ad σ)) 0 0 (wM G ad σ) 113 [(0, .ref (ad 0)), (1, .int x1), (2, .int x2), (3, .int x3), (4, .int x4), (5, .int x5), (6, .int x6), (7, .int x7)] [.int s0] := by
  unfold f_X10_isTouching_113 at hf
  refine V_istore [(0, .ref (ad 0)), (1, .int x1), (2, .int x2), (3, .int x3), (4, .int x4), (5, .int x5), (6, .int x6), (7, .int x7), (8, .int s0)] [1, 2, 3, 4, 5, 6, 7, 8, 0] dX10_isTouching_113 (by decide) rfl ?_
  refine V_iload 4 rfl dX10_isTouching_115 ?_
  refine V_if_ne 136 dX10_isTouching_117 (by decide) (fun c1 => ?_) (fun c1 => ?_)
  · replace hf := (if_neg c1).symm.trans hf
    refine V_lv [(0, .ref (ad 0)), (1, .int x1), (2, .int x2), (3, .int x3), (5, .int x5)] [0, 1, 2, 3, 5] rfl ?_
    exact v_X10_isTouching_136 hd hb6 hf
  · replace hf := (if_pos c1).symm.trans hf
    refine V_aload_n 0 rfl dX10_isTouching_120 rfl ?_
    refine V_iload 6 rfl dX10_isTouching_121 ?_
    refine V_iload 7 rfl dX10_isTouching_123 ?_
    obtain ⟨r1, hr1, hf⟩ := bno_some hf
    refine V_cV (As := [.int x6, .int x7]) (rest := []) (k_X10_hasTile (d := 2) (Nat.le_refl _) hr1) LB_X10_hasTile lk_X10_116 (by omega) dX10_isTouching_125 rfl rfl (Nat.le_of_ble_eq_true rfl) (Nat.le_refl _) (Nat.le_refl _) 0 rfl ⟨rfl, rfl⟩ [.int (b2i r1)] rfl ?_
    refine V_if_ne 136 dX10_isTouching_128 (by decide) (fun c2 => ?_) (fun c2 => ?_)
    · replace hf := (if_neg c2).symm.trans hf
      refine V_lv [(0, .ref (ad 0)), (1, .int x1), (2, .int x2), (3, .int x3), (5, .int x5)] [0, 1, 2, 3, 5] rfl ?_
      exact v_X10_isTouching_136 hd hb6 hf
    · replace hf := (if_pos c2).symm.trans hf
      refine V_iload 8 rfl dX10_isTouching_131 ?_
      refine V_if_eq 140 dX10_isTouching_133 (by decide) (fun c3 => ?_) (fun c3 => ?_)
      · replace hf := (if_pos c3).symm.trans hf
        refine V_iconst 0 dX10_isTouching_140 (by decide) ?_
        refine V_lv [(0, .ref (ad 0)), (1, .int x1), (2, .int x2), (3, .int x3), (5, .int x5)] [0, 1, 2, 3, 5] rfl ?_
        exact v_X10_isTouching_141 hd hb6 hf
      · replace hf := (if_neg c3).symm.trans hf
        refine V_lv [(0, .ref (ad 0)), (1, .int x1), (2, .int x2), (3, .int x3), (5, .int x5)] [0, 1, 2, 3, 5] rfl ?_
        exact v_X10_isTouching_136 hd hb6 hf
def f_X10_isTouching_108 (bk6 : Int32 → Int32 → Int32 → Int32 → Int32 → Option Bool) (σ : St) (x1 : Int32) (x2 : Int32) (x3 : Int32) (x4 : Int32) (x5 : Int32) (x6 : Int32) (x7 : Int32) : Option Bool := f_X10_isTouching_113 bk6 σ x1 x2 x3 x4 x5 x6 x7 (1)
set_option maxHeartbeats 4000000 in
set_option maxRecDepth 100000 in
theorem v_X10_isTouching_108 {l : Launch} {G : Gv} {ad : Nat → Nat} {d : Nat} {av0 : List Value} {w1 : va_W} {q : Bool} {bk6 : Int32 → Int32 → Int32 → Int32 → Int32 → Option Bool} {σ : St} {x1 : Int32} {x2 : Int32} {x3 : Int32} {x4 : Int32} {x5 : Int32} {x6 : Int32} {x7 : Int32} (hd : 3 ≤ d) (hb6 : ∀ (x1 : Int32) (x2 : Int32) (x3 : Int32) (x4 : Int32) (x5 : Int32), bk6 x1 x2 x3 x4 x5 = some q → VV l G yX10_isTouching cX10_isTouching 9 (some .boolean) d 0 0 av0 w1 (pD (some (.int (b2i q))) (wM G ad σ)) 0 0 (wM G ad σ) 6 [(0, .ref (ad 0)), (1, .int x1), (2, .int x2), (3, .int x3), (4, .int x4), (5, .int x5)] []) (hf : f_X10_isTouching_108 bk6 σ x1 x2 x3 x4 x5 x6 x7 = some q) : VV l G yX10_isTouching cX10_isTouching 9 (some .boolean) d 0 0 av0 w1 (pD (some (.int (b2i q))) (wM G ad σ)) 0 0 (wM G ad σ) 108 [(0, .ref (ad 0)), (1, .int x1), (2, .int x2), (3, .int x3), (4, .int x4), (5, .int x5), (6, .int x6), (7, .int x7)] [] := by
  unfold f_X10_isTouching_108 at hf
  refine V_iconst 1 dX10_isTouching_108 (by decide) ?_
  refine V_goto 113 dX10_isTouching_109 (by decide) ?_
  exact v_X10_isTouching_113 hd hb6 hf
def f_X10_isTouching_74 (bk6 : Int32 → Int32 → Int32 → Int32 → Int32 → Option Bool) (σ : St) (x1 : Int32) (x2 : Int32) (x3 : Int32) (x4 : Int32) (x5 : Int32) (x6 : Int32) (x7 : Int32) : Option Bool := f_X10_isTouching_113 bk6 σ x1 x2 x3 x4 x5 x6 x7 (1)
set_option maxHeartbeats 4000000 in
set_option maxRecDepth 100000 in
theorem v_X10_isTouching_74 {l : Launch} {G : Gv} {ad : Nat → Nat} {d : Nat} {av0 : List Value} {w1 : va_W} {q : Bool} {bk6 : Int32 → Int32 → Int32 → Int32 → Int32 → Option Bool} {σ : St} {x1 : Int32} {x2 : Int32} {x3 : Int32} {x4 : Int32} {x5 : Int32} {x6 : Int32} {x7 : Int32} (hd : 3 ≤ d) (hb6 : ∀ (x1 : Int32) (x2 : Int32) (x3 : Int32) (x4 : Int32) (x5 : Int32), bk6 x1 x2 x3 x4 x5 = some q → VV l G yX10_isTouching cX10_isTouching 9 (some .boolean) d 0 0 av0 w1 (pD (some (.int (b2i q))) (wM G ad σ)) 0 0 (wM G ad σ) 6 [(0, .ref (ad 0)), (1, .int x1), (2, .int x2), (3, .int x3), (4, .int x4), (5, .int x5)] []) (hf : f_X10_isTouching_74 bk6 σ x1 x2 x3 x4 x5 x6 x7 = some q) : VV l G yX10_isTouching cX10_isTouching 9 (some .boolean) d 0 0 av0 w1 (pD (some (.int (b2i q))) (wM G ad σ)) 0 0 (wM G ad σ) 74 [(0, .ref (ad 0)), (1, .int x1), (2, .int x2), (3, .int x3), (4, .int x4), (5, .int x5), (6, .int x6), (7, .int x7)] [] := by
  unfold f_X10_isTouching_74 at hf
  refine V_iconst 1 dX10_isTouching_74 (by decide) ?_
  refine V_goto 113 dX10_isTouching_75 (by decide) ?_
  exact v_X10_isTouching_113 hd hb6 hf
def f_X10_isTouching_41 (bk6 : Int32 → Int32 → Int32 → Int32 → Int32 → Option Bool) (σ : St) (x1 : Int32) (x2 : Int32) (x3 : Int32) (x4 : Int32) (x5 : Int32) (x6 : Int32) (s0 : Int32) (s1 : Int32) : Option Bool := if x1 = 0 then (bno (f_X10_hasTile σ (x6 - (1)) (s0 + s1)) fun r3 => if (b2i r3) = 0 then (bno (f_X10_hasTile σ (x6 + (1)) (s0 + s1)) fun r4 => if (b2i r4) = 0 then (f_X10_isTouching_113 bk6 σ x1 x2 x3 x4 x5 x6 (s0 + s1) (0)) else (f_X10_isTouching_74 bk6 σ x1 x2 x3 x4 x5 x6 (s0 + s1))) else (f_X10_isTouching_74 bk6 σ x1 x2 x3 x4 x5 x6 (s0 + s1))) else (bno (f_X10_hasTile σ x6 ((s0 + s1) - (1))) fun r1 => if (b2i r1) = 0 then (bno (f_X10_hasTile σ x6 ((s0 + s1) + (1))) fun r2 => if (b2i r2) = 0 then (f_X10_isTouching_113 bk6 σ x1 x2 x3 x4 x5 x6 (s0 + s1) (0)) else (f_X10_isTouching_108 bk6 σ x1 x2 x3 x4 x5 x6 (s0 + s1))) else (f_X10_isTouching_108 bk6 σ x1 x2 x3 x4 x5 x6 (s0 + s1)))
set_option maxHeartbeats 4000000 in
set_option maxRecDepth 100000 in
theorem v_X10_isTouching_41 {l : Launch} {G : Gv} {ad : Nat → Nat} {d : Nat} {av0 : List Value} {w1 : va_W} {q : Bool} {bk6 : Int32 → Int32 → Int32 → Int32 → Int32 → Option Bool} {σ : St} {x1 : Int32} {x2 : Int32} {x3 : Int32} {x4 : Int32} {x5 : Int32} {x6 : Int32} {s0 : Int32} {s1 : Int32} (hd : 3 ≤ d) (hb6 : ∀ (x1 : Int32) (x2 : Int32) (x3 : Int32) (x4 : Int32) (x5 : Int32), bk6 x1 x2 x3 x4 x5 = some q → VV l G yX10_isTouching cX10_isTouching 9 (some .boolean) d 0 0 av0 w1 (pD (some (.int (b2i q))) (wM G ad σ)) 0 0 (wM G ad σ) 6 [(0, .ref (ad 0)), (1, .int x1), (2, .int x2), (3, .int x3), (4, .int x4), (5, .int x5)] []) (hf : f_X10_isTouching_41 bk6 σ x1 x2 x3 x4 x5 x6 s0 s1 = some q) : VV l G yX10_isTouching cX10_isTouching 9 (some .boolean) d 0 0 av0 w1 (pD (some (.int (b2i q))) (wM G ad σ)) 0 0 (wM G ad σ) 41 [(0, .ref (ad 0)), (1, .int x1), (2, .int x2), (3, .int x3), (4, .int x4), (5, .int x5), (6, .int x6)] [.int s1, .int s0] := by
  unfold f_X10_isTouching_41 at hf
  refine V_iadd dX10_isTouching_41 ?_
  refine V_istore [(0, .ref (ad 0)), (1, .int x1), (2, .int x2), (3, .int x3), (4, .int x4), (5, .int x5), (6, .int x6), (7, .int (s0 + s1))] [1, 2, 3, 4, 5, 6, 7, 0] dX10_isTouching_42 (by decide) rfl ?_
  refine V_iload_n 1 rfl dX10_isTouching_44 rfl ?_
  refine V_if_ne 82 dX10_isTouching_45 (by decide) (fun c1 => ?_) (fun c1 => ?_)
  · replace hf := (if_neg c1).symm.trans hf
    refine V_aload_n 0 rfl dX10_isTouching_82 rfl ?_
    refine V_iload 6 rfl dX10_isTouching_83 ?_
    refine V_iload 7 rfl dX10_isTouching_85 ?_
    refine V_iconst 1 dX10_isTouching_87 (by decide) ?_
    refine V_isub dX10_isTouching_88 ?_
    obtain ⟨r1, hr1, hf⟩ := bno_some hf
    refine V_cV (As := [.int x6, .int ((s0 + s1) - (1))]) (rest := []) (k_X10_hasTile (d := 2) (Nat.le_refl _) hr1) LB_X10_hasTile lk_X10_116 (by omega) dX10_isTouching_89 rfl rfl (Nat.le_of_ble_eq_true rfl) (Nat.le_refl _) (Nat.le_refl _) 0 rfl ⟨rfl, rfl⟩ [.int (b2i r1)] rfl ?_
    refine V_if_ne 108 dX10_isTouching_92 (by decide) (fun c2 => ?_) (fun c2 => ?_)
    · replace hf := (if_neg c2).symm.trans hf
      exact v_X10_isTouching_108 hd hb6 hf
    · replace hf := (if_pos c2).symm.trans hf
      refine V_aload_n 0 rfl dX10_isTouching_95 rfl ?_
      refine V_iload 6 rfl dX10_isTouching_96 ?_
      refine V_iload 7 rfl dX10_isTouching_98 ?_
      refine V_iconst 1 dX10_isTouching_100 (by decide) ?_
      refine V_iadd dX10_isTouching_101 ?_
      obtain ⟨r2, hr2, hf⟩ := bno_some hf
      refine V_cV (As := [.int x6, .int ((s0 + s1) + (1))]) (rest := []) (k_X10_hasTile (d := 2) (Nat.le_refl _) hr2) LB_X10_hasTile lk_X10_116 (by omega) dX10_isTouching_102 rfl rfl (Nat.le_of_ble_eq_true rfl) (Nat.le_refl _) (Nat.le_refl _) 0 rfl ⟨rfl, rfl⟩ [.int (b2i r2)] rfl ?_
      refine V_if_eq 112 dX10_isTouching_105 (by decide) (fun c3 => ?_) (fun c3 => ?_)
      · replace hf := (if_pos c3).symm.trans hf
        refine V_iconst 0 dX10_isTouching_112 (by decide) ?_
        exact v_X10_isTouching_113 hd hb6 hf
      · replace hf := (if_neg c3).symm.trans hf
        exact v_X10_isTouching_108 hd hb6 hf
  · replace hf := (if_pos c1).symm.trans hf
    refine V_aload_n 0 rfl dX10_isTouching_48 rfl ?_
    refine V_iload 6 rfl dX10_isTouching_49 ?_
    refine V_iconst 1 dX10_isTouching_51 (by decide) ?_
    refine V_isub dX10_isTouching_52 ?_
    refine V_iload 7 rfl dX10_isTouching_53 ?_
    obtain ⟨r3, hr3, hf⟩ := bno_some hf
    refine V_cV (As := [.int (x6 - (1)), .int (s0 + s1)]) (rest := []) (k_X10_hasTile (d := 2) (Nat.le_refl _) hr3) LB_X10_hasTile lk_X10_116 (by omega) dX10_isTouching_55 rfl rfl (Nat.le_of_ble_eq_true rfl) (Nat.le_refl _) (Nat.le_refl _) 0 rfl ⟨rfl, rfl⟩ [.int (b2i r3)] rfl ?_
    refine V_if_ne 74 dX10_isTouching_58 (by decide) (fun c4 => ?_) (fun c4 => ?_)
    · replace hf := (if_neg c4).symm.trans hf
      exact v_X10_isTouching_74 hd hb6 hf
    · replace hf := (if_pos c4).symm.trans hf
      refine V_aload_n 0 rfl dX10_isTouching_61 rfl ?_
      refine V_iload 6 rfl dX10_isTouching_62 ?_
      refine V_iconst 1 dX10_isTouching_64 (by decide) ?_
      refine V_iadd dX10_isTouching_65 ?_
      refine V_iload 7 rfl dX10_isTouching_66 ?_
      obtain ⟨r4, hr4, hf⟩ := bno_some hf
      refine V_cV (As := [.int (x6 + (1)), .int (s0 + s1)]) (rest := []) (k_X10_hasTile (d := 2) (Nat.le_refl _) hr4) LB_X10_hasTile lk_X10_116 (by omega) dX10_isTouching_68 rfl rfl (Nat.le_of_ble_eq_true rfl) (Nat.le_refl _) (Nat.le_refl _) 0 rfl ⟨rfl, rfl⟩ [.int (b2i r4)] rfl ?_
      refine V_if_eq 78 dX10_isTouching_71 (by decide) (fun c5 => ?_) (fun c5 => ?_)
      · replace hf := (if_pos c5).symm.trans hf
        refine V_iconst 0 dX10_isTouching_78 (by decide) ?_
        refine V_goto 113 dX10_isTouching_79 (by decide) ?_
        exact v_X10_isTouching_113 hd hb6 hf
      · replace hf := (if_neg c5).symm.trans hf
        exact v_X10_isTouching_74 hd hb6 hf
def f_X10_isTouching_27 (bk6 : Int32 → Int32 → Int32 → Int32 → Int32 → Option Bool) (σ : St) (x1 : Int32) (x2 : Int32) (x3 : Int32) (x4 : Int32) (x5 : Int32) (s0 : Int32) (s1 : Int32) : Option Bool := if x1 = 0 then (f_X10_isTouching_41 bk6 σ x1 x2 x3 x4 x5 (s0 + s1) x3 x5) else (f_X10_isTouching_41 bk6 σ x1 x2 x3 x4 x5 (s0 + s1) x3 (0))
set_option maxHeartbeats 4000000 in
set_option maxRecDepth 100000 in
theorem v_X10_isTouching_27 {l : Launch} {G : Gv} {ad : Nat → Nat} {d : Nat} {av0 : List Value} {w1 : va_W} {q : Bool} {bk6 : Int32 → Int32 → Int32 → Int32 → Int32 → Option Bool} {σ : St} {x1 : Int32} {x2 : Int32} {x3 : Int32} {x4 : Int32} {x5 : Int32} {s0 : Int32} {s1 : Int32} (hd : 3 ≤ d) (hb6 : ∀ (x1 : Int32) (x2 : Int32) (x3 : Int32) (x4 : Int32) (x5 : Int32), bk6 x1 x2 x3 x4 x5 = some q → VV l G yX10_isTouching cX10_isTouching 9 (some .boolean) d 0 0 av0 w1 (pD (some (.int (b2i q))) (wM G ad σ)) 0 0 (wM G ad σ) 6 [(0, .ref (ad 0)), (1, .int x1), (2, .int x2), (3, .int x3), (4, .int x4), (5, .int x5)] []) (hf : f_X10_isTouching_27 bk6 σ x1 x2 x3 x4 x5 s0 s1 = some q) : VV l G yX10_isTouching cX10_isTouching 9 (some .boolean) d 0 0 av0 w1 (pD (some (.int (b2i q))) (wM G ad σ)) 0 0 (wM G ad σ) 27 [(0, .ref (ad 0)), (1, .int x1), (2, .int x2), (3, .int x3), (4, .int x4), (5, .int x5)] [.int s1, .int s0] := by
  unfold f_X10_isTouching_27 at hf
  refine V_iadd dX10_isTouching_27 ?_
  refine V_istore [(0, .ref (ad 0)), (1, .int x1), (2, .int x2), (3, .int x3), (4, .int x4), (5, .int x5), (6, .int (s0 + s1))] [1, 2, 3, 4, 5, 6, 0] dX10_isTouching_28 (by decide) rfl ?_
  refine V_iload_n 3 rfl dX10_isTouching_30 rfl ?_
  refine V_iload_n 1 rfl dX10_isTouching_31 rfl ?_
  refine V_if_ne 40 dX10_isTouching_32 (by decide) (fun c1 => ?_) (fun c1 => ?_)
  · replace hf := (if_neg c1).symm.trans hf
    refine V_iconst 0 dX10_isTouching_40 (by decide) ?_
    exact v_X10_isTouching_41 hd hb6 hf
  · replace hf := (if_pos c1).symm.trans hf
    refine V_iload 5 rfl dX10_isTouching_35 ?_
    refine V_goto 41 dX10_isTouching_37 (by decide) ?_
    exact v_X10_isTouching_41 hd hb6 hf
def f_X10_isTouching_6 (σ : St) : Nat → Int32 → Int32 → Int32 → Int32 → Int32 → Option Bool
  | 0, _, _, _, _, _ => none
  | n + 1, x1, x2, x3, x4, x5 => if (gi σ 14) ≤ x5 then (bno (i2b x4) fun b => some b) else (if x1 = (1) then (f_X10_isTouching_27 (f_X10_isTouching_6 σ n) σ x1 x2 x3 x4 x5 x2 x5) else (f_X10_isTouching_27 (f_X10_isTouching_6 σ n) σ x1 x2 x3 x4 x5 x2 (0)))
set_option maxHeartbeats 4000000 in
set_option maxRecDepth 100000 in
theorem v_X10_isTouching_6 {l : Launch} {G : Gv} {ad : Nat → Nat} {d : Nat} {av0 : List Value} {w1 : va_W} {q : Bool} {σ : St} (hd : 3 ≤ d) : ∀ (n : Nat) (x1 : Int32) (x2 : Int32) (x3 : Int32) (x4 : Int32) (x5 : Int32), f_X10_isTouching_6 σ n x1 x2 x3 x4 x5 = some q → VV l G yX10_isTouching cX10_isTouching 9 (some .boolean) d 0 0 av0 w1 (pD (some (.int (b2i q))) (wM G ad σ)) 0 0 (wM G ad σ) 6 [(0, .ref (ad 0)), (1, .int x1), (2, .int x2), (3, .int x3), (4, .int x4), (5, .int x5)] [] := by
  intro n
  induction n with
  | zero =>
    intro x1 x2 x3 x4 x5 hf
    cases hf
  | succ n ih =>
    intro x1 x2 x3 x4 x5 hf
    rw [f_X10_isTouching_6] at hf
    refine V_iload 5 rfl dX10_isTouching_6 ?_
    refine V_aload_n 0 rfl dX10_isTouching_8 rfl ?_
    refine V_get (k := 14) RC_X10 fl_X10_147 rfl (by decide) dX10_isTouching_9 0 rfl rfl ?_
    refine V_icmp_ge 149 dX10_isTouching_12 (by decide) (fun c1 => ?_) (fun c1 => ?_)
    · replace hf := (if_pos c1).symm.trans hf
      refine V_iload 4 rfl dX10_isTouching_149 ?_
      obtain ⟨b, hb, hf⟩ := bno_some hf
      have hb := i2b_some hb
      cases hf
      exact V_zret (ty := .boolean) rfl (by rw [hb]; exact narrow_b2i _) dX10_isTouching_151 ⟨by rw [hb], rfl⟩
    · replace hf := (if_neg c1).symm.trans hf
      refine V_iload_n 2 rfl dX10_isTouching_15 rfl ?_
      refine V_iload_n 1 rfl dX10_isTouching_16 rfl ?_
      refine V_iconst 1 dX10_isTouching_17 (by decide) ?_
      refine V_icmp_ne 26 dX10_isTouching_18 (by decide) (fun c2 => ?_) (fun c2 => ?_)
      · replace hf := (if_neg c2).symm.trans hf
        refine V_iconst 0 dX10_isTouching_26 (by decide) ?_
        exact v_X10_isTouching_27 hd ih hf
      · replace hf := (if_pos c2).symm.trans hf
        refine V_iload 5 rfl dX10_isTouching_21 ?_
        refine V_goto 27 dX10_isTouching_23 (by decide) ?_
        exact v_X10_isTouching_27 hd ih hf
def f_X10_isTouching (σ : St) (x1 : Int32) (x2 : Int32) (x3 : Int32) : Option Bool := f_X10_isTouching_6 σ FU x1 x2 x3 (0) (0)
set_option maxHeartbeats 4000000 in
set_option maxRecDepth 100000 in
theorem v_X10_isTouching {l : Launch} {G : Gv} {ad : Nat → Nat} {d : Nat} {av0 : List Value} {w1 : va_W} {q : Bool} {σ : St} {x1 : Int32} {x2 : Int32} {x3 : Int32} (hd : 3 ≤ d) (hf : f_X10_isTouching σ x1 x2 x3 = some q) : VV l G yX10_isTouching cX10_isTouching 9 (some .boolean) d 0 0 av0 w1 (pD (some (.int (b2i q))) (wM G ad σ)) 0 0 (wM G ad σ) 0 [(0, .ref (ad 0)), (1, .int x1), (2, .int x2), (3, .int x3)] [] := by
  unfold f_X10_isTouching at hf
  refine V_iconst 0 dX10_isTouching_0 (by decide) ?_
  refine V_istore [(0, .ref (ad 0)), (1, .int x1), (2, .int x2), (3, .int x3), (4, .int (0))] [1, 2, 3, 4, 0] dX10_isTouching_1 (by decide) rfl ?_
  refine V_iconst 0 dX10_isTouching_3 (by decide) ?_
  refine V_istore [(0, .ref (ad 0)), (1, .int x1), (2, .int x2), (3, .int x3), (4, .int (0)), (5, .int (0))] [1, 2, 3, 4, 5, 0] dX10_isTouching_4 (by decide) rfl ?_
  exact v_X10_isTouching_6 hd _ _ _ _ _ _ hf
theorem k_X10_isTouching {l : Launch} {G : Gv} {ad : Nat → Nat} {d : Nat} {σ : St} {q : Bool} {x1 : Int32} {x2 : Int32} {x3 : Int32} (hd : 3 ≤ d) (hf : f_X10_isTouching σ x1 x2 x3 = some q) : K l G yX10_isTouching cX10_isTouching 9 (some .boolean) d 0 0 [.ref (ad 0), .int x1, .int x2, .int x3] (wM G ad σ) (pD (some (.int (b2i q))) (wM G ad σ)) := K_intro (by decide) (Nat.le_of_ble_eq_true rfl) (v_X10_isTouching hd hf)
