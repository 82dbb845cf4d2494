theorem fl_X10_31 : Cond.fieldLink RX10 31 RX10 "needs" "[I" ∈ tblG := tin 836 (by decide +kernel) (by decide +kernel)
theorem LB_X10_squareOf : LB yX10_squareOf cX10_squareOf 4 (some .int) 4 := ⟨tin 1041 (by decide +kernel) (by decide +kernel), tin 8 (by decide +kernel) (by decide +kernel), by decide, by decide, by decide, by decide +kernel⟩
theorem lk_X10_150 : Cond.methodLink RX10 150 yX10_squareOf ∈ tblG ∧ Cond.static yX10_squareOf ∈ tblG := ⟨tin 1039 (by decide +kernel) (by decide +kernel), tin 1040 (by decide +kernel) (by decide +kernel)⟩
theorem LB_X10_laysWord : LB yX10_laysWord cX10_laysWord 2 none 0 := ⟨tin 1038 (by decide +kernel) (by decide +kernel), tin 8 (by decide +kernel) (by decide +kernel), by decide, by decide, by decide, by decide +kernel⟩
theorem lk_X10_154 : Cond.methodLink RX10 154 yX10_laysWord ∈ tblG ∧ Cond.instanceMethod yX10_laysWord ∈ tblG ∧ Cond.selects yX10_laysWord.cls yX10_laysWord yX10_laysWord ∈ tblG := ⟨tin 1035 (by decide +kernel) (by decide +kernel), tin 1037 (by decide +kernel) (by decide +kernel), tsel (q := (yX10_laysWord, 25)) (List.mem_of_getElem? (i := 34) (by decide +kernel))⟩
theorem LB_X10_coversCentre : LB yX10_coversCentre cX10_coversCentre 6 (some .boolean) 3 := ⟨tin 1045 (by decide +kernel) (by decide +kernel), tin 8 (by decide +kernel) (by decide +kernel), by decide, by decide, by decide, by decide +kernel⟩
theorem lk_X10_157 : Cond.methodLink RX10 157 yX10_coversCentre ∈ tblG ∧ Cond.instanceMethod yX10_coversCentre ∈ tblG ∧ Cond.selects yX10_coversCentre.cls yX10_coversCentre yX10_coversCentre ∈ tblG := ⟨tin 1042 (by decide +kernel) (by decide +kernel), tin 1044 (by decide +kernel) (by decide +kernel), tsel (q := (yX10_coversCentre, 25)) (List.mem_of_getElem? (i := 35) (by decide +kernel))⟩
theorem LB_X10_isTouching : LB yX10_isTouching cX10_isTouching 9 (some .boolean) 3 := ⟨tin 1049 (by decide +kernel) (by decide +kernel), tin 8 (by decide +kernel) (by decide +kernel), by decide, by decide, by decide, by decide +kernel⟩
theorem lk_X10_161 : Cond.methodLink RX10 161 yX10_isTouching ∈ tblG ∧ Cond.instanceMethod yX10_isTouching ∈ tblG ∧ Cond.selects yX10_isTouching.cls yX10_isTouching yX10_isTouching ∈ tblG := ⟨tin 1046 (by decide +kernel) (by decide +kernel), tin 1048 (by decide +kernel) (by decide +kernel), tsel (q := (yX10_isTouching, 25)) (List.mem_of_getElem? (i := 36) (by decide +kernel))⟩
theorem LB_X10_letterTimes : LB yX10_letterTimes cX10_letterTimes 1 (some .int) 1 := ⟨tin 1064 (by decide +kernel) (by decide +kernel), tin 8 (by decide +kernel) (by decide +kernel), by decide, by decide, by decide, by decide +kernel⟩
theorem lk_X10_164 : Cond.methodLink RX10 164 yX10_letterTimes ∈ tblG ∧ Cond.static yX10_letterTimes ∈ tblG := ⟨tin 1062 (by decide +kernel) (by decide +kernel), tin 1063 (by decide +kernel) (by decide +kernel)⟩
theorem LB_X10_wordTimes : LB yX10_wordTimes cX10_wordTimes 1 (some .int) 1 := ⟨tin 1067 (by decide +kernel) (by decide +kernel), tin 8 (by decide +kernel) (by decide +kernel), by decide, by decide, by decide, by decide +kernel⟩
theorem lk_X10_167 : Cond.methodLink RX10 167 yX10_wordTimes ∈ tblG ∧ Cond.static yX10_wordTimes ∈ tblG := ⟨tin 1065 (by decide +kernel) (by decide +kernel), tin 1066 (by decide +kernel) (by decide +kernel)⟩
theorem LB_X10_crossPoints : LB yX10_crossPoints cX10_crossPoints 5 (some .int) 2 := ⟨tin 1071 (by decide +kernel) (by decide +kernel), tin 8 (by decide +kernel) (by decide +kernel), by decide, by decide, by decide, by decide +kernel⟩
theorem lk_X10_170 : Cond.methodLink RX10 170 yX10_crossPoints ∈ tblG ∧ Cond.instanceMethod yX10_crossPoints ∈ tblG ∧ Cond.selects yX10_crossPoints.cls yX10_crossPoints yX10_crossPoints ∈ tblG := ⟨tin 1068 (by decide +kernel) (by decide +kernel), tin 1070 (by decide +kernel) (by decide +kernel), tsel (q := (yX10_crossPoints, 25)) (List.mem_of_getElem? (i := 39) (by decide +kernel))⟩
theorem LB_X10_reason : LB yX10_reason cX10_reason 10 (some .int) 4 := ⟨tin 1034 (by decide +kernel) (by decide +kernel), tin 8 (by decide +kernel) (by decide +kernel), by decide, by decide, by decide, by decide +kernel⟩
theorem lk_X10_174 : Cond.methodLink RX10 174 yX10_reason ∈ tblG ∧ Cond.instanceMethod yX10_reason ∈ tblG ∧ Cond.selects yX10_reason.cls yX10_reason yX10_reason ∈ tblG := ⟨tin 1031 (by decide +kernel) (by decide +kernel), tin 1033 (by decide +kernel) (by decide +kernel), tsel (q := (yX10_reason, 25)) (List.mem_of_getElem? (i := 33) (by decide +kernel))⟩
theorem LB_X10_makes : LB yX10_makes cX10_makes 6 (some .int) 4 := ⟨tin 1057 (by decide +kernel) (by decide +kernel), tin 8 (by decide +kernel) (by decide +kernel), by decide, by decide, by decide, by decide +kernel⟩
theorem lk_X10_177 : Cond.methodLink RX10 177 yX10_makes ∈ tblG ∧ Cond.instanceMethod yX10_makes ∈ tblG ∧ Cond.selects yX10_makes.cls yX10_makes yX10_makes ∈ tblG := ⟨tin 1054 (by decide +kernel) (by decide +kernel), tin 1056 (by decide +kernel) (by decide +kernel), tsel (q := (yX10_makes, 25)) (List.mem_of_getElem? (i := 37) (by decide +kernel))⟩
theorem LB_X10_scoreOf : LB yX10_scoreOf cX10_scoreOf 11 (some .int) 3 := ⟨tin 1061 (by decide +kernel) (by decide +kernel), tin 8 (by decide +kernel) (by decide +kernel), by decide, by decide, by decide, by decide +kernel⟩
theorem lk_X10_180 : Cond.methodLink RX10 180 yX10_scoreOf ∈ tblG ∧ Cond.instanceMethod yX10_scoreOf ∈ tblG ∧ Cond.selects yX10_scoreOf.cls yX10_scoreOf yX10_scoreOf ∈ tblG := ⟨tin 1058 (by decide +kernel) (by decide +kernel), tin 1060 (by decide +kernel) (by decide +kernel), tsel (q := (yX10_scoreOf, 25)) (List.mem_of_getElem? (i := 38) (by decide +kernel))⟩
theorem LB_X10_lays : LB yX10_lays cX10_lays 7 none 4 := ⟨tin 1075 (by decide +kernel) (by decide +kernel), tin 8 (by decide +kernel) (by decide +kernel), by decide, by decide, by decide, by decide +kernel⟩
theorem lk_X10_183 : Cond.methodLink RX10 183 yX10_lays ∈ tblG ∧ Cond.instanceMethod yX10_lays ∈ tblG ∧ Cond.selects yX10_lays.cls yX10_lays yX10_lays ∈ tblG := ⟨tin 1072 (by decide +kernel) (by decide +kernel), tin 1074 (by decide +kernel) (by decide +kernel), tsel (q := (yX10_lays, 25)) (List.mem_of_getElem? (i := 40) (by decide +kernel))⟩
theorem LB_X10_keepsBoard : LB yX10_keepsBoard cX10_keepsBoard 2 none 0 := ⟨tin 1079 (by decide +kernel) (by decide +kernel), tin 8 (by decide +kernel) (by decide +kernel), by decide, by decide, by decide, by decide +kernel⟩
theorem lk_X10_187 : Cond.methodLink RX10 187 yX10_keepsBoard ∈ tblG ∧ Cond.instanceMethod yX10_keepsBoard ∈ tblG ∧ Cond.selects yX10_keepsBoard.cls yX10_keepsBoard yX10_keepsBoard ∈ tblG := ⟨tin 1076 (by decide +kernel) (by decide +kernel), tin 1078 (by decide +kernel) (by decide +kernel), tsel (q := (yX10_keepsBoard, 25)) (List.mem_of_getElem? (i := 41) (by decide +kernel))⟩
def f_X10_coversCentre_38 (bk6 : Int32 → Int32 → Int32 → Int32 → Int32 → Option Bool) (σ : St) (x1 : Int32) (x2 : Int32) (x3 : Int32) (x5 : Int32) (s0 : Int32) : Option Bool := bk6 x1 x2 x3 s0 (x5 + 1)
set_option maxHeartbeats 4000000 in
set_option maxRecDepth 100000 in
theorem v_X10_coversCentre_38 {l : Launch} {G : Gv} {ad : Nat → Nat} {d : Nat} {av0 : List Value} {w1 : va_W} {q : Bool} {bk6 : Int32 → Int32 → Int32 → Int32 → Int32 → Option Bool} {σ : St} {x1 : Int32} {x2 : Int32} {x3 : Int32} {x5 : Int32} {s0 : Int32} (hd : 1 ≤ d) (hb6 : ∀ (x1 : Int32) (x2 : Int32) (x3 : Int32) (x4 : Int32) (x5 : Int32), bk6 x1 x2 x3 x4 x5 = some q → VV l G yX10_coversCentre cX10_coversCentre 6 (some .boolean) d 0 0 av0 w1 (pD (some (.int (b2i q))) (wM G ad σ)) 0 0 (wM G ad σ) 6 [(0, .ref (ad 0)), (1, .int x1), (2, .int x2), (3, .int x3), (4, .int x4), (5, .int x5)] []) (hf : f_X10_coversCentre_38 bk6 σ x1 x2 x3 x5 s0 = some q) : VV l G yX10_coversCentre cX10_coversCentre 6 (some .boolean) d 0 0 av0 w1 (pD (some (.int (b2i q))) (wM G ad σ)) 0 0 (wM G ad σ) 38 [(0, .ref (ad 0)), (1, .int x1), (2, .int x2), (3, .int x3), (5, .int x5)] [.int s0] := by
  unfold f_X10_coversCentre_38 at hf
  refine V_istore [(0, .ref (ad 0)), (1, .int x1), (2, .int x2), (3, .int x3), (4, .int s0), (5, .int x5)] [1, 2, 3, 4, 0, 5] dX10_coversCentre_38 (by decide) rfl ?_
  refine V_iinc (1) 5 [(0, .ref (ad 0)), (1, .int x1), (2, .int x2), (3, .int x3), (4, .int s0), (5, .int (x5 + 1))] [1, 2, 3, 4, 5, 0] dX10_coversCentre_40 rfl (by decide) (by decide) rfl ?_
  refine V_goto 6 dX10_coversCentre_43 (by decide) ?_
  exact hb6 _ _ _ _ _ hf
def f_X10_coversCentre_33 (bk6 : Int32 → Int32 → Int32 → Int32 → Int32 → Option Bool) (σ : St) (x1 : Int32) (x2 : Int32) (x3 : Int32) (x5 : Int32) : Option Bool := f_X10_coversCentre_38 bk6 σ x1 x2 x3 x5 (1)
set_option maxHeartbeats 4000000 in
set_option maxRecDepth 100000 in
theorem v_X10_coversCentre_33 {l : Launch} {G : Gv} {ad : Nat → Nat} {d : Nat} {av0 : List Value} {w1 : va_W} {q : Bool} {bk6 : Int32 → Int32 → Int32 → Int32 → Int32 → Option Bool} {σ : St} {x1 : Int32} {x2 : Int32} {x3 : Int32} {x5 : Int32} (hd : 1 ≤ d) (hb6 : ∀ (x1 : Int32) (x2 : Int32) (x3 : Int32) (x4 : Int32) (x5 : Int32), bk6 x1 x2 x3 x4 x5 = some q → VV l G yX10_coversCentre cX10_coversCentre 6 (some .boolean) d 0 0 av0 w1 (pD (some (.int (b2i q))) (wM G ad σ)) 0 0 (wM G ad σ) 6 [(0, .ref (ad 0)), (1, .int x1), (2, .int x2), (3, .int x3), (4, .int x4), (5, .int x5)] []) (hf : f_X10_coversCentre_33 bk6 σ x1 x2 x3 x5 = some q) : VV l G yX10_coversCentre cX10_coversCentre 6 (some .boolean) d 0 0 av0 w1 (pD (some (.int (b2i q))) (wM G ad σ)) 0 0 (wM G ad σ) 33 [(0, .ref (ad 0)), (1, .int x1), (2, .int x2), (3, .int x3), (5, .int x5)] [] := by
  unfold f_X10_coversCentre_33 at hf
  refine V_iconst 1 dX10_coversCentre_33 (by decide) ?_
  refine V_goto 38 dX10_coversCentre_34 (by decide) ?_
  exact v_X10_coversCentre_38 hd hb6 hf
def f_X10_coversCentre_6 (σ : St) : Nat → Int32 → Int32 → Int32 → Int32 → Int32 → Option Bool
  | 0, _, _, _, _, _ => none
  | n + 1, x1, x2, x3, x4, x5 => if (gi σ 14) ≤ x5 then (bno (i2b x4) fun b => some b) else (if x4 = 0 then (bno (f_X10_squareOf x1 x2 x3 x5) fun r1 => if r1 = (24) then (f_X10_coversCentre_33 (f_X10_coversCentre_6 σ n) σ x1 x2 x3 x5) else (f_X10_coversCentre_38 (f_X10_coversCentre_6 σ n) σ x1 x2 x3 x5 (0))) else (f_X10_coversCentre_33 (f_X10_coversCentre_6 σ n) σ x1 x2 x3 x5))
set_option maxHeartbeats 4000000 in
set_option maxRecDepth 100000 in
theorem v_X10_coversCentre_6 {l : Launch} {G : Gv} {ad : Nat → Nat} {d : Nat} {av0 : List Value} {w1 : va_W} {q : Bool} {σ : St} (hd : 1 ≤ d) : ∀ (n : Nat) (x1 : Int32) (x2 : Int32) (x3 : Int32) (x4 : Int32) (x5 : Int32), f_X10_coversCentre_6 σ n x1 x2 x3 x4 x5 = some q → VV l G yX10_coversCentre cX10_coversCentre 6 (some .boolean) d 0 0 av0 w1 (pD (some (.int (b2i q))) (wM G ad σ)) 0 0 (wM G ad σ) 6 [(0, .ref (ad 0)), (1, .int x1), (2, .int x2), (3, .int x3), (4, .int x4), (5, .int x5)] [] := by
  intro n
  induction n with
  | zero =>
    intro x1 x2 x3 x4 x5 hf
    cases hf
  | succ n ih =>
    intro x1 x2 x3 x4 x5 hf
    rw [f_X10_coversCentre_6] at hf
    refine V_iload 5 rfl dX10_coversCentre_6 ?_
    refine V_aload_n 0 rfl dX10_coversCentre_8 rfl ?_
    refine V_get (k := 14) RC_X10 fl_X10_147 rfl (by decide) dX10_coversCentre_9 0 rfl rfl ?_
    refine V_icmp_ge 46 dX10_coversCentre_12 (by decide) (fun c1 => ?_) (fun c1 => ?_)
    · replace hf := (if_pos c1).symm.trans hf
      refine V_iload 4 rfl dX10_coversCentre_46 ?_
      obtain ⟨b, hb, hf⟩ := bno_some hf
      have hb := i2b_some hb
      cases hf
      exact V_zret (ty := .boolean) rfl (by rw [hb]; exact narrow_b2i _) dX10_coversCentre_48 ⟨by rw [hb], rfl⟩
    · replace hf := (if_neg c1).symm.trans hf
      refine V_iload 4 rfl dX10_coversCentre_15 ?_
      refine V_if_ne 33 dX10_coversCentre_17 (by decide) (fun c2 => ?_) (fun c2 => ?_)
      · replace hf := (if_neg c2).symm.trans hf
        refine V_lv [(0, .ref (ad 0)), (1, .int x1), (2, .int x2), (3, .int x3), (5, .int x5)] [0, 1, 2, 3, 5] rfl ?_
        exact v_X10_coversCentre_33 hd ih hf
      · replace hf := (if_pos c2).symm.trans hf
        refine V_iload_n 1 rfl dX10_coversCentre_20 rfl ?_
        refine V_iload_n 2 rfl dX10_coversCentre_21 rfl ?_
        refine V_iload_n 3 rfl dX10_coversCentre_22 rfl ?_
        refine V_iload 5 rfl dX10_coversCentre_23 ?_
        obtain ⟨r1, hr1, hf⟩ := bno_some hf
        refine V_cS (As := [.int x1, .int x2, .int x3, .int x5]) (rest := []) (k_X10_squareOf (d := 0) (Nat.le_refl _) hr1) LB_X10_squareOf lk_X10_150 (by omega) dX10_coversCentre_25 rfl rfl (Nat.le_of_ble_eq_true rfl) (Nat.le_refl _) (Nat.le_refl _) [.int r1] rfl ?_
        refine V_bipush 24 dX10_coversCentre_28 (by decide) ?_
        refine V_icmp_ne 37 dX10_coversCentre_30 (by decide) (fun c3 => ?_) (fun c3 => ?_)
        · replace hf := (if_neg c3).symm.trans hf
          refine V_iconst 0 dX10_coversCentre_37 (by decide) ?_
          refine V_lv [(0, .ref (ad 0)), (1, .int x1), (2, .int x2), (3, .int x3), (5, .int x5)] [0, 1, 2, 3, 5] rfl ?_
          exact v_X10_coversCentre_38 hd ih hf
        · replace hf := (if_pos c3).symm.trans hf
          refine V_lv [(0, .ref (ad 0)), (1, .int x1), (2, .int x2), (3, .int x3), (5, .int x5)] [0, 1, 2, 3, 5] rfl ?_
          exact v_X10_coversCentre_33 hd ih hf
def f_X10_coversCentre (σ : St) (x1 : Int32) (x2 : Int32) (x3 : Int32) : Option Bool := f_X10_coversCentre_6 σ FU x1 x2 x3 (0) (0)
set_option maxHeartbeats 4000000 in
set_option maxRecDepth 100000 in
theorem v_X10_coversCentre {l : Launch} {G : Gv} {ad : Nat → Nat} {d : Nat} {av0 : List Value} {w1 : va_W} {q : Bool} {σ : St} {x1 : Int32} {x2 : Int32} {x3 : Int32} (hd : 1 ≤ d) (hf : f_X10_coversCentre σ x1 x2 x3 = some q) : VV l G yX10_coversCentre cX10_coversCentre 6 (some .boolean) d 0 0 av0 w1 (pD (some (.int (b2i q))) (wM G ad σ)) 0 0 (wM G ad σ) 0 [(0, .ref (ad 0)), (1, .int x1), (2, .int x2), (3, .int x3)] [] := by
  unfold f_X10_coversCentre at hf
  refine V_iconst 0 dX10_coversCentre_0 (by decide) ?_
  refine V_istore [(0, .ref (ad 0)), (1, .int x1), (2, .int x2), (3, .int x3), (4, .int (0))] [1, 2, 3, 4, 0] dX10_coversCentre_1 (by decide) rfl ?_
  refine V_iconst 0 dX10_coversCentre_3 (by decide) ?_
  refine V_istore [(0, .ref (ad 0)), (1, .int x1), (2, .int x2), (3, .int x3), (4, .int (0)), (5, .int (0))] [1, 2, 3, 4, 5, 0] dX10_coversCentre_4 (by decide) rfl ?_
  exact v_X10_coversCentre_6 hd _ _ _ _ _ _ hf
theorem k_X10_coversCentre {l : Launch} {G : Gv} {ad : Nat → Nat} {d : Nat} {σ : St} {q : Bool} {x1 : Int32} {x2 : Int32} {x3 : Int32} (hd : 1 ≤ d) (hf : f_X10_coversCentre σ x1 x2 x3 = some q) : K l G yX10_coversCentre cX10_coversCentre 6 (some .boolean) d 0 0 [.ref (ad 0), .int x1, .int x2, .int x3] (wM G ad σ) (pD (some (.int (b2i q))) (wM G ad σ)) := K_intro (by decide) (Nat.le_of_ble_eq_true rfl) (v_X10_coversCentre hd hf)
def f_X10_reason_374 (bk297 : St → Int32 → Int32 → Int32 → Int32 → Option (Int32 × St)) (σ : St) (x2 : Int32) (x3 : Int32) (x4 : Int32) (x8 : Int32) : Option (Int32 × St) := bk297 σ x2 x3 x4 (x8 + 1)
set_option maxHeartbeats 4000000 in
set_option maxRecDepth 100000 in
theorem v_X10_reason_374 {l : Launch} {G : Gv} {ad : Nat → Nat} {d : Nat} {av0 : List Value} {w1 : va_W} {q : (Int32 × St)} {bk297 : St → Int32 → Int32 → Int32 → Int32 → Option (Int32 × St)} {σ : St} {x2 : Int32} {x3 : Int32} {x4 : Int32} {x8 : Int32} (hd : 4 ≤ d) (hb297 : ∀ (σ : St) (x2 : Int32) (x3 : Int32) (x4 : Int32) (x8 : Int32), bk297 σ x2 x3 x4 x8 = some q → VV l G yX10_reason cX10_reason 10 (some .int) d 0 0 av0 w1 (pD (some (.int q.1)) (wM G ad q.2)) 0 0 (wM G ad σ) 297 [(0, .ref (ad 0)), (2, .int x2), (3, .int x3), (4, .int x4), (8, .int x8)] []) (hf : f_X10_reason_374 bk297 σ x2 x3 x4 x8 = some q) : VV l G yX10_reason cX10_reason 10 (some .int) d 0 0 av0 w1 (pD (some (.int q.1)) (wM G ad q.2)) 0 0 (wM G ad σ) 374 [(0, .ref (ad 0)), (2, .int x2), (3, .int x3), (4, .int x4), (8, .int x8)] [] := by
  unfold f_X10_reason_374 at hf
  refine V_iinc (1) 4 [(0, .ref (ad 0)), (2, .int x2), (3, .int x3), (4, .int x4), (8, .int (x8 + 1))] [1, 2, 3, 4, 0] dX10_reason_374 rfl (by decide) (by decide) rfl ?_
  refine V_goto 297 dX10_reason_377 (by decide) ?_
  exact hb297 _ _ _ _ _ hf
def f_X10_reason_297 : Nat → St → Int32 → Int32 → Int32 → Int32 → Option (Int32 × St)
  | 0, _, _, _, _, _ => none
  | n + 1, σ, x2, x3, x4, x8 => if (gi σ 14) ≤ x8 then (some ((0), σ)) else (bno (f_X10_squareOf x2 x3 x4 x8) fun r1 => ixo r1 49 (if (ga σ 8 (Int32.toNatClampNeg r1)) = (-1) then (bno (f_X10_findsCross σ (r1 / (7)) (r1 - r1 / (7) * (7)) x2) fun r2 => ixo x8 7 (bno (f_X10_takesCross r2 x2 (ga r2 13 (Int32.toNatClampNeg x8))) fun r3 => if (gi r3 12) ≤ (1) then (f_X10_reason_374 (f_X10_reason_297 n) r3 x2 x3 x4 x8) else (bno (f_X10_foundAt r3) fun r4 => if r4 = (-1) then (some ((8), r3)) else (f_X10_reason_374 (f_X10_reason_297 n) r3 x2 x3 x4 x8)))) else (f_X10_reason_374 (f_X10_reason_297 n) σ x2 x3 x4 x8)))
set_option maxHeartbeats 4000000 in
set_option maxRecDepth 100000 in
theorem v_X10_reason_297 {l : Launch} {G : Gv} {ad : Nat → Nat} {d : Nat} {av0 : List Value} {w1 : va_W} {q : (Int32 × St)} (hd : 4 ≤ d) : ∀ (n : Nat) (σ : St) (x2 : Int32) (x3 : Int32) (x4 : Int32) (x8 : Int32), f_X10_reason_297 n σ x2 x3 x4 x8 = some q → VV l G yX10_reason cX10_reason 10 (some .int) d 0 0 av0 w1 (pD (some (.int q.1)) (wM G ad q.2)) 0 0 (wM G ad σ) 297 [(0, .ref (ad 0)), (2, .int x2), (3, .int x3), (4, .int x4), (8, .int x8)] [] := by
  intro n
  induction n with
  | zero =>
    intro σ x2 x3 x4 x8 hf
    cases hf
  | succ n ih =>
    intro σ x2 x3 x4 x8 hf
    rw [f_X10_reason_297] at hf
    refine V_iload 4 rfl dX10_reason_297 ?_
    refine V_aload_n 0 rfl dX10_reason_299 rfl ?_
    refine V_get (k := 14) RC_X10 fl_X10_147 rfl (by decide) dX10_reason_300 0 rfl rfl ?_
    refine V_icmp_ge 380 dX10_reason_303 (by decide) (fun c1 => ?_) (fun c1 => ?_)
    · replace hf := (if_pos c1).symm.trans hf
      refine V_iconst 0 dX10_reason_380 (by decide) ?_
      cases hf
      exact V_iret rfl dX10_reason_381 ⟨rfl, rfl⟩
    · replace hf := (if_neg c1).symm.trans hf
      refine V_iload_n 1 rfl dX10_reason_306 rfl ?_
      refine V_iload_n 2 rfl dX10_reason_307 rfl ?_
      refine V_iload 3 rfl dX10_reason_308 ?_
      refine V_iload 4 rfl dX10_reason_310 ?_
      obtain ⟨r1, hr1, hf⟩ := bno_some hf
      refine V_cS (As := [.int x2, .int x3, .int x4, .int x8]) (rest := []) (k_X10_squareOf (d := 0) (Nat.le_refl _) hr1) LB_X10_squareOf lk_X10_150 (by omega) dX10_reason_312 rfl rfl (Nat.le_of_ble_eq_true rfl) (Nat.le_refl _) (Nat.le_refl _) [.int r1] rfl ?_
      refine V_istore [(0, .ref (ad 0)), (2, .int x2), (3, .int x3), (4, .int x4), (8, .int x8), (9, .int r1)] [1, 2, 3, 4, 5, 0] dX10_reason_315 (by decide) rfl ?_
      refine V_aload_n 0 rfl dX10_reason_317 rfl ?_
      refine V_get (k := 8) RC_X10 fl_X10_22 rfl (by decide) dX10_reason_318 0 rfl rfl ?_
      refine V_iload 5 rfl dX10_reason_321 ?_
      obtain ⟨hi, hf⟩ := ixo_some hf
      refine V_iaload dX10_reason_323 5 rfl hi ?_
      refine V_iconst (-1) dX10_reason_324 (by decide) ?_
      refine V_icmp_ne 374 dX10_reason_325 (by decide) (fun c2 => ?_) (fun c2 => ?_)
      · replace hf := (if_neg c2).symm.trans hf
        refine V_lv [(0, .ref (ad 0)), (2, .int x2), (3, .int x3), (4, .int x4), (8, .int x8)] [0, 1, 2, 3, 4] rfl ?_
        exact v_X10_reason_374 hd ih hf
      · replace hf := (if_pos c2).symm.trans hf
        refine V_aload_n 0 rfl dX10_reason_328 rfl ?_
        refine V_iload 5 rfl dX10_reason_329 ?_
        refine V_bipush 7 dX10_reason_331 (by decide) ?_
        refine V_idiv dX10_reason_333 (by decide) ?_
        refine V_iload 5 rfl dX10_reason_334 ?_
        refine V_bipush 7 dX10_reason_336 (by decide) ?_
        refine V_irem dX10_reason_338 (by decide) ?_
        refine V_iload_n 1 rfl dX10_reason_339 rfl ?_
        obtain ⟨r2, hr2, hf⟩ := bno_some hf
        refine V_cV (As := [.int (r1 / (7)), .int (r1 - r1 / (7) * (7)), .int x2]) (rest := []) (k_X10_findsCross (d := 3) (Nat.le_refl _) hr2) LB_X10_findsCross lk_X10_122 (by omega) dX10_reason_340 rfl rfl (Nat.le_of_ble_eq_true rfl) (Nat.le_refl _) (Nat.le_refl _) 0 rfl ⟨rfl, rfl⟩ [] rfl ?_
        refine V_aload_n 0 rfl dX10_reason_343 rfl ?_
        refine V_iload_n 1 rfl dX10_reason_344 rfl ?_
        refine V_aload_n 0 rfl dX10_reason_345 rfl ?_
        refine V_get (k := 13) RC_X10 fl_X10_28 rfl (by decide) dX10_reason_346 0 rfl rfl ?_
        refine V_iload 4 rfl dX10_reason_349 ?_
        obtain ⟨hi, hf⟩ := ixo_some hf
        refine V_iaload dX10_reason_351 7 rfl hi ?_
        obtain ⟨r3, hr3, hf⟩ := bno_some hf
        refine V_cV (As := [.int x2, .int (ga r2 13 (Int32.toNatClampNeg x8))]) (rest := []) (k_X10_takesCross (d := 0) (Nat.le_refl _) hr3) LB_X10_takesCross lk_X10_126 (by omega) dX10_reason_352 rfl rfl (Nat.le_of_ble_eq_true rfl) (Nat.le_refl _) (Nat.le_refl _) 0 rfl ⟨rfl, rfl⟩ [] rfl ?_
        refine V_aload_n 0 rfl dX10_reason_355 rfl ?_
        refine V_get (k := 12) RC_X10 fl_X10_119 rfl (by decide) dX10_reason_356 0 rfl rfl ?_
        refine V_iconst 1 dX10_reason_359 (by decide) ?_
        refine V_icmp_le 374 dX10_reason_360 (by decide) (fun c3 => ?_) (fun c3 => ?_)
        · replace hf := (if_pos c3).symm.trans hf
          refine V_lv [(0, .ref (ad 0)), (2, .int x2), (3, .int x3), (4, .int x4), (8, .int x8)] [0, 1, 2, 3, 4] rfl ?_
          exact v_X10_reason_374 hd ih hf
        · replace hf := (if_neg c3).symm.trans hf
          refine V_aload_n 0 rfl dX10_reason_363 rfl ?_
          obtain ⟨r4, hr4, hf⟩ := bno_some hf
          refine V_cV (As := []) (rest := []) (k_X10_foundAt (d := 1) (Nat.le_refl _) hr4) LB_X10_foundAt lk_X10_91 (by omega) dX10_reason_364 rfl rfl (Nat.le_of_ble_eq_true rfl) (Nat.le_refl _) (Nat.le_refl _) 0 rfl ⟨rfl, rfl⟩ [.int r4] rfl ?_
          refine V_iconst (-1) dX10_reason_367 (by decide) ?_
          refine V_icmp_ne 374 dX10_reason_368 (by decide) (fun c4 => ?_) (fun c4 => ?_)
          · replace hf := (if_neg c4).symm.trans hf
            refine V_lv [(0, .ref (ad 0)), (2, .int x2), (3, .int x3), (4, .int x4), (8, .int x8)] [0, 1, 2, 3, 4] rfl ?_
            exact v_X10_reason_374 hd ih hf
          · replace hf := (if_pos c4).symm.trans hf
            refine V_bipush 8 dX10_reason_371 (by decide) ?_
            cases hf
            exact V_iret rfl dX10_reason_373 ⟨rfl, rfl⟩
def f_X10_reason_294 (σ : St) (x2 : Int32) (x3 : Int32) (x4 : Int32) : Option (Int32 × St) := f_X10_reason_297 FU σ x2 x3 x4 (0)
set_option maxHeartbeats 4000000 in
set_option maxRecDepth 100000 in
theorem v_X10_reason_294 {l : Launch} {G : Gv} {ad : Nat → Nat} {d : Nat} {av0 : List Value} {w1 : va_W} {q : (Int32 × St)} {σ : St} {x2 : Int32} {x3 : Int32} {x4 : Int32} (hd : 4 ≤ d) (hf : f_X10_reason_294 σ x2 x3 x4 = some q) : VV l G yX10_reason cX10_reason 10 (some .int) d 0 0 av0 w1 (pD (some (.int q.1)) (wM G ad q.2)) 0 0 (wM G ad σ) 294 [(0, .ref (ad 0)), (2, .int x2), (3, .int x3), (4, .int x4)] [] := by
  unfold f_X10_reason_294 at hf
  refine V_iconst 0 dX10_reason_294 (by decide) ?_
  refine V_istore [(0, .ref (ad 0)), (2, .int x2), (3, .int x3), (4, .int x4), (8, .int (0))] [1, 2, 3, 4, 0] dX10_reason_295 (by decide) rfl ?_
  exact v_X10_reason_297 hd _ _ _ _ _ _ hf
def f_X10_reason_221 : Nat → St → Int32 → Int32 → Int32 → Int32 → Int32 → Option (Int32 × St)
  | 0, _, _, _, _, _, _ => none
  | n + 1, σ, x1, x2, x3, x4, x8 => if (8) ≤ x8 then (bno (f_X10_isBare σ) fun r1 => if (b2i r1) = 0 then (bno (f_X10_isTouching σ x2 x3 x4) fun r2 => if (b2i r2) = 0 then (some ((7), σ)) else (f_X10_reason_294 σ x2 x3 x4)) else (bno (f_X10_coversCentre σ x2 x3 x4) fun r3 => if (b2i r3) = 0 then (some ((7), σ)) else (f_X10_reason_294 σ x2 x3 x4))) else (ixo x8 8 (ixo (((8) * x1) + x8) 16 (if (ga σ 15 (Int32.toNatClampNeg x8)) ≤ (ga σ 9 (Int32.toNatClampNeg (((8) * x1) + x8))) then (f_X10_reason_221 n σ x1 x2 x3 x4 (x8 + 1)) else (some ((6), σ)))))
set_option maxHeartbeats 4000000 in
set_option maxRecDepth 100000 in
theorem v_X10_reason_221 {l : Launch} {G : Gv} {ad : Nat → Nat} {d : Nat} {av0 : List Value} {w1 : va_W} {q : (Int32 × St)} (hd : 4 ≤ d) : ∀ (n : Nat) (σ : St) (x1 : Int32) (x2 : Int32) (x3 : Int32) (x4 : Int32) (x8 : Int32), f_X10_reason_221 n σ x1 x2 x3 x4 x8 = some q → VV l G yX10_reason cX10_reason 10 (some .int) d 0 0 av0 w1 (pD (some (.int q.1)) (wM G ad q.2)) 0 0 (wM G ad σ) 221 [(0, .ref (ad 0)), (1, .int x1), (2, .int x2), (3, .int x3), (4, .int x4), (8, .int x8)] [] := by
  intro n
  induction n with
  | zero =>
    intro σ x1 x2 x3 x4 x8 hf
    cases hf
  | succ n ih =>
    intro σ x1 x2 x3 x4 x8 hf
    rw [f_X10_reason_221] at hf
    refine V_iload 5 rfl dX10_reason_221 ?_
    refine V_bipush 8 dX10_reason_223 (by decide) ?_
    refine V_icmp_ge 259 dX10_reason_225 (by decide) (fun c1 => ?_) (fun c1 => ?_)
    · replace hf := (if_pos c1).symm.trans hf
      refine V_aload_n 0 rfl dX10_reason_259 rfl ?_
      obtain ⟨r1, hr1, hf⟩ := bno_some hf
      refine V_cV (As := []) (rest := []) (k_X10_isBare (d := 0) (Nat.le_refl _) hr1) LB_X10_isBare lk_X10_137 (by omega) dX10_reason_260 rfl rfl (Nat.le_of_ble_eq_true rfl) (Nat.le_refl _) (Nat.le_refl _) 0 rfl ⟨rfl, rfl⟩ [.int (b2i r1)] rfl ?_
      refine V_if_eq 280 dX10_reason_263 (by decide) (fun c2 => ?_) (fun c2 => ?_)
      · replace hf := (if_pos c2).symm.trans hf
        refine V_aload_n 0 rfl dX10_reason_280 rfl ?_
        refine V_iload_n 2 rfl dX10_reason_281 rfl ?_
        refine V_iload_n 3 rfl dX10_reason_282 rfl ?_
        refine V_iload 4 rfl dX10_reason_283 ?_
        obtain ⟨r2, hr2, hf⟩ := bno_some hf
        refine V_cV (As := [.int x2, .int x3, .int x4]) (rest := []) (k_X10_isTouching (d := 3) (Nat.le_refl _) hr2) LB_X10_isTouching lk_X10_161 (by omega) dX10_reason_285 rfl rfl (Nat.le_of_ble_eq_true rfl) (Nat.le_refl _) (Nat.le_refl _) 0 rfl ⟨rfl, rfl⟩ [.int (b2i r2)] rfl ?_
        refine V_if_ne 294 dX10_reason_288 (by decide) (fun c3 => ?_) (fun c3 => ?_)
        · replace hf := (if_neg c3).symm.trans hf
          refine V_lv [(0, .ref (ad 0)), (2, .int x2), (3, .int x3), (4, .int x4)] [0, 2, 3, 4] rfl ?_
          exact v_X10_reason_294 hd hf
        · replace hf := (if_pos c3).symm.trans hf
          refine V_bipush 7 dX10_reason_291 (by decide) ?_
          cases hf
          exact V_iret rfl dX10_reason_293 ⟨rfl, rfl⟩
      · replace hf := (if_neg c2).symm.trans hf
        refine V_aload_n 0 rfl dX10_reason_266 rfl ?_
        refine V_iload_n 2 rfl dX10_reason_267 rfl ?_
        refine V_iload_n 3 rfl dX10_reason_268 rfl ?_
        refine V_iload 4 rfl dX10_reason_269 ?_
        obtain ⟨r3, hr3, hf⟩ := bno_some hf
        refine V_cV (As := [.int x2, .int x3, .int x4]) (rest := []) (k_X10_coversCentre (d := 1) (Nat.le_refl _) hr3) LB_X10_coversCentre lk_X10_157 (by omega) dX10_reason_271 rfl rfl (Nat.le_of_ble_eq_true rfl) (Nat.le_refl _) (Nat.le_refl _) 0 rfl ⟨rfl, rfl⟩ [.int (b2i r3)] rfl ?_
        refine V_if_ne 294 dX10_reason_274 (by decide) (fun c4 => ?_) (fun c4 => ?_)
        · replace hf := (if_neg c4).symm.trans hf
          refine V_lv [(0, .ref (ad 0)), (2, .int x2), (3, .int x3), (4, .int x4)] [0, 2, 3, 4] rfl ?_
          exact v_X10_reason_294 hd hf
        · replace hf := (if_pos c4).symm.trans hf
          refine V_goto 291 dX10_reason_277 (by decide) ?_
          refine V_bipush 7 dX10_reason_291 (by decide) ?_
          cases hf
          exact V_iret rfl dX10_reason_293 ⟨rfl, rfl⟩
    · replace hf := (if_neg c1).symm.trans hf
      refine V_aload_n 0 rfl dX10_reason_228 rfl ?_
      refine V_get (k := 15) RC_X10 fl_X10_31 rfl (by decide) dX10_reason_229 0 rfl rfl ?_
      refine V_iload 5 rfl dX10_reason_232 ?_
      obtain ⟨hi, hf⟩ := ixo_some hf
      refine V_iaload dX10_reason_234 8 rfl hi ?_
      refine V_aload_n 0 rfl dX10_reason_235 rfl ?_
      refine V_get (k := 9) RC_X10 fl_X10_25 rfl (by decide) dX10_reason_236 0 rfl rfl ?_
      refine V_bipush 8 dX10_reason_239 (by decide) ?_
      refine V_iload_n 1 rfl dX10_reason_241 rfl ?_
      refine V_imul dX10_reason_242 ?_
      refine V_iload 5 rfl dX10_reason_243 ?_
      refine V_iadd dX10_reason_245 ?_
      obtain ⟨hi, hf⟩ := ixo_some hf
      refine V_iaload dX10_reason_246 6 rfl hi ?_
      refine V_icmp_le 253 dX10_reason_247 (by decide) (fun c5 => ?_) (fun c5 => ?_)
      · replace hf := (if_pos c5).symm.trans hf
        refine V_iinc (1) 5 [(0, .ref (ad 0)), (1, .int x1), (2, .int x2), (3, .int x3), (4, .int x4), (8, .int (x8 + 1))] [1, 2, 3, 4, 5, 0] dX10_reason_253 rfl (by decide) (by decide) rfl ?_
        refine V_goto 221 dX10_reason_256 (by decide) ?_
        exact ih _ _ _ _ _ _ hf
      · replace hf := (if_neg c5).symm.trans hf
        refine V_bipush 6 dX10_reason_250 (by decide) ?_
        cases hf
        exact V_iret rfl dX10_reason_252 ⟨rfl, rfl⟩
def f_X10_reason_202 (bk118 : St → Int32 → Int32 → Int32 → Int32 → Int32 → Int32 → Option (Int32 × St)) (σ : St) (x1 : Int32) (x2 : Int32) (x3 : Int32) (x4 : Int32) (x8 : Int32) (s0 : Int32) (s1 : Int32) : Option (Int32 × St) := bk118 σ x1 x2 x3 x4 (s0 + s1) (x8 + 1)
set_option maxHeartbeats 4000000 in
set_option maxRecDepth 100000 in
theorem v_X10_reason_202 {l : Launch} {G : Gv} {ad : Nat → Nat} {d : Nat} {av0 : List Value} {w1 : va_W} {q : (Int32 × St)} {bk118 : St → Int32 → Int32 → Int32 → Int32 → Int32 → Int32 → Option (Int32 × St)} {σ : St} {x1 : Int32} {x2 : Int32} {x3 : Int32} {x4 : Int32} {x8 : Int32} {s0 : Int32} {s1 : Int32} (hd : 4 ≤ d) (hb118 : ∀ (σ : St) (x1 : Int32) (x2 : Int32) (x3 : Int32) (x4 : Int32) (x7 : Int32) (x8 : Int32), bk118 σ x1 x2 x3 x4 x7 x8 = some q → VV l G yX10_reason cX10_reason 10 (some .int) d 0 0 av0 w1 (pD (some (.int q.1)) (wM G ad q.2)) 0 0 (wM G ad σ) 118 [(0, .ref (ad 0)), (1, .int x1), (2, .int x2), (3, .int x3), (4, .int x4), (7, .int x7), (8, .int x8)] []) (hf : f_X10_reason_202 bk118 σ x1 x2 x3 x4 x8 s0 s1 = some q) : VV l G yX10_reason cX10_reason 10 (some .int) d 0 0 av0 w1 (pD (some (.int q.1)) (wM G ad q.2)) 0 0 (wM G ad σ) 202 [(0, .ref (ad 0)), (1, .int x1), (2, .int x2), (3, .int x3), (4, .int x4), (8, .int x8)] [.int s1, .int s0] := by
  unfold f_X10_reason_202 at hf
  refine V_iadd dX10_reason_202 ?_
  refine V_istore [(0, .ref (ad 0)), (1, .int x1), (2, .int x2), (3, .int x3), (4, .int x4), (7, .int (s0 + s1)), (8, .int x8)] [1, 2, 3, 4, 5, 0, 6] dX10_reason_203 (by decide) rfl ?_
  refine V_iinc (1) 6 [(0, .ref (ad 0)), (1, .int x1), (2, .int x2), (3, .int x3), (4, .int x4), (7, .int (s0 + s1)), (8, .int (x8 + 1))] [1, 2, 3, 4, 5, 6, 0] dX10_reason_205 rfl (by decide) (by decide) rfl ?_
  refine V_goto 118 dX10_reason_208 (by decide) ?_
  exact hb118 _ _ _ _ _ _ _ hf
def f_X10_reason_187 (bk118 : St → Int32 → Int32 → Int32 → Int32 → Int32 → Int32 → Option (Int32 × St)) (σ : St) (x1 : Int32) (x2 : Int32) (x3 : Int32) (x4 : Int32) (x7 : Int32) (x8 : Int32) (x9 : Int32) (s1 : Int32) (s2 : Int32) (s3 : Int32) : Option (Int32 × St) := ixo s1 8 (lt (sa σ 15 (upd (ga σ 15) (Int32.toNatClampNeg s1) (s2 + s3))) fun σ1 => if x9 = (-1) then (f_X10_reason_202 bk118 σ1 x1 x2 x3 x4 x8 x7 (1)) else (f_X10_reason_202 bk118 σ1 x1 x2 x3 x4 x8 x7 (0)))
set_option maxHeartbeats 4000000 in
set_option maxRecDepth 100000 in
theorem v_X10_reason_187 {l : Launch} {G : Gv} {ad : Nat → Nat} {d : Nat} {av0 : List Value} {w1 : va_W} {q : (Int32 × St)} {bk118 : St → Int32 → Int32 → Int32 → Int32 → Int32 → Int32 → Option (Int32 × St)} {σ : St} {x1 : Int32} {x2 : Int32} {x3 : Int32} {x4 : Int32} {x7 : Int32} {x8 : Int32} {x9 : Int32} {s1 : Int32} {s2 : Int32} {s3 : Int32} (hd : 4 ≤ d) (hb118 : ∀ (σ : St) (x1 : Int32) (x2 : Int32) (x3 : Int32) (x4 : Int32) (x7 : Int32) (x8 : Int32), bk118 σ x1 x2 x3 x4 x7 x8 = some q → VV l G yX10_reason cX10_reason 10 (some .int) d 0 0 av0 w1 (pD (some (.int q.1)) (wM G ad q.2)) 0 0 (wM G ad σ) 118 [(0, .ref (ad 0)), (1, .int x1), (2, .int x2), (3, .int x3), (4, .int x4), (7, .int x7), (8, .int x8)] []) (hf : f_X10_reason_187 bk118 σ x1 x2 x3 x4 x7 x8 x9 s1 s2 s3 = some q) : VV l G yX10_reason cX10_reason 10 (some .int) d 0 0 av0 w1 (pD (some (.int q.1)) (wM G ad q.2)) 0 0 (wM G ad σ) 187 [(0, .ref (ad 0)), (1, .int x1), (2, .int x2), (3, .int x3), (4, .int x4), (7, .int x7), (8, .int x8), (9, .int x9)] [.int s3, .int s2, .int s1, .ref (ad 8)] := by
  unfold f_X10_reason_187 at hf
  refine V_iadd dX10_reason_187 ?_
  obtain ⟨hi, hf⟩ := ixo_some hf
  obtain ⟨σ1, eσ1, hf⟩ := lt_some hf
  refine V_iastore dX10_reason_188 8 rfl hi (wM G ad σ1) (by rw [eσ1]; rfl) ?_
  refine V_iload 5 rfl dX10_reason_189 ?_
  refine V_iload 7 rfl dX10_reason_191 ?_
  refine V_iconst (-1) dX10_reason_193 (by decide) ?_
  refine V_icmp_ne 201 dX10_reason_194 (by decide) (fun c1 => ?_) (fun c1 => ?_)
  · replace hf := (if_neg c1).symm.trans hf
    refine V_iconst 0 dX10_reason_201 (by decide) ?_
    refine V_lv [(0, .ref (ad 0)), (1, .int x1), (2, .int x2), (3, .int x3), (4, .int x4), (8, .int x8)] [0, 1, 2, 3, 4, 6] rfl ?_
    exact v_X10_reason_202 hd hb118 hf
  · replace hf := (if_pos c1).symm.trans hf
    refine V_iconst 1 dX10_reason_197 (by decide) ?_
    refine V_goto 202 dX10_reason_198 (by decide) ?_
    refine V_lv [(0, .ref (ad 0)), (1, .int x1), (2, .int x2), (3, .int x3), (4, .int x4), (8, .int x8)] [0, 1, 2, 3, 4, 6] rfl ?_
    exact v_X10_reason_202 hd hb118 hf
def f_X10_reason_163 (bk118 : St → Int32 → Int32 → Int32 → Int32 → Int32 → Int32 → Option (Int32 × St)) (σ : St) (x1 : Int32) (x2 : Int32) (x3 : Int32) (x4 : Int32) (x7 : Int32) (x8 : Int32) (x9 : Int32) : Option (Int32 × St) := ixo x8 7 (ixo (ga σ 13 (Int32.toNatClampNeg x8)) 8 (if x9 = (-1) then (f_X10_reason_187 bk118 σ x1 x2 x3 x4 x7 x8 x9 (ga σ 13 (Int32.toNatClampNeg x8)) (ga σ 15 (Int32.toNatClampNeg (ga σ 13 (Int32.toNatClampNeg x8)))) (1)) else (f_X10_reason_187 bk118 σ x1 x2 x3 x4 x7 x8 x9 (ga σ 13 (Int32.toNatClampNeg x8)) (ga σ 15 (Int32.toNatClampNeg (ga σ 13 (Int32.toNatClampNeg x8)))) (0))))
set_option maxHeartbeats 4000000 in
set_option maxRecDepth 100000 in
theorem v_X10_reason_163 {l : Launch} {G : Gv} {ad : Nat → Nat} {d : Nat} {av0 : List Value} {w1 : va_W} {q : (Int32 × St)} {bk118 : St → Int32 → Int32 → Int32 → Int32 → Int32 → Int32 → Option (Int32 × St)} {σ : St} {x1 : Int32} {x2 : Int32} {x3 : Int32} {x4 : Int32} {x7 : Int32} {x8 : Int32} {x9 : Int32} (hd : 4 ≤ d) (hb118 : ∀ (σ : St) (x1 : Int32) (x2 : Int32) (x3 : Int32) (x4 : Int32) (x7 : Int32) (x8 : Int32), bk118 σ x1 x2 x3 x4 x7 x8 = some q → VV l G yX10_reason cX10_reason 10 (some .int) d 0 0 av0 w1 (pD (some (.int q.1)) (wM G ad q.2)) 0 0 (wM G ad σ) 118 [(0, .ref (ad 0)), (1, .int x1), (2, .int x2), (3, .int x3), (4, .int x4), (7, .int x7), (8, .int x8)] []) (hf : f_X10_reason_163 bk118 σ x1 x2 x3 x4 x7 x8 x9 = some q) : VV l G yX10_reason cX10_reason 10 (some .int) d 0 0 av0 w1 (pD (some (.int q.1)) (wM G ad q.2)) 0 0 (wM G ad σ) 163 [(0, .ref (ad 0)), (1, .int x1), (2, .int x2), (3, .int x3), (4, .int x4), (7, .int x7), (8, .int x8), (9, .int x9)] [] := by
  unfold f_X10_reason_163 at hf
  refine V_aload_n 0 rfl dX10_reason_163 rfl ?_
  refine V_get (k := 15) RC_X10 fl_X10_31 rfl (by decide) dX10_reason_164 0 rfl rfl ?_
  refine V_aload_n 0 rfl dX10_reason_167 rfl ?_
  refine V_get (k := 13) RC_X10 fl_X10_28 rfl (by decide) dX10_reason_168 0 rfl rfl ?_
  refine V_iload 6 rfl dX10_reason_171 ?_
  obtain ⟨hi, hf⟩ := ixo_some hf
  refine V_iaload dX10_reason_173 7 rfl hi ?_
  refine V_dup2 rfl rfl dX10_reason_174 ?_
  obtain ⟨hi, hf⟩ := ixo_some hf
  refine V_iaload dX10_reason_175 8 rfl hi ?_
  refine V_iload 7 rfl dX10_reason_176 ?_
  refine V_iconst (-1) dX10_reason_178 (by decide) ?_
  refine V_icmp_ne 186 dX10_reason_179 (by decide) (fun c1 => ?_) (fun c1 => ?_)
  · replace hf := (if_neg c1).symm.trans hf
    refine V_iconst 0 dX10_reason_186 (by decide) ?_
    exact v_X10_reason_187 hd hb118 hf
  · replace hf := (if_pos c1).symm.trans hf
    refine V_iconst 1 dX10_reason_182 (by decide) ?_
    refine V_goto 187 dX10_reason_183 (by decide) ?_
    exact v_X10_reason_187 hd hb118 hf
def f_X10_reason_118 : Nat → St → Int32 → Int32 → Int32 → Int32 → Int32 → Int32 → Option (Int32 × St)
  | 0, _, _, _, _, _, _, _ => none
  | n + 1, σ, x1, x2, x3, x4, x7, x8 => if (gi σ 14) ≤ x8 then (if x7 = 0 then (some ((5), σ)) else (f_X10_reason_221 FU σ x1 x2 x3 x4 (0))) else (bno (f_X10_squareOf x2 x3 x4 x8) fun r1 => ixo r1 49 (if (ga σ 8 (Int32.toNatClampNeg r1)) = (-1) then (f_X10_reason_163 (f_X10_reason_118 n) σ x1 x2 x3 x4 x7 x8 (ga σ 8 (Int32.toNatClampNeg r1))) else (ixo x8 7 (if (ga σ 8 (Int32.toNatClampNeg r1)) = (ga σ 13 (Int32.toNatClampNeg x8)) then (f_X10_reason_163 (f_X10_reason_118 n) σ x1 x2 x3 x4 x7 x8 (ga σ 8 (Int32.toNatClampNeg r1))) else (some ((4), σ))))))
set_option maxHeartbeats 4000000 in
set_option maxRecDepth 100000 in
theorem v_X10_reason_118 {l : Launch} {G : Gv} {ad : Nat → Nat} {d : Nat} {av0 : List Value} {w1 : va_W} {q : (Int32 × St)} (hd : 4 ≤ d) : ∀ (n : Nat) (σ : St) (x1 : Int32) (x2 : Int32) (x3 : Int32) (x4 : Int32) (x7 : Int32) (x8 : Int32), f_X10_reason_118 n σ x1 x2 x3 x4 x7 x8 = some q → VV l G yX10_reason cX10_reason 10 (some .int) d 0 0 av0 w1 (pD (some (.int q.1)) (wM G ad q.2)) 0 0 (wM G ad σ) 118 [(0, .ref (ad 0)), (1, .int x1), (2, .int x2), (3, .int x3), (4, .int x4), (7, .int x7), (8, .int x8)] [] := by
  intro n
  induction n with
  | zero =>
    intro σ x1 x2 x3 x4 x7 x8 hf
    cases hf
  | succ n ih =>
    intro σ x1 x2 x3 x4 x7 x8 hf
    rw [f_X10_reason_118] at hf
    refine V_iload 6 rfl dX10_reason_118 ?_
    refine V_aload_n 0 rfl dX10_reason_120 rfl ?_
    refine V_get (k := 14) RC_X10 fl_X10_147 rfl (by decide) dX10_reason_121 0 rfl rfl ?_
    refine V_icmp_ge 211 dX10_reason_124 (by decide) (fun c1 => ?_) (fun c1 => ?_)
    · replace hf := (if_pos c1).symm.trans hf
      refine V_iload 5 rfl dX10_reason_211 ?_
      refine V_if_ne 218 dX10_reason_213 (by decide) (fun c2 => ?_) (fun c2 => ?_)
      · replace hf := (if_neg c2).symm.trans hf
        refine V_iconst 0 dX10_reason_218 (by decide) ?_
        refine V_istore [(0, .ref (ad 0)), (1, .int x1), (2, .int x2), (3, .int x3), (4, .int x4), (7, .int x7), (8, .int (0))] [1, 2, 3, 4, 5, 6, 0] dX10_reason_219 (by decide) rfl ?_
        refine V_lv [(0, .ref (ad 0)), (1, .int x1), (2, .int x2), (3, .int x3), (4, .int x4), (8, .int (0))] [0, 1, 2, 3, 4, 6] rfl ?_
        exact v_X10_reason_221 hd _ _ _ _ _ _ _ hf
      · replace hf := (if_pos c2).symm.trans hf
        refine V_iconst 5 dX10_reason_216 (by decide) ?_
        cases hf
        exact V_iret rfl dX10_reason_217 ⟨rfl, rfl⟩
    · replace hf := (if_neg c1).symm.trans hf
      refine V_aload_n 0 rfl dX10_reason_127 rfl ?_
      refine V_get (k := 8) RC_X10 fl_X10_22 rfl (by decide) dX10_reason_128 0 rfl rfl ?_
      refine V_iload_n 2 rfl dX10_reason_131 rfl ?_
      refine V_iload_n 3 rfl dX10_reason_132 rfl ?_
      refine V_iload 4 rfl dX10_reason_133 ?_
      refine V_iload 6 rfl dX10_reason_135 ?_
      obtain ⟨r1, hr1, hf⟩ := bno_some hf
      refine V_cS (As := [.int x2, .int x3, .int x4, .int x8]) (rest := [.ref (ad 5)]) (k_X10_squareOf (d := 0) (Nat.le_refl _) hr1) LB_X10_squareOf lk_X10_150 (by omega) dX10_reason_137 rfl rfl (Nat.le_of_ble_eq_true rfl) (Nat.le_refl _) (Nat.le_refl _) [.int r1, .ref (ad 5)] rfl ?_
      obtain ⟨hi, hf⟩ := ixo_some hf
      refine V_iaload dX10_reason_140 5 rfl hi ?_
      refine V_istore [(0, .ref (ad 0)), (1, .int x1), (2, .int x2), (3, .int x3), (4, .int x4), (7, .int x7), (8, .int x8), (9, .int (ga σ 8 (Int32.toNatClampNeg r1)))] [1, 2, 3, 4, 5, 6, 7, 0] dX10_reason_141 (by decide) rfl ?_
      refine V_iload 7 rfl dX10_reason_143 ?_
      refine V_iconst (-1) dX10_reason_145 (by decide) ?_
      refine V_icmp_eq 163 dX10_reason_146 (by decide) (fun c3 => ?_) (fun c3 => ?_)
      · replace hf := (if_pos c3).symm.trans hf
        exact v_X10_reason_163 hd ih hf
      · replace hf := (if_neg c3).symm.trans hf
        refine V_iload 7 rfl dX10_reason_149 ?_
        refine V_aload_n 0 rfl dX10_reason_151 rfl ?_
        refine V_get (k := 13) RC_X10 fl_X10_28 rfl (by decide) dX10_reason_152 0 rfl rfl ?_
        refine V_iload 6 rfl dX10_reason_155 ?_
        obtain ⟨hi, hf⟩ := ixo_some hf
        refine V_iaload dX10_reason_157 7 rfl hi ?_
        refine V_icmp_eq 163 dX10_reason_158 (by decide) (fun c4 => ?_) (fun c4 => ?_)
        · replace hf := (if_pos c4).symm.trans hf
          exact v_X10_reason_163 hd ih hf
        · replace hf := (if_neg c4).symm.trans hf
          refine V_iconst 4 dX10_reason_161 (by decide) ?_
          cases hf
          exact V_iret rfl dX10_reason_162 ⟨rfl, rfl⟩
def f_X10_reason_91 : Nat → St → Int32 → Int32 → Int32 → Int32 → Int32 → Option (Int32 × St)
  | 0, _, _, _, _, _, _ => none
  | n + 1, σ, x1, x2, x3, x4, x7 => if (8) ≤ x7 then (f_X10_reason_118 FU σ x1 x2 x3 x4 (0) (0)) else (ixo x7 8 (lt (sa σ 15 (upd (ga σ 15) (Int32.toNatClampNeg x7) (0))) fun σ1 => f_X10_reason_91 n σ1 x1 x2 x3 x4 (x7 + 1)))
set_option maxHeartbeats 4000000 in
set_option maxRecDepth 100000 in
theorem v_X10_reason_91 {l : Launch} {G : Gv} {ad : Nat → Nat} {d : Nat} {av0 : List Value} {w1 : va_W} {q : (Int32 × St)} (hd : 4 ≤ d) : ∀ (n : Nat) (σ : St) (x1 : Int32) (x2 : Int32) (x3 : Int32) (x4 : Int32) (x7 : Int32), f_X10_reason_91 n σ x1 x2 x3 x4 x7 = some q → VV l G yX10_reason cX10_reason 10 (some .int) d 0 0 av0 w1 (pD (some (.int q.1)) (wM G ad q.2)) 0 0 (wM G ad σ) 91 [(0, .ref (ad 0)), (1, .int x1), (2, .int x2), (3, .int x3), (4, .int x4), (7, .int x7)] [] := by
  intro n
  induction n with
  | zero =>
    intro σ x1 x2 x3 x4 x7 hf
    cases hf
  | succ n ih =>
    intro σ x1 x2 x3 x4 x7 hf
    rw [f_X10_reason_91] at hf
    refine V_iload 5 rfl dX10_reason_91 ?_
    refine V_bipush 8 dX10_reason_93 (by decide) ?_
    refine V_icmp_ge 112 dX10_reason_95 (by decide) (fun c1 => ?_) (fun c1 => ?_)
    · replace hf := (if_pos c1).symm.trans hf
      refine V_iconst 0 dX10_reason_112 (by decide) ?_
      refine V_istore [(0, .ref (ad 0)), (1, .int x1), (2, .int x2), (3, .int x3), (4, .int x4), (7, .int (0))] [1, 2, 3, 4, 5, 0] dX10_reason_113 (by decide) rfl ?_
      refine V_iconst 0 dX10_reason_115 (by decide) ?_
      refine V_istore [(0, .ref (ad 0)), (1, .int x1), (2, .int x2), (3, .int x3), (4, .int x4), (7, .int (0)), (8, .int (0))] [1, 2, 3, 4, 5, 6, 0] dX10_reason_116 (by decide) rfl ?_
      exact v_X10_reason_118 hd _ _ _ _ _ _ _ _ hf
    · replace hf := (if_neg c1).symm.trans hf
      refine V_aload_n 0 rfl dX10_reason_98 rfl ?_
      refine V_get (k := 15) RC_X10 fl_X10_31 rfl (by decide) dX10_reason_99 0 rfl rfl ?_
      refine V_iload 5 rfl dX10_reason_102 ?_
      refine V_iconst 0 dX10_reason_104 (by decide) ?_
      obtain ⟨hi, hf⟩ := ixo_some hf
      obtain ⟨σ1, eσ1, hf⟩ := lt_some hf
      refine V_iastore dX10_reason_105 8 rfl hi (wM G ad σ1) (by rw [eσ1]; rfl) ?_
      refine V_iinc (1) 5 [(0, .ref (ad 0)), (1, .int x1), (2, .int x2), (3, .int x3), (4, .int x4), (7, .int (x7 + 1))] [1, 2, 3, 4, 5, 0] dX10_reason_106 rfl (by decide) (by decide) rfl ?_
      refine V_goto 91 dX10_reason_109 (by decide) ?_
      exact ih _ _ _ _ _ _ hf
def f_X10_reason_24 (σ : St) (x1 : Int32) (x2 : Int32) (x3 : Int32) (x4 : Int32) (s0 : Int32) : Option (Int32 × St) := if (s0 + (gi σ 14)) ≤ (7) then (bno (f_X10_hasTile σ (x3 - x2) (x4 - ((1) - x2))) fun r1 => if (b2i r1) = 0 then (bno (f_X10_hasTile σ (x3 + (x2 * (gi σ 14))) (x4 + (((1) - x2) * (gi σ 14)))) fun r2 => if (b2i r2) = 0 then (f_X10_reason_91 FU σ x1 x2 x3 x4 (0)) else (some ((3), σ))) else (some ((3), σ))) else (some ((2), σ))
set_option maxHeartbeats 4000000 in
set_option maxRecDepth 100000 in
theorem v_X10_reason_24 {l : Launch} {G : Gv} {ad : Nat → Nat} {d : Nat} {av0 : List Value} {w1 : va_W} {q : (Int32 × St)} {σ : St} {x1 : Int32} {x2 : Int32} {x3 : Int32} {x4 : Int32} {s0 : Int32} (hd : 4 ≤ d) (hf : f_X10_reason_24 σ x1 x2 x3 x4 s0 = some q) : VV l G yX10_reason cX10_reason 10 (some .int) d 0 0 av0 w1 (pD (some (.int q.1)) (wM G ad q.2)) 0 0 (wM G ad σ) 24 [(0, .ref (ad 0)), (1, .int x1), (2, .int x2), (3, .int x3), (4, .int x4)] [.int s0] := by
  unfold f_X10_reason_24 at hf
  refine V_aload_n 0 rfl dX10_reason_24 rfl ?_
  refine V_get (k := 14) RC_X10 fl_X10_147 rfl (by decide) dX10_reason_25 0 rfl rfl ?_
  refine V_iadd dX10_reason_28 ?_
  refine V_bipush 7 dX10_reason_29 (by decide) ?_
  refine V_icmp_le 36 dX10_reason_31 (by decide) (fun c1 => ?_) (fun c1 => ?_)
  · replace hf := (if_pos c1).symm.trans hf
    refine V_iload_n 2 rfl dX10_reason_36 rfl ?_
    refine V_istore [(0, .ref (ad 0)), (1, .int x1), (2, .int x2), (3, .int x3), (4, .int x4), (5, .int x2)] [1, 2, 3, 4, 5, 0] dX10_reason_37 (by decide) rfl ?_
    refine V_iconst 1 dX10_reason_39 (by decide) ?_
    refine V_iload_n 2 rfl dX10_reason_40 rfl ?_
    refine V_isub dX10_reason_41 ?_
    refine V_istore [(0, .ref (ad 0)), (1, .int x1), (2, .int x2), (3, .int x3), (4, .int x4), (5, .int x2), (6, .int ((1) - x2))] [1, 2, 3, 4, 5, 6, 0] dX10_reason_42 (by decide) rfl ?_
    refine V_aload_n 0 rfl dX10_reason_44 rfl ?_
    refine V_iload_n 3 rfl dX10_reason_45 rfl ?_
    refine V_iload 5 rfl dX10_reason_46 ?_
    refine V_isub dX10_reason_48 ?_
    refine V_iload 4 rfl dX10_reason_49 ?_
    refine V_iload 6 rfl dX10_reason_51 ?_
    refine V_isub dX10_reason_53 ?_
    obtain ⟨r1, hr1, hf⟩ := bno_some hf
    refine V_cV (As := [.int (x3 - x2), .int (x4 - ((1) - x2))]) (rest := []) (k_X10_hasTile (d := 2) (Nat.le_refl _) hr1) LB_X10_hasTile lk_X10_116 (by omega) dX10_reason_54 rfl rfl (Nat.le_of_ble_eq_true rfl) (Nat.le_refl _) (Nat.le_refl _) 0 rfl ⟨rfl, rfl⟩ [.int (b2i r1)] rfl ?_
    refine V_if_ne 86 dX10_reason_57 (by decide) (fun c2 => ?_) (fun c2 => ?_)
    · replace hf := (if_neg c2).symm.trans hf
      refine V_iconst 3 dX10_reason_86 (by decide) ?_
      cases hf
      exact V_iret rfl dX10_reason_87 ⟨rfl, rfl⟩
    · replace hf := (if_pos c2).symm.trans hf
      refine V_aload_n 0 rfl dX10_reason_60 rfl ?_
      refine V_iload_n 3 rfl dX10_reason_61 rfl ?_
      refine V_iload 5 rfl dX10_reason_62 ?_
      refine V_aload_n 0 rfl dX10_reason_64 rfl ?_
      refine V_get (k := 14) RC_X10 fl_X10_147 rfl (by decide) dX10_reason_65 0 rfl rfl ?_
      refine V_imul dX10_reason_68 ?_
      refine V_iadd dX10_reason_69 ?_
      refine V_iload 4 rfl dX10_reason_70 ?_
      refine V_iload 6 rfl dX10_reason_72 ?_
      refine V_aload_n 0 rfl dX10_reason_74 rfl ?_
      refine V_get (k := 14) RC_X10 fl_X10_147 rfl (by decide) dX10_reason_75 0 rfl rfl ?_
      refine V_imul dX10_reason_78 ?_
      refine V_iadd dX10_reason_79 ?_
      obtain ⟨r2, hr2, hf⟩ := bno_some hf
      refine V_cV (As := [.int (x3 + (x2 * (gi σ 14))), .int (x4 + (((1) - x2) * (gi σ 14)))]) (rest := []) (k_X10_hasTile (d := 2) (Nat.le_refl _) hr2) LB_X10_hasTile lk_X10_116 (by omega) dX10_reason_80 rfl rfl (Nat.le_of_ble_eq_true rfl) (Nat.le_refl _) (Nat.le_refl _) 0 rfl ⟨rfl, rfl⟩ [.int (b2i r2)] rfl ?_
      refine V_if_eq 88 dX10_reason_83 (by decide) (fun c3 => ?_) (fun c3 => ?_)
      · replace hf := (if_pos c3).symm.trans hf
        refine V_iconst 0 dX10_reason_88 (by decide) ?_
        refine V_istore [(0, .ref (ad 0)), (1, .int x1), (2, .int x2), (3, .int x3), (4, .int x4), (5, .int x2), (6, .int ((1) - x2)), (7, .int (0))] [1, 2, 3, 4, 5, 6, 7, 0] dX10_reason_89 (by decide) rfl ?_
        refine V_lv [(0, .ref (ad 0)), (1, .int x1), (2, .int x2), (3, .int x3), (4, .int x4), (7, .int (0))] [0, 1, 2, 3, 4, 7] rfl ?_
        exact v_X10_reason_91 hd _ _ _ _ _ _ _ hf
      · replace hf := (if_neg c3).symm.trans hf
        refine V_iconst 3 dX10_reason_86 (by decide) ?_
        cases hf
        exact V_iret rfl dX10_reason_87 ⟨rfl, rfl⟩
  · replace hf := (if_neg c1).symm.trans hf
    refine V_iconst 2 dX10_reason_34 (by decide) ?_
    cases hf
    exact V_iret rfl dX10_reason_35 ⟨rfl, rfl⟩
def f_X10_reason (σ : St) (x1 : Int32) (x2 : Int32) (x3 : Int32) (x4 : Int32) : Option (Int32 × St) := bno (f_X10_laysWord σ) fun r1 => bno (f_X10_foundAt r1) fun r2 => if r2 = (-1) then (some ((1), r1)) else (if x2 = 0 then (f_X10_reason_24 r1 x1 x2 x3 x4 x4) else (f_X10_reason_24 r1 x1 x2 x3 x4 x3))
set_option maxHeartbeats 4000000 in
set_option maxRecDepth 100000 in
theorem v_X10_reason {l : Launch} {G : Gv} {ad : Nat → Nat} {d : Nat} {av0 : List Value} {w1 : va_W} {q : (Int32 × St)} {σ : St} {x1 : Int32} {x2 : Int32} {x3 : Int32} {x4 : Int32} (hd : 4 ≤ d) (hf : f_X10_reason σ x1 x2 x3 x4 = some q) : VV l G yX10_reason cX10_reason 10 (some .int) d 0 0 av0 w1 (pD (some (.int q.1)) (wM G ad q.2)) 0 0 (wM G ad σ) 0 [(0, .ref (ad 0)), (1, .int x1), (2, .int x2), (3, .int x3), (4, .int x4)] [] := by
  unfold f_X10_reason at hf
  refine V_aload_n 0 rfl dX10_reason_0 rfl ?_
  obtain ⟨r1, hr1, hf⟩ := bno_some hf
  refine V_cV (As := []) (rest := []) (k_X10_laysWord (d := 0) (Nat.le_refl _) hr1) LB_X10_laysWord lk_X10_154 (by omega) dX10_reason_1 rfl rfl (Nat.le_of_ble_eq_true rfl) (Nat.le_refl _) (Nat.le_refl _) 0 rfl ⟨rfl, rfl⟩ [] rfl ?_
  refine V_aload_n 0 rfl dX10_reason_4 rfl ?_
  obtain ⟨r2, hr2, hf⟩ := bno_some hf
  refine V_cV (As := []) (rest := []) (k_X10_foundAt (d := 1) (Nat.le_refl _) hr2) LB_X10_foundAt lk_X10_91 (by omega) dX10_reason_5 rfl rfl (Nat.le_of_ble_eq_true rfl) (Nat.le_refl _) (Nat.le_refl _) 0 rfl ⟨rfl, rfl⟩ [.int r2] rfl ?_
  refine V_iconst (-1) dX10_reason_8 (by decide) ?_
  refine V_icmp_ne 14 dX10_reason_9 (by decide) (fun c1 => ?_) (fun c1 => ?_)
  · replace hf := (if_neg c1).symm.trans hf
    refine V_iload_n 2 rfl dX10_reason_14 rfl ?_
    refine V_if_ne 23 dX10_reason_15 (by decide) (fun c2 => ?_) (fun c2 => ?_)
    · replace hf := (if_neg c2).symm.trans hf
      refine V_iload_n 3 rfl dX10_reason_23 rfl ?_
      exact v_X10_reason_24 hd hf
    · replace hf := (if_pos c2).symm.trans hf
      refine V_iload 4 rfl dX10_reason_18 ?_
      refine V_goto 24 dX10_reason_20 (by decide) ?_
      exact v_X10_reason_24 hd hf
  · replace hf := (if_pos c1).symm.trans hf
    refine V_iconst 1 dX10_reason_12 (by decide) ?_
    cases hf
    exact V_iret rfl dX10_reason_13 ⟨rfl, rfl⟩
theorem k_X10_reason {l : Launch} {G : Gv} {ad : Nat → Nat} {d : Nat} {σ : St} {q : (Int32 × St)} {x1 : Int32} {x2 : Int32} {x3 : Int32} {x4 : Int32} (hd : 4 ≤ d) (hf : f_X10_reason σ x1 x2 x3 x4 = some q) : K l G yX10_reason cX10_reason 10 (some .int) d 0 0 [.ref (ad 0), .int x1, .int x2, .int x3, .int x4] (wM G ad σ) (pD (some (.int q.1)) (wM G ad q.2)) := K_intro (by decide) (Nat.le_of_ble_eq_true rfl) (v_X10_reason hd hf)
def f_X10_letterTimes (x0 : Int32) : Option Int32 := if x0 = (1) then (some (2)) else (if x0 = (2) then (some (3)) else (some (1)))
set_option maxHeartbeats 4000000 in
set_option maxRecDepth 100000 in
theorem v_X10_letterTimes {l : Launch} {G : Gv} {d : Nat} {av0 : List Value} {w1 : va_W} {w0 : va_W} {q : Int32} {x0 : Int32} (hd : 0 ≤ d) (hf : f_X10_letterTimes x0 = some q) : VV l G yX10_letterTimes cX10_letterTimes 1 (some .int) d 0 0 av0 w1 (pD (some (.int q)) w0) 0 0 w0 0 [(0, .int x0)] [] := by
  unfold f_X10_letterTimes at hf
  refine V_iload_n 0 rfl dX10_letterTimes_0 rfl ?_
  refine V_iconst 1 dX10_letterTimes_1 (by decide) ?_
  refine V_icmp_ne 9 dX10_letterTimes_2 (by decide) (fun c1 => ?_) (fun c1 => ?_)
  · replace hf := (if_neg c1).symm.trans hf
    refine V_iload_n 0 rfl dX10_letterTimes_9 rfl ?_
    refine V_iconst 2 dX10_letterTimes_10 (by decide) ?_
    refine V_icmp_ne 18 dX10_letterTimes_11 (by decide) (fun c2 => ?_) (fun c2 => ?_)
    · replace hf := (if_neg c2).symm.trans hf
      refine V_iconst 1 dX10_letterTimes_18 (by decide) ?_
      cases hf
      exact V_iret rfl dX10_letterTimes_19 ⟨rfl, rfl⟩
    · replace hf := (if_pos c2).symm.trans hf
      refine V_iconst 3 dX10_letterTimes_14 (by decide) ?_
      refine V_goto 19 dX10_letterTimes_15 (by decide) ?_
      cases hf
      exact V_iret rfl dX10_letterTimes_19 ⟨rfl, rfl⟩
  · replace hf := (if_pos c1).symm.trans hf
    refine V_iconst 2 dX10_letterTimes_5 (by decide) ?_
    refine V_goto 19 dX10_letterTimes_6 (by decide) ?_
    cases hf
    exact V_iret rfl dX10_letterTimes_19 ⟨rfl, rfl⟩
theorem k_X10_letterTimes {l : Launch} {G : Gv} {d : Nat} {w0 : va_W} {q : Int32} {x0 : Int32} (hd : 0 ≤ d) (hf : f_X10_letterTimes x0 = some q) : K l G yX10_letterTimes cX10_letterTimes 1 (some .int) d 0 0 [.int x0] w0 (pD (some (.int q)) w0) := K_intro (by decide) (Nat.le_of_ble_eq_true rfl) (v_X10_letterTimes hd hf)
def f_X10_wordTimes (x0 : Int32) : Option Int32 := if x0 = (3) then (some (2)) else (if x0 = (4) then (some (3)) else (some (1)))
set_option maxHeartbeats 4000000 in
set_option maxRecDepth 100000 in
theorem v_X10_wordTimes {l : Launch} {G : Gv} {d : Nat} {av0 : List Value} {w1 : va_W} {w0 : va_W} {q : Int32} {x0 : Int32} (hd : 0 ≤ d) (hf : f_X10_wordTimes x0 = some q) : VV l G yX10_wordTimes cX10_wordTimes 1 (some .int) d 0 0 av0 w1 (pD (some (.int q)) w0) 0 0 w0 0 [(0, .int x0)] [] := by
  unfold f_X10_wordTimes at hf
  refine V_iload_n 0 rfl dX10_wordTimes_0 rfl ?_
  refine V_iconst 3 dX10_wordTimes_1 (by decide) ?_
  refine V_icmp_ne 9 dX10_wordTimes_2 (by decide) (fun c1 => ?_) (fun c1 => ?_)
  · replace hf := (if_neg c1).symm.trans hf
    refine V_iload_n 0 rfl dX10_wordTimes_9 rfl ?_
    refine V_iconst 4 dX10_wordTimes_10 (by decide) ?_
    refine V_icmp_ne 18 dX10_wordTimes_11 (by decide) (fun c2 => ?_) (fun c2 => ?_)
    · replace hf := (if_neg c2).symm.trans hf
      refine V_iconst 1 dX10_wordTimes_18 (by decide) ?_
      cases hf
      exact V_iret rfl dX10_wordTimes_19 ⟨rfl, rfl⟩
    · replace hf := (if_pos c2).symm.trans hf
      refine V_iconst 3 dX10_wordTimes_14 (by decide) ?_
      refine V_goto 19 dX10_wordTimes_15 (by decide) ?_
      cases hf
      exact V_iret rfl dX10_wordTimes_19 ⟨rfl, rfl⟩
  · replace hf := (if_pos c1).symm.trans hf
    refine V_iconst 2 dX10_wordTimes_5 (by decide) ?_
    refine V_goto 19 dX10_wordTimes_6 (by decide) ?_
    cases hf
    exact V_iret rfl dX10_wordTimes_19 ⟨rfl, rfl⟩
theorem k_X10_wordTimes {l : Launch} {G : Gv} {d : Nat} {w0 : va_W} {q : Int32} {x0 : Int32} (hd : 0 ≤ d) (hf : f_X10_wordTimes x0 = some q) : K l G yX10_wordTimes cX10_wordTimes 1 (some .int) d 0 0 [.int x0] w0 (pD (some (.int q)) w0) := K_intro (by decide) (Nat.le_of_ble_eq_true rfl) (v_X10_wordTimes hd hf)
def f_X10_crossPoints_19 (σ : St) : Nat → Int32 → Int32 → Int32 → Option Int32
  | 0, _, _, _ => none
  | n + 1, x2, x3, x4 => if (gi σ 7) ≤ x4 then (bno (f_X10_wordTimes x2) fun r1 => some (x3 * r1)) else (ixo x4 7 (ixo ((0) + (ga σ 6 (Int32.toNatClampNeg x4))) 373 (lt (x3 + (ga σ 0 (Int32.toNatClampNeg ((0) + (ga σ 6 (Int32.toNatClampNeg x4)))))) fun t1 => f_X10_crossPoints_19 σ n x2 t1 (x4 + 1))))
set_option maxHeartbeats 4000000 in
set_option maxRecDepth 100000 in
theorem v_X10_crossPoints_19 {l : Launch} {G : Gv} {ad : Nat → Nat} {d : Nat} {av0 : List Value} {w1 : va_W} {q : Int32} {σ : St} (hd : 1 ≤ d) : ∀ (n : Nat) (x2 : Int32) (x3 : Int32) (x4 : Int32), f_X10_crossPoints_19 σ n x2 x3 x4 = some q → VV l G yX10_crossPoints cX10_crossPoints 5 (some .int) d 0 0 av0 w1 (pD (some (.int q)) (wM G ad σ)) 0 0 (wM G ad σ) 19 [(0, .ref (ad 0)), (2, .int x2), (3, .int x3), (4, .int x4)] [] := by
  intro n
  induction n with
  | zero =>
    intro x2 x3 x4 hf
    cases hf
  | succ n ih =>
    intro x2 x3 x4 hf
    rw [f_X10_crossPoints_19] at hf
    refine V_iload 3 rfl dX10_crossPoints_19 ?_
    refine V_aload_n 0 rfl dX10_crossPoints_21 rfl ?_
    refine V_get (k := 7) RC_X10 fl_X10_78 rfl (by decide) dX10_crossPoints_22 0 rfl rfl ?_
    refine V_icmp_ge 51 dX10_crossPoints_25 (by decide) (fun c1 => ?_) (fun c1 => ?_)
    · replace hf := (if_pos c1).symm.trans hf
      refine V_iload_n 2 rfl dX10_crossPoints_51 rfl ?_
      refine V_iload_n 1 rfl dX10_crossPoints_52 rfl ?_
      obtain ⟨r1, hr1, hf⟩ := bno_some hf
      refine V_cS (As := [.int x2]) (rest := [.int x3]) (k_X10_wordTimes (d := 0) (Nat.le_refl _) hr1) LB_X10_wordTimes lk_X10_167 (by omega) dX10_crossPoints_53 rfl rfl (Nat.le_of_ble_eq_true rfl) (Nat.le_refl _) (Nat.le_refl _) [.int r1, .int x3] rfl ?_
      refine V_imul dX10_crossPoints_56 ?_
      cases hf
      exact V_iret rfl dX10_crossPoints_57 ⟨rfl, rfl⟩
    · replace hf := (if_neg c1).symm.trans hf
      refine V_iload_n 2 rfl dX10_crossPoints_28 rfl ?_
      refine V_aload_n 0 rfl dX10_crossPoints_29 rfl ?_
      refine V_get (k := 0) RC_X10 fl_X10_7 rfl (by decide) dX10_crossPoints_30 0 rfl rfl ?_
      refine V_iconst 0 dX10_crossPoints_33 (by decide) ?_
      refine V_aload_n 0 rfl dX10_crossPoints_34 rfl ?_
      refine V_get (k := 6) RC_X10 fl_X10_19 rfl (by decide) dX10_crossPoints_35 0 rfl rfl ?_
      refine V_iload 3 rfl dX10_crossPoints_38 ?_
      obtain ⟨hi, hf⟩ := ixo_some hf
      refine V_iaload dX10_crossPoints_40 4 rfl hi ?_
      refine V_iadd dX10_crossPoints_41 ?_
      obtain ⟨hi, hf⟩ := ixo_some hf
      refine V_iaload dX10_crossPoints_42 1 rfl hi ?_
      refine V_iadd dX10_crossPoints_43 ?_
      obtain ⟨t1, et1, hf⟩ := lt_some hf
      refine V_topi et1 ?_
      refine V_istore_n [(0, .ref (ad 0)), (2, .int x2), (3, .int t1), (4, .int x4)] [1, 2, 0, 3] dX10_crossPoints_44 rfl (by decide) rfl ?_
      refine V_iinc (1) 3 [(0, .ref (ad 0)), (2, .int x2), (3, .int t1), (4, .int (x4 + 1))] [1, 2, 3, 0] dX10_crossPoints_45 rfl (by decide) (by decide) rfl ?_
      refine V_goto 19 dX10_crossPoints_48 (by decide) ?_
      exact ih _ _ _ hf
def f_X10_crossPoints (σ : St) (x1 : Int32) (x2 : Int32) : Option Int32 := ixo ((0) + x1) 373 (bno (f_X10_letterTimes x2) fun r1 => lt ((ga σ 0 (Int32.toNatClampNeg ((0) + x1))) * (r1 - (1))) fun t1 => f_X10_crossPoints_19 σ FU x2 t1 (0))
set_option maxHeartbeats 4000000 in
set_option maxRecDepth 100000 in
theorem v_X10_crossPoints {l : Launch} {G : Gv} {ad : Nat → Nat} {d : Nat} {av0 : List Value} {w1 : va_W} {q : Int32} {σ : St} {x1 : Int32} {x2 : Int32} (hd : 1 ≤ d) (hf : f_X10_crossPoints σ x1 x2 = some q) : VV l G yX10_crossPoints cX10_crossPoints 5 (some .int) d 0 0 av0 w1 (pD (some (.int q)) (wM G ad σ)) 0 0 (wM G ad σ) 0 [(0, .ref (ad 0)), (1, .int x1), (2, .int x2)] [] := by
  unfold f_X10_crossPoints at hf
  refine V_aload_n 0 rfl dX10_crossPoints_0 rfl ?_
  refine V_get (k := 0) RC_X10 fl_X10_7 rfl (by decide) dX10_crossPoints_1 0 rfl rfl ?_
  refine V_iconst 0 dX10_crossPoints_4 (by decide) ?_
  refine V_iload_n 1 rfl dX10_crossPoints_5 rfl ?_
  refine V_iadd dX10_crossPoints_6 ?_
  obtain ⟨hi, hf⟩ := ixo_some hf
  refine V_iaload dX10_crossPoints_7 1 rfl hi ?_
  refine V_iload_n 2 rfl dX10_crossPoints_8 rfl ?_
  obtain ⟨r1, hr1, hf⟩ := bno_some hf
  refine V_cS (As := [.int x2]) (rest := [.int (ga σ 0 (Int32.toNatClampNeg ((0) + x1)))]) (k_X10_letterTimes (d := 0) (Nat.le_refl _) hr1) LB_X10_letterTimes lk_X10_164 (by omega) dX10_crossPoints_9 rfl rfl (Nat.le_of_ble_eq_true rfl) (Nat.le_refl _) (Nat.le_refl _) [.int r1, .int (ga σ 0 (Int32.toNatClampNeg ((0) + x1)))] rfl ?_
  refine V_iconst 1 dX10_crossPoints_12 (by decide) ?_
  refine V_isub dX10_crossPoints_13 ?_
  refine V_imul dX10_crossPoints_14 ?_
  obtain ⟨t1, et1, hf⟩ := lt_some hf
  refine V_topi et1 ?_
  refine V_istore_n [(0, .ref (ad 0)), (1, .int x1), (2, .int x2), (3, .int t1)] [1, 2, 3, 0] dX10_crossPoints_15 rfl (by decide) rfl ?_
  refine V_iconst 0 dX10_crossPoints_16 (by decide) ?_
  refine V_istore [(0, .ref (ad 0)), (1, .int x1), (2, .int x2), (3, .int t1), (4, .int (0))] [1, 2, 3, 4, 0] dX10_crossPoints_17 (by decide) rfl ?_
  refine V_lv [(0, .ref (ad 0)), (2, .int x2), (3, .int t1), (4, .int (0))] [0, 2, 3, 4] rfl ?_
  exact v_X10_crossPoints_19 hd _ _ _ _ hf
theorem k_X10_crossPoints {l : Launch} {G : Gv} {ad : Nat → Nat} {d : Nat} {σ : St} {q : Int32} {x1 : Int32} {x2 : Int32} (hd : 1 ≤ d) (hf : f_X10_crossPoints σ x1 x2 = some q) : K l G yX10_crossPoints cX10_crossPoints 5 (some .int) d 0 0 [.ref (ad 0), .int x1, .int x2] (wM G ad σ) (pD (some (.int q)) (wM G ad σ)) := K_intro (by decide) (Nat.le_of_ble_eq_true rfl) (v_X10_crossPoints hd hf)
def f_X10_scoreOf_168 (bk15 : St → Int32 → Int32 → Int32 → Int32 → Int32 → Int32 → Int32 → Int32 → Option (Int32 × St)) (σ : St) (x1 : Int32) (x2 : Int32) (x3 : Int32) (x4 : Int32) (x5 : Int32) (x6 : Int32) (x7 : Int32) (x8 : Int32) : Option (Int32 × St) := bk15 σ x1 x2 x3 x4 x5 x6 x7 (x8 + 1)
set_option maxHeartbeats 4000000 in
set_option maxRecDepth 100000 in
theorem v_X10_scoreOf_168 {l : Launch} {G : Gv} {ad : Nat → Nat} {d : Nat} {av0 : List Value} {w1 : va_W} {q : (Int32 × St)} {bk15 : St → Int32 → Int32 → Int32 → Int32 → Int32 → Int32 → Int32 → Int32 → Option (Int32 × St)} {σ : St} {x1 : Int32} {x2 : Int32} {x3 : Int32} {x4 : Int32} {x5 : Int32} {x6 : Int32} {x7 : Int32} {x8 : Int32} (hd : 4 ≤ d) (hb15 : ∀ (σ : St) (x1 : Int32) (x2 : Int32) (x3 : Int32) (x4 : Int32) (x5 : Int32) (x6 : Int32) (x7 : Int32) (x8 : Int32), bk15 σ x1 x2 x3 x4 x5 x6 x7 x8 = some q → VV l G yX10_scoreOf cX10_scoreOf 11 (some .int) d 0 0 av0 w1 (pD (some (.int q.1)) (wM G ad q.2)) 0 0 (wM G ad σ) 15 [(0, .ref (ad 0)), (1, .int x1), (2, .int x2), (3, .int x3), (4, .int x4), (5, .int x5), (6, .int x6), (7, .int x7), (8, .int x8)] []) (hf : f_X10_scoreOf_168 bk15 σ x1 x2 x3 x4 x5 x6 x7 x8 = some q) : VV l G yX10_scoreOf cX10_scoreOf 11 (some .int) d 0 0 av0 w1 (pD (some (.int q.1)) (wM G ad q.2)) 0 0 (wM G ad σ) 168 [(0, .ref (ad 0)), (1, .int x1), (2, .int x2), (3, .int x3), (4, .int x4), (5, .int x5), (6, .int x6), (7, .int x7), (8, .int x8)] [] := by
  unfold f_X10_scoreOf_168 at hf
  refine V_iinc (1) 8 [(0, .ref (ad 0)), (1, .int x1), (2, .int x2), (3, .int x3), (4, .int x4), (5, .int x5), (6, .int x6), (7, .int x7), (8, .int (x8 + 1))] [1, 2, 3, 4, 5, 6, 7, 8, 0] dX10_scoreOf_168 rfl (by decide) (by decide) rfl ?_
  refine V_goto 15 dX10_scoreOf_171 (by decide) ?_
  exact hb15 _ _ _ _ _ _ _ _ _ hf
def f_X10_scoreOf_165 (bk15 : St → Int32 → Int32 → Int32 → Int32 → Int32 → Int32 → Int32 → Int32 → Option (Int32 × St)) (σ : St) (x1 : Int32) (x2 : Int32) (x3 : Int32) (x4 : Int32) (x5 : Int32) (x7 : Int32) (x8 : Int32) (s0 : Int32) (s1 : Int32) : Option (Int32 × St) := f_X10_scoreOf_168 bk15 σ x1 x2 x3 x4 x5 (s0 + s1) x7 x8
set_option maxHeartbeats 4000000 in
set_option maxRecDepth 100000 in
theorem v_X10_scoreOf_165 {l : Launch} {G : Gv} {ad : Nat → Nat} {d : Nat} {av0 : List Value} {w1 : va_W} {q : (Int32 × St)} {bk15 : St → Int32 → Int32 → Int32 → Int32 → Int32 → Int32 → Int32 → Int32 → Option (Int32 × St)} {σ : St} {x1 : Int32} {x2 : Int32} {x3 : Int32} {x4 : Int32} {x5 : Int32} {x7 : Int32} {x8 : Int32} {s0 : Int32} {s1 : Int32} (hd : 4 ≤ d) (hb15 : ∀ (σ : St) (x1 : Int32) (x2 : Int32) (x3 : Int32) (x4 : Int32) (x5 : Int32) (x6 : Int32) (x7 : Int32) (x8 : Int32), bk15 σ x1 x2 x3 x4 x5 x6 x7 x8 = some q → VV l G yX10_scoreOf cX10_scoreOf 11 (some .int) d 0 0 av0 w1 (pD (some (.int q.1)) (wM G ad q.2)) 0 0 (wM G ad σ) 15 [(0, .ref (ad 0)), (1, .int x1), (2, .int x2), (3, .int x3), (4, .int x4), (5, .int x5), (6, .int x6), (7, .int x7), (8, .int x8)] []) (hf : f_X10_scoreOf_165 bk15 σ x1 x2 x3 x4 x5 x7 x8 s0 s1 = some q) : VV l G yX10_scoreOf cX10_scoreOf 11 (some .int) d 0 0 av0 w1 (pD (some (.int q.1)) (wM G ad q.2)) 0 0 (wM G ad σ) 165 [(0, .ref (ad 0)), (1, .int x1), (2, .int x2), (3, .int x3), (4, .int x4), (5, .int x5), (7, .int x7), (8, .int x8)] [.int s1, .int s0] := by
  unfold f_X10_scoreOf_165 at hf
  refine V_iadd dX10_scoreOf_165 ?_
  refine V_istore [(0, .ref (ad 0)), (1, .int x1), (2, .int x2), (3, .int x3), (4, .int x4), (5, .int x5), (6, .int (s0 + s1)), (7, .int x7), (8, .int x8)] [1, 2, 3, 4, 5, 6, 0, 7, 8] dX10_scoreOf_166 (by decide) rfl ?_
  exact v_X10_scoreOf_168 hd hb15 hf
def f_X10_scoreOf_60 (bk15 : St → Int32 → Int32 → Int32 → Int32 → Int32 → Int32 → Int32 → Int32 → Option (Int32 × St)) (σ : St) (x1 : Int32) (x2 : Int32) (x3 : Int32) (x4 : Int32) (x5 : Int32) (x6 : Int32) (x7 : Int32) (x8 : Int32) (x9 : Int32) (s0 : Int32) : Option (Int32 × St) := ixo x8 7 (ixo ((0) + (ga σ 13 (Int32.toNatClampNeg x8))) 373 (bno (f_X10_letterTimes s0) fun r1 => lt (x4 + ((ga σ 0 (Int32.toNatClampNeg ((0) + (ga σ 13 (Int32.toNatClampNeg x8))))) * r1)) fun t1 => bno (f_X10_wordTimes s0) fun r2 => ixo x9 49 (if (ga σ 8 (Int32.toNatClampNeg x9)) = (-1) then (bno (f_X10_findsCross σ (x9 / (7)) (x9 - x9 / (7) * (7)) x1) fun r3 => ixo x8 7 (bno (f_X10_takesCross r3 x1 (ga r3 13 (Int32.toNatClampNeg x8))) fun r4 => if (gi r4 12) ≤ (1) then (f_X10_scoreOf_165 bk15 r4 x1 x2 x3 t1 (x5 * r2) (x7 + 1) x8 x6 (0)) else (ixo x8 7 (bno (f_X10_crossPoints r4 (ga r4 13 (Int32.toNatClampNeg x8)) s0) fun r5 => f_X10_scoreOf_165 bk15 r4 x1 x2 x3 t1 (x5 * r2) (x7 + 1) x8 x6 r5)))) else (f_X10_scoreOf_168 bk15 σ x1 x2 x3 t1 (x5 * r2) x6 x7 x8))))
set_option maxHeartbeats 4000000 in
set_option maxRecDepth 100000 in
theorem v_X10_scoreOf_60 {l : Launch} {G : Gv} {ad : Nat → Nat} {d : Nat} {av0 : List Value} {w1 : va_W} {q : (Int32 × St)} {bk15 : St → Int32 → Int32 → Int32 → Int32 → Int32 → Int32 → Int32 → Int32 → Option (Int32 × St)} {σ : St} {x1 : Int32} {x2 : Int32} {x3 : Int32} {x4 : Int32} {x5 : Int32} {x6 : Int32} {x7 : Int32} {x8 : Int32} {x9 : Int32} {s0 : Int32} (hd : 4 ≤ d) (hb15 : ∀ (σ : St) (x1 : Int32) (x2 : Int32) (x3 : Int32) (x4 : Int32) (x5 : Int32) (x6 : Int32) (x7 : Int32) (x8 : Int32), bk15 σ x1 x2 x3 x4 x5 x6 x7 x8 = some q → VV l G yX10_scoreOf cX10_scoreOf 11 (some .int) d 0 0 av0 w1 (pD (some (.int q.1)) (wM G ad q.2)) 0 0 (wM G ad σ) 15 [(0, .ref (ad 0)), (1, .int x1), (2, .int x2), (3, .int x3), (4, .int x4), (5, .int x5), (6, .int x6), (7, .int x7), (8, .int x8)] []) (hf : f_X10_scoreOf_60 bk15 σ x1 x2 x3 x4 x5 x6 x7 x8 x9 s0 = some q) : VV l G yX10_scoreOf cX10_scoreOf 11 (some .int) d 0 0 av0 w1 (pD (some (.int q.1)) (wM G ad q.2)) 0 0 (wM G ad σ) 60 [(0, .ref (ad 0)), (1, .int x1), (2, .int x2), (3, .int x3), (4, .int x4), (5, .int x5), (6, .int x6), (7, .int x7), (8, .int x8), (9, .int x9)] [.int s0] := by
  unfold f_X10_scoreOf_60 at hf
  refine V_istore [(0, .ref (ad 0)), (1, .int x1), (2, .int x2), (3, .int x3), (4, .int x4), (5, .int x5), (6, .int x6), (7, .int x7), (8, .int x8), (9, .int x9), (10, .int s0)] [1, 2, 3, 4, 5, 6, 7, 8, 9, 10, 0] dX10_scoreOf_60 (by decide) rfl ?_
  refine V_iload 4 rfl dX10_scoreOf_62 ?_
  refine V_aload_n 0 rfl dX10_scoreOf_64 rfl ?_
  refine V_get (k := 0) RC_X10 fl_X10_7 rfl (by decide) dX10_scoreOf_65 0 rfl rfl ?_
  refine V_iconst 0 dX10_scoreOf_68 (by decide) ?_
  refine V_aload_n 0 rfl dX10_scoreOf_69 rfl ?_
  refine V_get (k := 13) RC_X10 fl_X10_28 rfl (by decide) dX10_scoreOf_70 0 rfl rfl ?_
  refine V_iload 8 rfl dX10_scoreOf_73 ?_
  obtain ⟨hi, hf⟩ := ixo_some hf
  refine V_iaload dX10_scoreOf_75 7 rfl hi ?_
  refine V_iadd dX10_scoreOf_76 ?_
  obtain ⟨hi, hf⟩ := ixo_some hf
  refine V_iaload dX10_scoreOf_77 1 rfl hi ?_
  refine V_iload 10 rfl dX10_scoreOf_78 ?_
  obtain ⟨r1, hr1, hf⟩ := bno_some hf
  refine V_cS (As := [.int s0]) (rest := [.int (ga σ 0 (Int32.toNatClampNeg ((0) + (ga σ 13 (Int32.toNatClampNeg x8))))), .int x4]) (k_X10_letterTimes (d := 0) (Nat.le_refl _) hr1) LB_X10_letterTimes lk_X10_164 (by omega) dX10_scoreOf_80 rfl rfl (Nat.le_of_ble_eq_true rfl) (Nat.le_refl _) (Nat.le_refl _) [.int r1, .int (ga σ 0 (Int32.toNatClampNeg ((0) + (ga σ 13 (Int32.toNatClampNeg x8))))), .int x4] rfl ?_
  refine V_imul dX10_scoreOf_83 ?_
  refine V_iadd dX10_scoreOf_84 ?_
  obtain ⟨t1, et1, hf⟩ := lt_some hf
  refine V_topi et1 ?_
  refine V_istore [(0, .ref (ad 0)), (1, .int x1), (2, .int x2), (3, .int x3), (4, .int t1), (5, .int x5), (6, .int x6), (7, .int x7), (8, .int x8), (9, .int x9), (10, .int s0)] [1, 2, 3, 4, 0, 5, 6, 7, 8, 9, 10] dX10_scoreOf_85 (by decide) rfl ?_
  refine V_iload 5 rfl dX10_scoreOf_87 ?_
  refine V_iload 10 rfl dX10_scoreOf_89 ?_
  obtain ⟨r2, hr2, hf⟩ := bno_some hf
  refine V_cS (As := [.int s0]) (rest := [.int x5]) (k_X10_wordTimes (d := 0) (Nat.le_refl _) hr2) LB_X10_wordTimes lk_X10_167 (by omega) dX10_scoreOf_91 rfl rfl (Nat.le_of_ble_eq_true rfl) (Nat.le_refl _) (Nat.le_refl _) [.int r2, .int x5] rfl ?_
  refine V_imul dX10_scoreOf_94 ?_
  refine V_istore [(0, .ref (ad 0)), (1, .int x1), (2, .int x2), (3, .int x3), (4, .int t1), (5, .int (x5 * r2)), (6, .int x6), (7, .int x7), (8, .int x8), (9, .int x9), (10, .int s0)] [1, 2, 3, 4, 5, 0, 6, 7, 8, 9, 10] dX10_scoreOf_95 (by decide) rfl ?_
  refine V_aload_n 0 rfl dX10_scoreOf_97 rfl ?_
  refine V_get (k := 8) RC_X10 fl_X10_22 rfl (by decide) dX10_scoreOf_98 0 rfl rfl ?_
  refine V_iload 9 rfl dX10_scoreOf_101 ?_
  obtain ⟨hi, hf⟩ := ixo_some hf
  refine V_iaload dX10_scoreOf_103 5 rfl hi ?_
  refine V_iconst (-1) dX10_scoreOf_104 (by decide) ?_
  refine V_icmp_ne 168 dX10_scoreOf_105 (by decide) (fun c1 => ?_) (fun c1 => ?_)
  · replace hf := (if_neg c1).symm.trans hf
    refine V_lv [(0, .ref (ad 0)), (1, .int x1), (2, .int x2), (3, .int x3), (4, .int t1), (5, .int (x5 * r2)), (6, .int x6), (7, .int x7), (8, .int x8)] [0, 1, 2, 3, 4, 5, 6, 7, 8] rfl ?_
    exact v_X10_scoreOf_168 hd hb15 hf
  · replace hf := (if_pos c1).symm.trans hf
    refine V_iinc (1) 7 [(0, .ref (ad 0)), (1, .int x1), (2, .int x2), (3, .int x3), (4, .int t1), (5, .int (x5 * r2)), (6, .int x6), (7, .int (x7 + 1)), (8, .int x8), (9, .int x9), (10, .int s0)] [1, 2, 3, 4, 5, 6, 7, 0, 8, 9, 10] dX10_scoreOf_108 rfl (by decide) (by decide) rfl ?_
    refine V_aload_n 0 rfl dX10_scoreOf_111 rfl ?_
    refine V_iload 9 rfl dX10_scoreOf_112 ?_
    refine V_bipush 7 dX10_scoreOf_114 (by decide) ?_
    refine V_idiv dX10_scoreOf_116 (by decide) ?_
    refine V_iload 9 rfl dX10_scoreOf_117 ?_
    refine V_bipush 7 dX10_scoreOf_119 (by decide) ?_
    refine V_irem dX10_scoreOf_121 (by decide) ?_
    refine V_iload_n 1 rfl dX10_scoreOf_122 rfl ?_
    obtain ⟨r3, hr3, hf⟩ := bno_some hf
    refine V_cV (As := [.int (x9 / (7)), .int (x9 - x9 / (7) * (7)), .int x1]) (rest := []) (k_X10_findsCross (d := 3) (Nat.le_refl _) hr3) LB_X10_findsCross lk_X10_122 (by omega) dX10_scoreOf_123 rfl rfl (Nat.le_of_ble_eq_true rfl) (Nat.le_refl _) (Nat.le_refl _) 0 rfl ⟨rfl, rfl⟩ [] rfl ?_
    refine V_aload_n 0 rfl dX10_scoreOf_126 rfl ?_
    refine V_iload_n 1 rfl dX10_scoreOf_127 rfl ?_
    refine V_aload_n 0 rfl dX10_scoreOf_128 rfl ?_
    refine V_get (k := 13) RC_X10 fl_X10_28 rfl (by decide) dX10_scoreOf_129 0 rfl rfl ?_
    refine V_iload 8 rfl dX10_scoreOf_132 ?_
    obtain ⟨hi, hf⟩ := ixo_some hf
    refine V_iaload dX10_scoreOf_134 7 rfl hi ?_
    obtain ⟨r4, hr4, hf⟩ := bno_some hf
    refine V_cV (As := [.int x1, .int (ga r3 13 (Int32.toNatClampNeg x8))]) (rest := []) (k_X10_takesCross (d := 0) (Nat.le_refl _) hr4) LB_X10_takesCross lk_X10_126 (by omega) dX10_scoreOf_135 rfl rfl (Nat.le_of_ble_eq_true rfl) (Nat.le_refl _) (Nat.le_refl _) 0 rfl ⟨rfl, rfl⟩ [] rfl ?_
    refine V_iload 6 rfl dX10_scoreOf_138 ?_
    refine V_aload_n 0 rfl dX10_scoreOf_140 rfl ?_
    refine V_get (k := 12) RC_X10 fl_X10_119 rfl (by decide) dX10_scoreOf_141 0 rfl rfl ?_
    refine V_iconst 1 dX10_scoreOf_144 (by decide) ?_
    refine V_icmp_le 164 dX10_scoreOf_145 (by decide) (fun c2 => ?_) (fun c2 => ?_)
    · replace hf := (if_pos c2).symm.trans hf
      refine V_iconst 0 dX10_scoreOf_164 (by decide) ?_
      refine V_lv [(0, .ref (ad 0)), (1, .int x1), (2, .int x2), (3, .int x3), (4, .int t1), (5, .int (x5 * r2)), (7, .int (x7 + 1)), (8, .int x8)] [0, 1, 2, 3, 4, 5, 7, 8] rfl ?_
      exact v_X10_scoreOf_165 hd hb15 hf
    · replace hf := (if_neg c2).symm.trans hf
      refine V_aload_n 0 rfl dX10_scoreOf_148 rfl ?_
      refine V_aload_n 0 rfl dX10_scoreOf_149 rfl ?_
      refine V_get (k := 13) RC_X10 fl_X10_28 rfl (by decide) dX10_scoreOf_150 0 rfl rfl ?_
      refine V_iload 8 rfl dX10_scoreOf_153 ?_
      obtain ⟨hi, hf⟩ := ixo_some hf
      refine V_iaload dX10_scoreOf_155 7 rfl hi ?_
      refine V_iload 10 rfl dX10_scoreOf_156 ?_
      obtain ⟨r5, hr5, hf⟩ := bno_some hf
      refine V_cV (As := [.int (ga r4 13 (Int32.toNatClampNeg x8)), .int s0]) (rest := [.int x6]) (k_X10_crossPoints (d := 1) (Nat.le_refl _) hr5) LB_X10_crossPoints lk_X10_170 (by omega) dX10_scoreOf_158 rfl rfl (Nat.le_of_ble_eq_true rfl) (Nat.le_refl _) (Nat.le_refl _) 0 rfl ⟨rfl, rfl⟩ [.int r5, .int x6] rfl ?_
      refine V_goto 165 dX10_scoreOf_161 (by decide) ?_
      refine V_lv [(0, .ref (ad 0)), (1, .int x1), (2, .int x2), (3, .int x3), (4, .int t1), (5, .int (x5 * r2)), (7, .int (x7 + 1)), (8, .int x8)] [0, 1, 2, 3, 4, 5, 7, 8] rfl ?_
      exact v_X10_scoreOf_165 hd hb15 hf
def f_X10_scoreOf_15 : Nat → St → Int32 → Int32 → Int32 → Int32 → Int32 → Int32 → Int32 → Int32 → Option (Int32 × St)
  | 0, _, _, _, _, _, _, _, _, _ => none
  | n + 1, σ, x1, x2, x3, x4, x5, x6, x7, x8 => if (gi σ 14) ≤ x8 then (if x7 = (5) then (some ((((x4 * x5) + x6) + (20)), σ)) else (some ((((x4 * x5) + x6) + (0)), σ))) else (bno (f_X10_squareOf x1 x2 x3 x8) fun r1 => ixo r1 49 (if (ga σ 8 (Int32.toNatClampNeg r1)) = (-1) then (ixo ((306) + r1) 373 (f_X10_scoreOf_60 (f_X10_scoreOf_15 n) σ x1 x2 x3 x4 x5 x6 x7 x8 r1 (ga σ 0 (Int32.toNatClampNeg ((306) + r1))))) else (f_X10_scoreOf_60 (f_X10_scoreOf_15 n) σ x1 x2 x3 x4 x5 x6 x7 x8 r1 (0))))
set_option maxHeartbeats 4000000 in
set_option maxRecDepth 100000 in
theorem v_X10_scoreOf_15 {l : Launch} {G : Gv} {ad : Nat → Nat} {d : Nat} {av0 : List Value} {w1 : va_W} {q : (Int32 × St)} (hd : 4 ≤ d) : ∀ (n : Nat) (σ : St) (x1 : Int32) (x2 : Int32) (x3 : Int32) (x4 : Int32) (x5 : Int32) (x6 : Int32) (x7 : Int32) (x8 : Int32), f_X10_scoreOf_15 n σ x1 x2 x3 x4 x5 x6 x7 x8 = some q → VV l G yX10_scoreOf cX10_scoreOf 11 (some .int) d 0 0 av0 w1 (pD (some (.int q.1)) (wM G ad q.2)) 0 0 (wM G ad σ) 15 [(0, .ref (ad 0)), (1, .int x1), (2, .int x2), (3, .int x3), (4, .int x4), (5, .int x5), (6, .int x6), (7, .int x7), (8, .int x8)] [] := by
  intro n
  induction n with
  | zero =>
    intro σ x1 x2 x3 x4 x5 x6 x7 x8 hf
    cases hf
  | succ n ih =>
    intro σ x1 x2 x3 x4 x5 x6 x7 x8 hf
    rw [f_X10_scoreOf_15] at hf
    refine V_iload 8 rfl dX10_scoreOf_15 ?_
    refine V_aload_n 0 rfl dX10_scoreOf_17 rfl ?_
    refine V_get (k := 14) RC_X10 fl_X10_147 rfl (by decide) dX10_scoreOf_18 0 rfl rfl ?_
    refine V_icmp_ge 174 dX10_scoreOf_21 (by decide) (fun c1 => ?_) (fun c1 => ?_)
    · replace hf := (if_pos c1).symm.trans hf
      refine V_iload 4 rfl dX10_scoreOf_174 ?_
      refine V_iload 5 rfl dX10_scoreOf_176 ?_
      refine V_imul dX10_scoreOf_178 ?_
      refine V_iload 6 rfl dX10_scoreOf_179 ?_
      refine V_iadd dX10_scoreOf_181 ?_
      refine V_iload 7 rfl dX10_scoreOf_182 ?_
      refine V_iconst 5 dX10_scoreOf_184 (by decide) ?_
      refine V_icmp_ne 193 dX10_scoreOf_185 (by decide) (fun c2 => ?_) (fun c2 => ?_)
      · replace hf := (if_neg c2).symm.trans hf
        refine V_iconst 0 dX10_scoreOf_193 (by decide) ?_
        refine V_iadd dX10_scoreOf_194 ?_
        cases hf
        exact V_iret rfl dX10_scoreOf_195 ⟨rfl, rfl⟩
      · replace hf := (if_pos c2).symm.trans hf
        refine V_bipush 20 dX10_scoreOf_188 (by decide) ?_
        refine V_goto 194 dX10_scoreOf_190 (by decide) ?_
        refine V_iadd dX10_scoreOf_194 ?_
        cases hf
        exact V_iret rfl dX10_scoreOf_195 ⟨rfl, rfl⟩
    · replace hf := (if_neg c1).symm.trans hf
      refine V_iload_n 1 rfl dX10_scoreOf_24 rfl ?_
      refine V_iload_n 2 rfl dX10_scoreOf_25 rfl ?_
      refine V_iload_n 3 rfl dX10_scoreOf_26 rfl ?_
      refine V_iload 8 rfl dX10_scoreOf_27 ?_
      obtain ⟨r1, hr1, hf⟩ := bno_some hf
      refine V_cS (As := [.int x1, .int x2, .int x3, .int x8]) (rest := []) (k_X10_squareOf (d := 0) (Nat.le_refl _) hr1) LB_X10_squareOf lk_X10_150 (by omega) dX10_scoreOf_29 rfl rfl (Nat.le_of_ble_eq_true rfl) (Nat.le_refl _) (Nat.le_refl _) [.int r1] rfl ?_
      refine V_istore [(0, .ref (ad 0)), (1, .int x1), (2, .int x2), (3, .int x3), (4, .int x4), (5, .int x5), (6, .int x6), (7, .int x7), (8, .int x8), (9, .int r1)] [1, 2, 3, 4, 5, 6, 7, 8, 9, 0] dX10_scoreOf_32 (by decide) rfl ?_
      refine V_aload_n 0 rfl dX10_scoreOf_34 rfl ?_
      refine V_get (k := 8) RC_X10 fl_X10_22 rfl (by decide) dX10_scoreOf_35 0 rfl rfl ?_
      refine V_iload 9 rfl dX10_scoreOf_38 ?_
      obtain ⟨hi, hf⟩ := ixo_some hf
      refine V_iaload dX10_scoreOf_40 5 rfl hi ?_
      refine V_iconst (-1) dX10_scoreOf_41 (by decide) ?_
      refine V_icmp_ne 59 dX10_scoreOf_42 (by decide) (fun c3 => ?_) (fun c3 => ?_)
      · replace hf := (if_neg c3).symm.trans hf
        refine V_iconst 0 dX10_scoreOf_59 (by decide) ?_
        exact v_X10_scoreOf_60 hd ih hf
      · replace hf := (if_pos c3).symm.trans hf
        refine V_aload_n 0 rfl dX10_scoreOf_45 rfl ?_
        refine V_get (k := 0) RC_X10 fl_X10_7 rfl (by decide) dX10_scoreOf_46 0 rfl rfl ?_
        refine V_sipush 306 dX10_scoreOf_49 (by decide) ?_
        refine V_iload 9 rfl dX10_scoreOf_52 ?_
        refine V_iadd dX10_scoreOf_54 ?_
        obtain ⟨hi, hf⟩ := ixo_some hf
        refine V_iaload dX10_scoreOf_55 1 rfl hi ?_
        refine V_goto 60 dX10_scoreOf_56 (by decide) ?_
        exact v_X10_scoreOf_60 hd ih hf
def f_X10_scoreOf (σ : St) (x1 : Int32) (x2 : Int32) (x3 : Int32) : Option (Int32 × St) := f_X10_scoreOf_15 FU σ x1 x2 x3 (0) (1) (0) (0) (0)
set_option maxHeartbeats 4000000 in
set_option maxRecDepth 100000 in
theorem v_X10_scoreOf {l : Launch} {G : Gv} {ad : Nat → Nat} {d : Nat} {av0 : List Value} {w1 : va_W} {q : (Int32 × St)} {σ : St} {x1 : Int32} {x2 : Int32} {x3 : Int32} (hd : 4 ≤ d) (hf : f_X10_scoreOf σ x1 x2 x3 = some q) : VV l G yX10_scoreOf cX10_scoreOf 11 (some .int) d 0 0 av0 w1 (pD (some (.int q.1)) (wM G ad q.2)) 0 0 (wM G ad σ) 0 [(0, .ref (ad 0)), (1, .int x1), (2, .int x2), (3, .int x3)] [] := by
  unfold f_X10_scoreOf at hf
  refine V_iconst 0 dX10_scoreOf_0 (by decide) ?_
  refine V_istore [(0, .ref (ad 0)), (1, .int x1), (2, .int x2), (3, .int x3), (4, .int (0))] [1, 2, 3, 4, 0] dX10_scoreOf_1 (by decide) rfl ?_
  refine V_iconst 1 dX10_scoreOf_3 (by decide) ?_
  refine V_istore [(0, .ref (ad 0)), (1, .int x1), (2, .int x2), (3, .int x3), (4, .int (0)), (5, .int (1))] [1, 2, 3, 4, 5, 0] dX10_scoreOf_4 (by decide) rfl ?_
  refine V_iconst 0 dX10_scoreOf_6 (by decide) ?_
  refine V_istore [(0, .ref (ad 0)), (1, .int x1), (2, .int x2), (3, .int x3), (4, .int (0)), (5, .int (1)), (6, .int (0))] [1, 2, 3, 4, 5, 6, 0] dX10_scoreOf_7 (by decide) rfl ?_
  refine V_iconst 0 dX10_scoreOf_9 (by decide) ?_
  refine V_istore [(0, .ref (ad 0)), (1, .int x1), (2, .int x2), (3, .int x3), (4, .int (0)), (5, .int (1)), (6, .int (0)), (7, .int (0))] [1, 2, 3, 4, 5, 6, 7, 0] dX10_scoreOf_10 (by decide) rfl ?_
  refine V_iconst 0 dX10_scoreOf_12 (by decide) ?_
  refine V_istore [(0, .ref (ad 0)), (1, .int x1), (2, .int x2), (3, .int x3), (4, .int (0)), (5, .int (1)), (6, .int (0)), (7, .int (0)), (8, .int (0))] [1, 2, 3, 4, 5, 6, 7, 8, 0] dX10_scoreOf_13 (by decide) rfl ?_
  exact v_X10_scoreOf_15 hd _ _ _ _ _ _ _ _ _ _ hf
theorem k_X10_scoreOf {l : Launch} {G : Gv} {ad : Nat → Nat} {d : Nat} {σ : St} {q : (Int32 × St)} {x1 : Int32} {x2 : Int32} {x3 : Int32} (hd : 4 ≤ d) (hf : f_X10_scoreOf σ x1 x2 x3 = some q) : K l G yX10_scoreOf cX10_scoreOf 11 (some .int) d 0 0 [.ref (ad 0), .int x1, .int x2, .int x3] (wM G ad σ) (pD (some (.int q.1)) (wM G ad q.2)) := K_intro (by decide) (Nat.le_of_ble_eq_true rfl) (v_X10_scoreOf hd hf)
def f_X10_lays_57 (bk3 : St → Int32 → Int32 → Int32 → Int32 → Int32 → Option St) (σ : St) (x1 : Int32) (x2 : Int32) (x3 : Int32) (x4 : Int32) (x5 : Int32) (x6 : Int32) (s1 : Int32) (s2 : Int32) (s3 : Int32) : Option St := ixo s1 16 (lt (sa σ 9 (upd (ga σ 9) (Int32.toNatClampNeg s1) (s2 - s3))) fun σ1 => ixo x5 7 (ixo x6 49 (lt (sa σ1 8 (upd (ga σ1 8) (Int32.toNatClampNeg x6) (ga σ1 13 (Int32.toNatClampNeg x5)))) fun σ2 => bk3 σ2 x1 x2 x3 x4 (x5 + 1))))
set_option maxHeartbeats 4000000 in
set_option maxRecDepth 100000 in
theorem v_X10_lays_57 {l : Launch} {G : Gv} {ad : Nat → Nat} {d : Nat} {av0 : List Value} {w1 : va_W} {q : St} {bk3 : St → Int32 → Int32 → Int32 → Int32 → Int32 → Option St} {σ : St} {x1 : Int32} {x2 : Int32} {x3 : Int32} {x4 : Int32} {x5 : Int32} {x6 : Int32} {s1 : Int32} {s2 : Int32} {s3 : Int32} (hd : 1 ≤ d) (hb3 : ∀ (σ : St) (x1 : Int32) (x2 : Int32) (x3 : Int32) (x4 : Int32) (x5 : Int32), bk3 σ x1 x2 x3 x4 x5 = some q → VV l G yX10_lays cX10_lays 7 none d 0 0 av0 w1 (pD none (wM G ad q)) 0 0 (wM G ad σ) 3 [(0, .ref (ad 0)), (1, .int x1), (2, .int x2), (3, .int x3), (4, .int x4), (5, .int x5)] []) (hf : f_X10_lays_57 bk3 σ x1 x2 x3 x4 x5 x6 s1 s2 s3 = some q) : VV l G yX10_lays cX10_lays 7 none d 0 0 av0 w1 (pD none (wM G ad q)) 0 0 (wM G ad σ) 57 [(0, .ref (ad 0)), (1, .int x1), (2, .int x2), (3, .int x3), (4, .int x4), (5, .int x5), (6, .int x6)] [.int s3, .int s2, .int s1, .ref (ad 6)] := by
  unfold f_X10_lays_57 at hf
  refine V_isub dX10_lays_57 ?_
  obtain ⟨hi, hf⟩ := ixo_some hf
  obtain ⟨σ1, eσ1, hf⟩ := lt_some hf
  refine V_iastore dX10_lays_58 6 rfl hi (wM G ad σ1) (by rw [eσ1]; rfl) ?_
  refine V_aload_n 0 rfl dX10_lays_59 rfl ?_
  refine V_get (k := 8) RC_X10 fl_X10_22 rfl (by decide) dX10_lays_60 0 rfl rfl ?_
  refine V_iload 6 rfl dX10_lays_63 ?_
  refine V_aload_n 0 rfl dX10_lays_65 rfl ?_
  refine V_get (k := 13) RC_X10 fl_X10_28 rfl (by decide) dX10_lays_66 0 rfl rfl ?_
  refine V_iload 5 rfl dX10_lays_69 ?_
  obtain ⟨hi, hf⟩ := ixo_some hf
  refine V_iaload dX10_lays_71 7 rfl hi ?_
  obtain ⟨hi, hf⟩ := ixo_some hf
  obtain ⟨σ2, eσ2, hf⟩ := lt_some hf
  refine V_iastore dX10_lays_72 5 rfl hi (wM G ad σ2) (by rw [eσ2]; rfl) ?_
  refine V_iinc (1) 5 [(0, .ref (ad 0)), (1, .int x1), (2, .int x2), (3, .int x3), (4, .int x4), (5, .int (x5 + 1)), (6, .int x6)] [1, 2, 3, 4, 5, 0, 6] dX10_lays_73 rfl (by decide) (by decide) rfl ?_
  refine V_goto 3 dX10_lays_76 (by decide) ?_
  refine V_lv [(0, .ref (ad 0)), (1, .int x1), (2, .int x2), (3, .int x3), (4, .int x4), (5, .int (x5 + 1))] [0, 1, 2, 3, 4, 5] rfl ?_
  exact hb3 _ _ _ _ _ _ hf
def f_X10_lays_3 : Nat → St → Int32 → Int32 → Int32 → Int32 → Int32 → Option St
  | 0, _, _, _, _, _, _ => none
  | n + 1, σ, x1, x2, x3, x4, x5 => if (gi σ 14) ≤ x5 then (some σ) else (bno (f_X10_squareOf x2 x3 x4 x5) fun r1 => ixo x5 7 (ixo (((8) * x1) + (ga σ 13 (Int32.toNatClampNeg x5))) 16 (ixo r1 49 (if (ga σ 8 (Int32.toNatClampNeg r1)) = (-1) then (f_X10_lays_57 (f_X10_lays_3 n) σ x1 x2 x3 x4 x5 r1 (((8) * x1) + (ga σ 13 (Int32.toNatClampNeg x5))) (ga σ 9 (Int32.toNatClampNeg (((8) * x1) + (ga σ 13 (Int32.toNatClampNeg x5))))) (1)) else (f_X10_lays_57 (f_X10_lays_3 n) σ x1 x2 x3 x4 x5 r1 (((8) * x1) + (ga σ 13 (Int32.toNatClampNeg x5))) (ga σ 9 (Int32.toNatClampNeg (((8) * x1) + (ga σ 13 (Int32.toNatClampNeg x5))))) (0))))))
set_option maxHeartbeats 4000000 in
set_option maxRecDepth 100000 in
theorem v_X10_lays_3 {l : Launch} {G : Gv} {ad : Nat → Nat} {d : Nat} {av0 : List Value} {w1 : va_W} {q : St} (hd : 1 ≤ d) : ∀ (n : Nat) (σ : St) (x1 : Int32) (x2 : Int32) (x3 : Int32) (x4 : Int32) (x5 : Int32), f_X10_lays_3 n σ x1 x2 x3 x4 x5 = some q → VV l G yX10_lays cX10_lays 7 none d 0 0 av0 w1 (pD none (wM G ad q)) 0 0 (wM G ad σ) 3 [(0, .ref (ad 0)), (1, .int x1), (2, .int x2), (3, .int x3), (4, .int x4), (5, .int x5)] [] := by
  intro n
  induction n with
  | zero =>
    intro σ x1 x2 x3 x4 x5 hf
    cases hf
  | succ n ih =>
    intro σ x1 x2 x3 x4 x5 hf
    rw [f_X10_lays_3] at hf
    refine V_iload 5 rfl dX10_lays_3 ?_
    refine V_aload_n 0 rfl dX10_lays_5 rfl ?_
    refine V_get (k := 14) RC_X10 fl_X10_147 rfl (by decide) dX10_lays_6 0 rfl rfl ?_
    refine V_icmp_ge 79 dX10_lays_9 (by decide) (fun c1 => ?_) (fun c1 => ?_)
    · replace hf := (if_pos c1).symm.trans hf
      cases hf
      exact V_vret rfl dX10_lays_79 ⟨rfl, rfl⟩
    · replace hf := (if_neg c1).symm.trans hf
      refine V_iload_n 2 rfl dX10_lays_12 rfl ?_
      refine V_iload_n 3 rfl dX10_lays_13 rfl ?_
      refine V_iload 4 rfl dX10_lays_14 ?_
      refine V_iload 5 rfl dX10_lays_16 ?_
      obtain ⟨r1, hr1, hf⟩ := bno_some hf
      refine V_cS (As := [.int x2, .int x3, .int x4, .int x5]) (rest := []) (k_X10_squareOf (d := 0) (Nat.le_refl _) hr1) LB_X10_squareOf lk_X10_150 (by omega) dX10_lays_18 rfl rfl (Nat.le_of_ble_eq_true rfl) (Nat.le_refl _) (Nat.le_refl _) [.int r1] rfl ?_
      refine V_istore [(0, .ref (ad 0)), (1, .int x1), (2, .int x2), (3, .int x3), (4, .int x4), (5, .int x5), (6, .int r1)] [1, 2, 3, 4, 5, 6, 0] dX10_lays_21 (by decide) rfl ?_
      refine V_aload_n 0 rfl dX10_lays_23 rfl ?_
      refine V_get (k := 9) RC_X10 fl_X10_25 rfl (by decide) dX10_lays_24 0 rfl rfl ?_
      refine V_bipush 8 dX10_lays_27 (by decide) ?_
      refine V_iload_n 1 rfl dX10_lays_29 rfl ?_
      refine V_imul dX10_lays_30 ?_
      refine V_aload_n 0 rfl dX10_lays_31 rfl ?_
      refine V_get (k := 13) RC_X10 fl_X10_28 rfl (by decide) dX10_lays_32 0 rfl rfl ?_
      refine V_iload 5 rfl dX10_lays_35 ?_
      obtain ⟨hi, hf⟩ := ixo_some hf
      refine V_iaload dX10_lays_37 7 rfl hi ?_
      refine V_iadd dX10_lays_38 ?_
      refine V_dup2 rfl rfl dX10_lays_39 ?_
      obtain ⟨hi, hf⟩ := ixo_some hf
      refine V_iaload dX10_lays_40 6 rfl hi ?_
      refine V_aload_n 0 rfl dX10_lays_41 rfl ?_
      refine V_get (k := 8) RC_X10 fl_X10_22 rfl (by decide) dX10_lays_42 0 rfl rfl ?_
      refine V_iload 6 rfl dX10_lays_45 ?_
      obtain ⟨hi, hf⟩ := ixo_some hf
      refine V_iaload dX10_lays_47 5 rfl hi ?_
      refine V_iconst (-1) dX10_lays_48 (by decide) ?_
      refine V_icmp_ne 56 dX10_lays_49 (by decide) (fun c2 => ?_) (fun c2 => ?_)
      · replace hf := (if_neg c2).symm.trans hf
        refine V_iconst 0 dX10_lays_56 (by decide) ?_
        exact v_X10_lays_57 hd ih hf
      · replace hf := (if_pos c2).symm.trans hf
        refine V_iconst 1 dX10_lays_52 (by decide) ?_
        refine V_goto 57 dX10_lays_53 (by decide) ?_
        exact v_X10_lays_57 hd ih hf
def f_X10_lays (σ : St) (x1 : Int32) (x2 : Int32) (x3 : Int32) (x4 : Int32) : Option St := f_X10_lays_3 FU σ x1 x2 x3 x4 (0)
set_option maxHeartbeats 4000000 in
set_option maxRecDepth 100000 in
theorem v_X10_lays {l : Launch} {G : Gv} {ad : Nat → Nat} {d : Nat} {av0 : List Value} {w1 : va_W} {q : St} {σ : St} {x1 : Int32} {x2 : Int32} {x3 : Int32} {x4 : Int32} (hd : 1 ≤ d) (hf : f_X10_lays σ x1 x2 x3 x4 = some q) : VV l G yX10_lays cX10_lays 7 none d 0 0 av0 w1 (pD none (wM G ad q)) 0 0 (wM G ad σ) 0 [(0, .ref (ad 0)), (1, .int x1), (2, .int x2), (3, .int x3), (4, .int x4)] [] := by
  unfold f_X10_lays at hf
  refine V_iconst 0 dX10_lays_0 (by decide) ?_
  refine V_istore [(0, .ref (ad 0)), (1, .int x1), (2, .int x2), (3, .int x3), (4, .int x4), (5, .int (0))] [1, 2, 3, 4, 5, 0] dX10_lays_1 (by decide) rfl ?_
  exact v_X10_lays_3 hd _ _ _ _ _ _ _ hf
theorem k_X10_lays {l : Launch} {G : Gv} {ad : Nat → Nat} {d : Nat} {σ : St} {q : St} {x1 : Int32} {x2 : Int32} {x3 : Int32} {x4 : Int32} (hd : 1 ≤ d) (hf : f_X10_lays σ x1 x2 x3 x4 = some q) : K l G yX10_lays cX10_lays 7 none d 0 0 [.ref (ad 0), .int x1, .int x2, .int x3, .int x4] (wM G ad σ) (pD none (wM G ad q)) := K_intro (by decide) (Nat.le_of_ble_eq_true rfl) (v_X10_lays hd hf)
def f_X10_keepsBoard_32 : Nat → St → Int32 → Option St
  | 0, _, _ => none
  | n + 1, σ, x1 => if (16) ≤ x1 then (some σ) else (ixo x1 16 (ixo ((355) + x1) 373 (lt (sa σ 0 (upd (ga σ 0) (Int32.toNatClampNeg ((355) + x1)) (ga σ 9 (Int32.toNatClampNeg x1)))) fun σ1 => f_X10_keepsBoard_32 n σ1 (x1 + 1))))
set_option maxHeartbeats 4000000 in
set_option maxRecDepth 100000 in
theorem v_X10_keepsBoard_32 {l : Launch} {G : Gv} {ad : Nat → Nat} {d : Nat} {av0 : List Value} {w1 : va_W} {q : St} (hd : 0 ≤ d) : ∀ (n : Nat) (σ : St) (x1 : Int32), f_X10_keepsBoard_32 n σ x1 = some q → VV l G yX10_keepsBoard cX10_keepsBoard 2 none d 0 0 av0 w1 (pD none (wM G ad q)) 0 0 (wM G ad σ) 32 [(0, .ref (ad 0)), (1, .int x1)] [] := by
  intro n
  induction n with
  | zero =>
    intro σ x1 hf
    cases hf
  | succ n ih =>
    intro σ x1 hf
    rw [f_X10_keepsBoard_32] at hf
    refine V_iload_n 1 rfl dX10_keepsBoard_32 rfl ?_
    refine V_bipush 16 dX10_keepsBoard_33 (by decide) ?_
    refine V_icmp_ge 60 dX10_keepsBoard_35 (by decide) (fun c1 => ?_) (fun c1 => ?_)
    · replace hf := (if_pos c1).symm.trans hf
      cases hf
      exact V_vret rfl dX10_keepsBoard_60 ⟨rfl, rfl⟩
    · replace hf := (if_neg c1).symm.trans hf
      refine V_aload_n 0 rfl dX10_keepsBoard_38 rfl ?_
      refine V_get (k := 0) RC_X10 fl_X10_7 rfl (by decide) dX10_keepsBoard_39 0 rfl rfl ?_
      refine V_sipush 355 dX10_keepsBoard_42 (by decide) ?_
      refine V_iload_n 1 rfl dX10_keepsBoard_45 rfl ?_
      refine V_iadd dX10_keepsBoard_46 ?_
      refine V_aload_n 0 rfl dX10_keepsBoard_47 rfl ?_
      refine V_get (k := 9) RC_X10 fl_X10_25 rfl (by decide) dX10_keepsBoard_48 0 rfl rfl ?_
      refine V_iload_n 1 rfl dX10_keepsBoard_51 rfl ?_
      obtain ⟨hi, hf⟩ := ixo_some hf
      refine V_iaload dX10_keepsBoard_52 6 rfl hi ?_
      obtain ⟨hi, hf⟩ := ixo_some hf
      obtain ⟨σ1, eσ1, hf⟩ := lt_some hf
      refine V_iastore dX10_keepsBoard_53 1 rfl hi (wM G ad σ1) (by rw [eσ1]; rfl) ?_
      refine V_iinc (1) 1 [(0, .ref (ad 0)), (1, .int (x1 + 1))] [1, 0] dX10_keepsBoard_54 rfl (by decide) (by decide) rfl ?_
      refine V_goto 32 dX10_keepsBoard_57 (by decide) ?_
      exact ih _ _ hf
def f_X10_keepsBoard_2 : Nat → St → Int32 → Option St
  | 0, _, _ => none
  | n + 1, σ, x1 => if (49) ≤ x1 then (f_X10_keepsBoard_32 FU σ (0)) else (ixo x1 49 (ixo ((257) + x1) 373 (lt (sa σ 0 (upd (ga σ 0) (Int32.toNatClampNeg ((257) + x1)) (ga σ 8 (Int32.toNatClampNeg x1)))) fun σ1 => f_X10_keepsBoard_2 n σ1 (x1 + 1))))
set_option maxHeartbeats 4000000 in
set_option maxRecDepth 100000 in
theorem v_X10_keepsBoard_2 {l : Launch} {G : Gv} {ad : Nat → Nat} {d : Nat} {av0 : List Value} {w1 : va_W} {q : St} (hd : 0 ≤ d) : ∀ (n : Nat) (σ : St) (x1 : Int32), f_X10_keepsBoard_2 n σ x1 = some q → VV l G yX10_keepsBoard cX10_keepsBoard 2 none d 0 0 av0 w1 (pD none (wM G ad q)) 0 0 (wM G ad σ) 2 [(0, .ref (ad 0)), (1, .int x1)] [] := by
  intro n
  induction n with
  | zero =>
    intro σ x1 hf
    cases hf
  | succ n ih =>
    intro σ x1 hf
    rw [f_X10_keepsBoard_2] at hf
    refine V_iload_n 1 rfl dX10_keepsBoard_2 rfl ?_
    refine V_bipush 49 dX10_keepsBoard_3 (by decide) ?_
    refine V_icmp_ge 30 dX10_keepsBoard_5 (by decide) (fun c1 => ?_) (fun c1 => ?_)
    · replace hf := (if_pos c1).symm.trans hf
      refine V_iconst 0 dX10_keepsBoard_30 (by decide) ?_
      refine V_istore_n [(0, .ref (ad 0)), (1, .int (0))] [1, 0] dX10_keepsBoard_31 rfl (by decide) rfl ?_
      exact v_X10_keepsBoard_32 hd _ _ _ hf
    · replace hf := (if_neg c1).symm.trans hf
      refine V_aload_n 0 rfl dX10_keepsBoard_8 rfl ?_
      refine V_get (k := 0) RC_X10 fl_X10_7 rfl (by decide) dX10_keepsBoard_9 0 rfl rfl ?_
      refine V_sipush 257 dX10_keepsBoard_12 (by decide) ?_
      refine V_iload_n 1 rfl dX10_keepsBoard_15 rfl ?_
      refine V_iadd dX10_keepsBoard_16 ?_
      refine V_aload_n 0 rfl dX10_keepsBoard_17 rfl ?_
      refine V_get (k := 8) RC_X10 fl_X10_22 rfl (by decide) dX10_keepsBoard_18 0 rfl rfl ?_
      refine V_iload_n 1 rfl dX10_keepsBoard_21 rfl ?_
      obtain ⟨hi, hf⟩ := ixo_some hf
      refine V_iaload dX10_keepsBoard_22 5 rfl hi ?_
      obtain ⟨hi, hf⟩ := ixo_some hf
      obtain ⟨σ1, eσ1, hf⟩ := lt_some hf
      refine V_iastore dX10_keepsBoard_23 1 rfl hi (wM G ad σ1) (by rw [eσ1]; rfl) ?_
      refine V_iinc (1) 1 [(0, .ref (ad 0)), (1, .int (x1 + 1))] [1, 0] dX10_keepsBoard_24 rfl (by decide) (by decide) rfl ?_
      refine V_goto 2 dX10_keepsBoard_27 (by decide) ?_
      exact ih _ _ hf
def f_X10_keepsBoard (σ : St) : Option St := f_X10_keepsBoard_2 FU σ (0)
set_option maxHeartbeats 4000000 in
set_option maxRecDepth 100000 in
theorem v_X10_keepsBoard {l : Launch} {G : Gv} {ad : Nat → Nat} {d : Nat} {av0 : List Value} {w1 : va_W} {q : St} {σ : St} (hd : 0 ≤ d) (hf : f_X10_keepsBoard σ = some q) : VV l G yX10_keepsBoard cX10_keepsBoard 2 none d 0 0 av0 w1 (pD none (wM G ad q)) 0 0 (wM G ad σ) 0 [(0, .ref (ad 0))] [] := by
  unfold f_X10_keepsBoard at hf
  refine V_iconst 0 dX10_keepsBoard_0 (by decide) ?_
  refine V_istore_n [(0, .ref (ad 0)), (1, .int (0))] [1, 0] dX10_keepsBoard_1 rfl (by decide) rfl ?_
  exact v_X10_keepsBoard_2 hd _ _ _ hf
theorem k_X10_keepsBoard {l : Launch} {G : Gv} {ad : Nat → Nat} {d : Nat} {σ : St} {q : St} (hd : 0 ≤ d) (hf : f_X10_keepsBoard σ = some q) : K l G yX10_keepsBoard cX10_keepsBoard 2 none d 0 0 [.ref (ad 0)] (wM G ad σ) (pD none (wM G ad q)) := K_intro (by decide) (Nat.le_of_ble_eq_true rfl) (v_X10_keepsBoard hd hf)
def f_X10_check_22 (σ : St) (x1 : Int32) (x2 : Int32) (x3 : Int32) (x4 : Int32) (s1 : Int32) : Option (Int32 × St) := bno (f_X10_in (Int32.toInt64 x2) (0) (1)) fun r1 => bno (f_X10_goes σ s1 (b2i r1) (1)) fun r2 => if (b2i r2.1) = 0 then (some ((0), r2.2)) else (bno (f_X10_laysNow r2.2) fun r3 => bno (f_X10_takesText r3) fun r4 => bno (f_X10_reason r4 x1 x2 x3 x4) fun r5 => some (r5.1, r5.2))
set_option maxHeartbeats 4000000 in
set_option maxRecDepth 100000 in
theorem v_X10_check_22 {l : Launch} {G : Gv} {ad : Nat → Nat} {d : Nat} {av0 : List Value} {w1 : va_W} {q : (Int32 × St)} {σ : St} {x1 : Int32} {x2 : Int32} {x3 : Int32} {x4 : Int32} {s1 : Int32} (hd : 5 ≤ d) (hf : f_X10_check_22 σ x1 x2 x3 x4 s1 = some q) : VV l G yX10_check cX10_check 5 (some .int) d 0 0 av0 w1 (pD (some (.int q.1)) (wM G ad q.2)) 0 0 (wM G ad σ) 22 [(0, .ref (ad 0)), (1, .int x1), (2, .int x2), (3, .int x3), (4, .int x4)] [.int s1, .ref (ad 0)] := by
  unfold f_X10_check_22 at hf
  refine V_iload_n 2 rfl dX10_check_22 rfl ?_
  refine V_i2l dX10_check_23 ?_
  refine V_lconst 0 dX10_check_24 (by decide) ?_
  refine V_lconst 1 dX10_check_25 (by decide) ?_
  obtain ⟨r1, hr1, hf⟩ := bno_some hf
  refine V_cS (As := [.long (Int32.toInt64 x2), .long (0), .long (1)]) (rest := [.int s1, .ref (ad 0)]) (k_X10_in (d := 0) (Nat.le_refl _) hr1) LB_X10_in lk_X10_61 (by omega) dX10_check_26 rfl rfl (Nat.le_of_ble_eq_true rfl) (Nat.le_refl _) (Nat.le_refl _) [.int (b2i r1), .int s1, .ref (ad 0)] rfl ?_
  refine V_iconst 1 dX10_check_29 (by decide) ?_
  obtain ⟨r2, hr2, hf⟩ := bno_some hf
  refine V_cV (As := [.int s1, .int (b2i r1), .int (1)]) (rest := []) (k_X10_goes (d := 0) (Nat.le_refl _) hr2) LB_X10_goes lk_X10_74 (by omega) dX10_check_30 rfl rfl (Nat.le_of_ble_eq_true rfl) (Nat.le_refl _) (Nat.le_refl _) 0 rfl ⟨rfl, rfl⟩ [.int (b2i r2.1)] rfl ?_
  refine V_if_ne 38 dX10_check_33 (by decide) (fun c1 => ?_) (fun c1 => ?_)
  · replace hf := (if_neg c1).symm.trans hf
    refine V_aload_n 0 rfl dX10_check_38 rfl ?_
    obtain ⟨r3, hr3, hf⟩ := bno_some hf
    refine V_cV (As := []) (rest := []) (k_X10_laysNow (d := 0) (Nat.le_refl _) hr3) LB_X10_laysNow lk_X10_130 (by omega) dX10_check_39 rfl rfl (Nat.le_of_ble_eq_true rfl) (Nat.le_refl _) (Nat.le_refl _) 0 rfl ⟨rfl, rfl⟩ [] rfl ?_
    refine V_aload_n 0 rfl dX10_check_42 rfl ?_
    obtain ⟨r4, hr4, hf⟩ := bno_some hf
    refine V_cV (As := []) (rest := []) (k_X10_takesText (d := 0) (Nat.le_refl _) hr4) LB_X10_takesText lk_X10_88 (by omega) dX10_check_43 rfl rfl (Nat.le_of_ble_eq_true rfl) (Nat.le_refl _) (Nat.le_refl _) 0 rfl ⟨rfl, rfl⟩ [] rfl ?_
    refine V_aload_n 0 rfl dX10_check_46 rfl ?_
    refine V_iload_n 1 rfl dX10_check_47 rfl ?_
    refine V_iload_n 2 rfl dX10_check_48 rfl ?_
    refine V_iload_n 3 rfl dX10_check_49 rfl ?_
    refine V_iload 4 rfl dX10_check_50 ?_
    obtain ⟨r5, hr5, hf⟩ := bno_some hf
    refine V_cV (As := [.int x1, .int x2, .int x3, .int x4]) (rest := []) (k_X10_reason (d := 4) (Nat.le_refl _) hr5) LB_X10_reason lk_X10_174 (by omega) dX10_check_52 rfl rfl (Nat.le_of_ble_eq_true rfl) (Nat.le_refl _) (Nat.le_refl _) 0 rfl ⟨rfl, rfl⟩ [.int r5.1] rfl ?_
    cases hf
    exact V_iret rfl dX10_check_55 ⟨rfl, rfl⟩
  · replace hf := (if_pos c1).symm.trans hf
    refine V_iconst 0 dX10_check_36 (by decide) ?_
    cases hf
    exact V_iret rfl dX10_check_37 ⟨rfl, rfl⟩
def f_X10_check_21 (σ : St) (x1 : Int32) (x2 : Int32) (x3 : Int32) (x4 : Int32) : Option (Int32 × St) := f_X10_check_22 σ x1 x2 x3 x4 (0)
set_option maxHeartbeats 4000000 in
set_option maxRecDepth 100000 in
theorem v_X10_check_21 {l : Launch} {G : Gv} {ad : Nat → Nat} {d : Nat} {av0 : List Value} {w1 : va_W} {q : (Int32 × St)} {σ : St} {x1 : Int32} {x2 : Int32} {x3 : Int32} {x4 : Int32} (hd : 5 ≤ d) (hf : f_X10_check_21 σ x1 x2 x3 x4 = some q) : VV l G yX10_check cX10_check 5 (some .int) d 0 0 av0 w1 (pD (some (.int q.1)) (wM G ad q.2)) 0 0 (wM G ad σ) 21 [(0, .ref (ad 0)), (1, .int x1), (2, .int x2), (3, .int x3), (4, .int x4)] [.ref (ad 0)] := by
  unfold f_X10_check_21 at hf
  refine V_iconst 0 dX10_check_21 (by decide) ?_
  exact v_X10_check_22 hd hf
def f_X10_check (σ : St) (x1 : Int32) (x2 : Int32) (x3 : Int32) (x4 : Int32) : Option (Int32 × St) := bno (f_X10_isPlayer x1) fun r1 => if (b2i r1) = 0 then (f_X10_check_21 σ x1 x2 x3 x4) else (bno (f_X10_isSquare x3 x4) fun r2 => if (b2i r2) = 0 then (f_X10_check_21 σ x1 x2 x3 x4) else (f_X10_check_22 σ x1 x2 x3 x4 (1)))
set_option maxHeartbeats 4000000 in
set_option maxRecDepth 100000 in
theorem v_X10_check {l : Launch} {G : Gv} {ad : Nat → Nat} {d : Nat} {av0 : List Value} {w1 : va_W} {q : (Int32 × St)} {σ : St} {x1 : Int32} {x2 : Int32} {x3 : Int32} {x4 : Int32} (hd : 5 ≤ d) (hf : f_X10_check σ x1 x2 x3 x4 = some q) : VV l G yX10_check cX10_check 5 (some .int) d 0 0 av0 w1 (pD (some (.int q.1)) (wM G ad q.2)) 0 0 (wM G ad σ) 0 [(0, .ref (ad 0)), (1, .int x1), (2, .int x2), (3, .int x3), (4, .int x4)] [] := by
  unfold f_X10_check at hf
  refine V_aload_n 0 rfl dX10_check_0 rfl ?_
  refine V_iload_n 1 rfl dX10_check_1 rfl ?_
  obtain ⟨r1, hr1, hf⟩ := bno_some hf
  refine V_cS (As := [.int x1]) (rest := [.ref (ad 0)]) (k_X10_isPlayer (d := 1) (Nat.le_refl _) hr1) LB_X10_isPlayer lk_X10_107 (by omega) dX10_check_2 rfl rfl (Nat.le_of_ble_eq_true rfl) (Nat.le_refl _) (Nat.le_refl _) [.int (b2i r1), .ref (ad 0)] rfl ?_
  refine V_if_eq 21 dX10_check_5 (by decide) (fun c1 => ?_) (fun c1 => ?_)
  · replace hf := (if_pos c1).symm.trans hf
    exact v_X10_check_21 hd hf
  · replace hf := (if_neg c1).symm.trans hf
    refine V_iload_n 3 rfl dX10_check_8 rfl ?_
    refine V_iload 4 rfl dX10_check_9 ?_
    obtain ⟨r2, hr2, hf⟩ := bno_some hf
    refine V_cS (As := [.int x3, .int x4]) (rest := [.ref (ad 0)]) (k_X10_isSquare (d := 1) (Nat.le_refl _) hr2) LB_X10_isSquare lk_X10_101 (by omega) dX10_check_11 rfl rfl (Nat.le_of_ble_eq_true rfl) (Nat.le_refl _) (Nat.le_refl _) [.int (b2i r2), .ref (ad 0)] rfl ?_
    refine V_if_eq 21 dX10_check_14 (by decide) (fun c2 => ?_) (fun c2 => ?_)
    · replace hf := (if_pos c2).symm.trans hf
      exact v_X10_check_21 hd hf
    · replace hf := (if_neg c2).symm.trans hf
      refine V_iconst 1 dX10_check_17 (by decide) ?_
      refine V_goto 22 dX10_check_18 (by decide) ?_
      exact v_X10_check_22 hd hf
theorem k_X10_check {l : Launch} {G : Gv} {ad : Nat → Nat} {d : Nat} {σ : St} {q : (Int32 × St)} {x1 : Int32} {x2 : Int32} {x3 : Int32} {x4 : Int32} (hd : 5 ≤ d) (hf : f_X10_check σ x1 x2 x3 x4 = some q) : K l G yX10_check cX10_check 5 (some .int) d 0 0 [.ref (ad 0), .int x1, .int x2, .int x3, .int x4] (wM G ad σ) (pD (some (.int q.1)) (wM G ad q.2)) := K_intro (by decide) (Nat.le_of_ble_eq_true rfl) (v_X10_check hd hf)
def f_X10_makes (σ : St) (x1 : Int32) (x2 : Int32) (x3 : Int32) (x4 : Int32) : Option (Int32 × St) := bno (f_X10_scoreOf σ x2 x3 x4) fun r1 => bno (f_X10_lays r1.2 x1 x2 x3 x4) fun r2 => bno (f_X10_keepsBoard r2) fun r3 => ixo ((371) + x1) 373 (ixo ((371) + x1) 373 (lt (sa r3 0 (upd (ga r3 0) (Int32.toNatClampNeg ((371) + x1)) ((ga r3 0 (Int32.toNatClampNeg ((371) + x1))) + r1.1))) fun σ1 => some (r1.1, σ1)))
set_option maxHeartbeats 4000000 in
set_option maxRecDepth 100000 in
theorem v_X10_makes {l : Launch} {G : Gv} {ad : Nat → Nat} {d : Nat} {av0 : List Value} {w1 : va_W} {q : (Int32 × St)} {σ : St} {x1 : Int32} {x2 : Int32} {x3 : Int32} {x4 : Int32} (hd : 5 ≤ d) (hf : f_X10_makes σ x1 x2 x3 x4 = some q) : VV l G yX10_makes cX10_makes 6 (some .int) d 0 0 av0 w1 (pD (some (.int q.1)) (wM G ad q.2)) 0 0 (wM G ad σ) 0 [(0, .ref (ad 0)), (1, .int x1), (2, .int x2), (3, .int x3), (4, .int x4)] [] := by
  unfold f_X10_makes at hf
  refine V_aload_n 0 rfl dX10_makes_0 rfl ?_
  refine V_iload_n 2 rfl dX10_makes_1 rfl ?_
  refine V_iload_n 3 rfl dX10_makes_2 rfl ?_
  refine V_iload 4 rfl dX10_makes_3 ?_
  obtain ⟨r1, hr1, hf⟩ := bno_some hf
  refine V_cV (As := [.int x2, .int x3, .int x4]) (rest := []) (k_X10_scoreOf (d := 4) (Nat.le_refl _) hr1) LB_X10_scoreOf lk_X10_180 (by omega) dX10_makes_5 rfl rfl (Nat.le_of_ble_eq_true rfl) (Nat.le_refl _) (Nat.le_refl _) 0 rfl ⟨rfl, rfl⟩ [.int r1.1] rfl ?_
  refine V_istore [(0, .ref (ad 0)), (1, .int x1), (2, .int x2), (3, .int x3), (4, .int x4), (5, .int r1.1)] [1, 2, 3, 4, 5, 0] dX10_makes_8 (by decide) rfl ?_
  refine V_aload_n 0 rfl dX10_makes_10 rfl ?_
  refine V_iload_n 1 rfl dX10_makes_11 rfl ?_
  refine V_iload_n 2 rfl dX10_makes_12 rfl ?_
  refine V_iload_n 3 rfl dX10_makes_13 rfl ?_
  refine V_iload 4 rfl dX10_makes_14 ?_
  obtain ⟨r2, hr2, hf⟩ := bno_some hf
  refine V_cV (As := [.int x1, .int x2, .int x3, .int x4]) (rest := []) (k_X10_lays (d := 1) (Nat.le_refl _) hr2) LB_X10_lays lk_X10_183 (by omega) dX10_makes_16 rfl rfl (Nat.le_of_ble_eq_true rfl) (Nat.le_refl _) (Nat.le_refl _) 0 rfl ⟨rfl, rfl⟩ [] rfl ?_
  refine V_aload_n 0 rfl dX10_makes_19 rfl ?_
  obtain ⟨r3, hr3, hf⟩ := bno_some hf
  refine V_cV (As := []) (rest := []) (k_X10_keepsBoard (d := 0) (Nat.le_refl _) hr3) LB_X10_keepsBoard lk_X10_187 (by omega) dX10_makes_20 rfl rfl (Nat.le_of_ble_eq_true rfl) (Nat.le_refl _) (Nat.le_refl _) 0 rfl ⟨rfl, rfl⟩ [] rfl ?_
  refine V_aload_n 0 rfl dX10_makes_23 rfl ?_
  refine V_get (k := 0) RC_X10 fl_X10_7 rfl (by decide) dX10_makes_24 0 rfl rfl ?_
  refine V_sipush 371 dX10_makes_27 (by decide) ?_
  refine V_iload_n 1 rfl dX10_makes_30 rfl ?_
  refine V_iadd dX10_makes_31 ?_
  refine V_dup2 rfl rfl dX10_makes_32 ?_
  obtain ⟨hi, hf⟩ := ixo_some hf
  refine V_iaload dX10_makes_33 1 rfl hi ?_
  refine V_iload 5 rfl dX10_makes_34 ?_
  refine V_iadd dX10_makes_36 ?_
  obtain ⟨hi, hf⟩ := ixo_some hf
  obtain ⟨σ1, eσ1, hf⟩ := lt_some hf
  refine V_iastore dX10_makes_37 1 rfl hi (wM G ad σ1) (by rw [eσ1]; rfl) ?_
  refine V_iload 5 rfl dX10_makes_38 ?_
  cases hf
  exact V_iret rfl dX10_makes_40 ⟨rfl, rfl⟩
theorem k_X10_makes {l : Launch} {G : Gv} {ad : Nat → Nat} {d : Nat} {σ : St} {q : (Int32 × St)} {x1 : Int32} {x2 : Int32} {x3 : Int32} {x4 : Int32} (hd : 5 ≤ d) (hf : f_X10_makes σ x1 x2 x3 x4 = some q) : K l G yX10_makes cX10_makes 6 (some .int) d 0 0 [.ref (ad 0), .int x1, .int x2, .int x3, .int x4] (wM G ad σ) (pD (some (.int q.1)) (wM G ad q.2)) := K_intro (by decide) (Nat.le_of_ble_eq_true rfl) (v_X10_makes hd hf)
def f_X10_play_80 (σ : St) (x1 : Int32) (x2 : Int32) (x3 : Int32) (x4 : Int32) (s1 : Int32) (s2 : Int32) (s3 : Int32) : Option (Int32 × St) := bno (f_X10_goes σ s1 s2 s3) fun r1 => if (b2i r1.1) = 0 then (some ((0), r1.2)) else (bno (f_X10_save r1.2) fun r2 => lt (si r2 5 (0)) fun σ1 => bno (f_X10_makes σ1 x1 x2 x3 x4) fun r3 => some (r3.1, r3.2))
set_option maxHeartbeats 4000000 in
set_option maxRecDepth 100000 in
theorem v_X10_play_80 {l : Launch} {G : Gv} {ad : Nat → Nat} {d : Nat} {av0 : List Value} {w1 : va_W} {q : (Int32 × St)} {σ : St} {x1 : Int32} {x2 : Int32} {x3 : Int32} {x4 : Int32} {s1 : Int32} {s2 : Int32} {s3 : Int32} (hd : 6 ≤ d) (hf : f_X10_play_80 σ x1 x2 x3 x4 s1 s2 s3 = some q) : VV l G yX10_play cX10_play 7 (some .int) d 0 0 av0 w1 (pD (some (.int q.1)) (wM G ad q.2)) 0 0 (wM G ad σ) 80 [(0, .ref (ad 0)), (1, .int x1), (2, .int x2), (3, .int x3), (4, .int x4)] [.int s3, .int s2, .int s1, .ref (ad 0)] := by
  unfold f_X10_play_80 at hf
  obtain ⟨r1, hr1, hf⟩ := bno_some hf
  refine V_cV (As := [.int s1, .int s2, .int s3]) (rest := []) (k_X10_goes (d := 0) (Nat.le_refl _) hr1) LB_X10_goes lk_X10_74 (by omega) dX10_play_80 rfl rfl (Nat.le_of_ble_eq_true rfl) (Nat.le_refl _) (Nat.le_refl _) 0 rfl ⟨rfl, rfl⟩ [.int (b2i r1.1)] rfl ?_
  refine V_if_ne 88 dX10_play_83 (by decide) (fun c1 => ?_) (fun c1 => ?_)
  · replace hf := (if_neg c1).symm.trans hf
    refine V_aload_n 0 rfl dX10_play_88 rfl ?_
    obtain ⟨r2, hr2, hf⟩ := bno_some hf
    refine V_cV (As := []) (rest := []) (k_X10_save (d := 0) (Nat.le_refl _) hr2) LB_X10_save lk_X10_85 (by omega) dX10_play_89 rfl rfl (Nat.le_of_ble_eq_true rfl) (Nat.le_refl _) (Nat.le_refl _) 0 rfl ⟨rfl, rfl⟩ [] rfl ?_
    refine V_aload_n 0 rfl dX10_play_92 rfl ?_
    refine V_iconst 0 dX10_play_93 (by decide) ?_
    obtain ⟨σ1, eσ1, hf⟩ := lt_some hf
    refine V_put (k := 5) RC_X10 fl_X10_71 rfl (by decide) rfl dX10_play_94 0 rfl (Nat.le_of_ble_eq_true rfl) rfl rfl (wM G ad σ1) (by rw [eσ1]; rfl) ?_
    refine V_aload_n 0 rfl dX10_play_97 rfl ?_
    refine V_iload_n 1 rfl dX10_play_98 rfl ?_
    refine V_iload_n 2 rfl dX10_play_99 rfl ?_
    refine V_iload_n 3 rfl dX10_play_100 rfl ?_
    refine V_iload 4 rfl dX10_play_101 ?_
    obtain ⟨r3, hr3, hf⟩ := bno_some hf
    refine V_cV (As := [.int x1, .int x2, .int x3, .int x4]) (rest := []) (k_X10_makes (d := 5) (Nat.le_refl _) hr3) LB_X10_makes lk_X10_177 (by omega) dX10_play_103 rfl rfl (Nat.le_of_ble_eq_true rfl) (Nat.le_refl _) (Nat.le_refl _) 0 rfl ⟨rfl, rfl⟩ [.int r3.1] rfl ?_
    cases hf
    exact V_iret rfl dX10_play_106 ⟨rfl, rfl⟩
  · replace hf := (if_pos c1).symm.trans hf
    refine V_iconst 0 dX10_play_86 (by decide) ?_
    cases hf
    exact V_iret rfl dX10_play_87 ⟨rfl, rfl⟩
def f_X10_play_60 (σ : St) (x1 : Int32) (x2 : Int32) (x3 : Int32) (x4 : Int32) (x5 : Int32) (x6 : Int32) : Option (Int32 × St) := bno (f_X10_in (Int32.toInt64 x2) (0) (1)) fun r1 => if x6 = 0 then (f_X10_play_80 σ x1 x2 x3 x4 x5 (b2i r1) (1)) else (f_X10_play_80 σ x1 x2 x3 x4 x5 (b2i r1) (0))
set_option maxHeartbeats 4000000 in
set_option maxRecDepth 100000 in
theorem v_X10_play_60 {l : Launch} {G : Gv} {ad : Nat → Nat} {d : Nat} {av0 : List Value} {w1 : va_W} {q : (Int32 × St)} {σ : St} {x1 : Int32} {x2 : Int32} {x3 : Int32} {x4 : Int32} {x5 : Int32} {x6 : Int32} (hd : 6 ≤ d) (hf : f_X10_play_60 σ x1 x2 x3 x4 x5 x6 = some q) : VV l G yX10_play cX10_play 7 (some .int) d 0 0 av0 w1 (pD (some (.int q.1)) (wM G ad q.2)) 0 0 (wM G ad σ) 60 [(0, .ref (ad 0)), (1, .int x1), (2, .int x2), (3, .int x3), (4, .int x4), (5, .int x5), (6, .int x6)] [] := by
  unfold f_X10_play_60 at hf
  refine V_aload_n 0 rfl dX10_play_60 rfl ?_
  refine V_iload 5 rfl dX10_play_61 ?_
  refine V_iload_n 2 rfl dX10_play_63 rfl ?_
  refine V_i2l dX10_play_64 ?_
  refine V_lconst 0 dX10_play_65 (by decide) ?_
  refine V_lconst 1 dX10_play_66 (by decide) ?_
  obtain ⟨r1, hr1, hf⟩ := bno_some hf
  refine V_cS (As := [.long (Int32.toInt64 x2), .long (0), .long (1)]) (rest := [.int x5, .ref (ad 0)]) (k_X10_in (d := 0) (Nat.le_refl _) hr1) LB_X10_in lk_X10_61 (by omega) dX10_play_67 rfl rfl (Nat.le_of_ble_eq_true rfl) (Nat.le_refl _) (Nat.le_refl _) [.int (b2i r1), .int x5, .ref (ad 0)] rfl ?_
  refine V_iload 6 rfl dX10_play_70 ?_
  refine V_if_ne 79 dX10_play_72 (by decide) (fun c1 => ?_) (fun c1 => ?_)
  · replace hf := (if_neg c1).symm.trans hf
    refine V_iconst 0 dX10_play_79 (by decide) ?_
    refine V_lv [(0, .ref (ad 0)), (1, .int x1), (2, .int x2), (3, .int x3), (4, .int x4)] [0, 1, 2, 3, 4] rfl ?_
    exact v_X10_play_80 hd hf
  · replace hf := (if_pos c1).symm.trans hf
    refine V_iconst 1 dX10_play_75 (by decide) ?_
    refine V_goto 80 dX10_play_76 (by decide) ?_
    refine V_lv [(0, .ref (ad 0)), (1, .int x1), (2, .int x2), (3, .int x3), (4, .int x4)] [0, 1, 2, 3, 4] rfl ?_
    exact v_X10_play_80 hd hf
def f_X10_play_21 (σ : St) (x1 : Int32) (x2 : Int32) (x3 : Int32) (x4 : Int32) (s0 : Int32) : Option (Int32 × St) := if s0 = 0 then (f_X10_play_60 σ x1 x2 x3 x4 s0 (0)) else (bno (f_X10_in (Int32.toInt64 x2) (0) (1)) fun r1 => if (b2i r1) = 0 then (f_X10_play_60 σ x1 x2 x3 x4 s0 (0)) else (bno (f_X10_laysNow σ) fun r2 => bno (f_X10_takesText r2) fun r3 => bno (f_X10_reason r3 x1 x2 x3 x4) fun r4 => f_X10_play_60 r4.2 x1 x2 x3 x4 s0 r4.1))
set_option maxHeartbeats 4000000 in
set_option maxRecDepth 100000 in
theorem v_X10_play_21 {l : Launch} {G : Gv} {ad : Nat → Nat} {d : Nat} {av0 : List Value} {w1 : va_W} {q : (Int32 × St)} {σ : St} {x1 : Int32} {x2 : Int32} {x3 : Int32} {x4 : Int32} {s0 : Int32} (hd : 6 ≤ d) (hf : f_X10_play_21 σ x1 x2 x3 x4 s0 = some q) : VV l G yX10_play cX10_play 7 (some .int) d 0 0 av0 w1 (pD (some (.int q.1)) (wM G ad q.2)) 0 0 (wM G ad σ) 21 [(0, .ref (ad 0)), (1, .int x1), (2, .int x2), (3, .int x3), (4, .int x4)] [.int s0] := by
  unfold f_X10_play_21 at hf
  refine V_istore [(0, .ref (ad 0)), (1, .int x1), (2, .int x2), (3, .int x3), (4, .int x4), (5, .int s0)] [1, 2, 3, 4, 5, 0] dX10_play_21 (by decide) rfl ?_
  refine V_iconst 0 dX10_play_23 (by decide) ?_
  refine V_istore [(0, .ref (ad 0)), (1, .int x1), (2, .int x2), (3, .int x3), (4, .int x4), (5, .int s0), (6, .int (0))] [1, 2, 3, 4, 5, 6, 0] dX10_play_24 (by decide) rfl ?_
  refine V_iload 5 rfl dX10_play_26 ?_
  refine V_if_eq 60 dX10_play_28 (by decide) (fun c1 => ?_) (fun c1 => ?_)
  · replace hf := (if_pos c1).symm.trans hf
    exact v_X10_play_60 hd hf
  · replace hf := (if_neg c1).symm.trans hf
    refine V_iload_n 2 rfl dX10_play_31 rfl ?_
    refine V_i2l dX10_play_32 ?_
    refine V_lconst 0 dX10_play_33 (by decide) ?_
    refine V_lconst 1 dX10_play_34 (by decide) ?_
    obtain ⟨r1, hr1, hf⟩ := bno_some hf
    refine V_cS (As := [.long (Int32.toInt64 x2), .long (0), .long (1)]) (rest := []) (k_X10_in (d := 0) (Nat.le_refl _) hr1) LB_X10_in lk_X10_61 (by omega) dX10_play_35 rfl rfl (Nat.le_of_ble_eq_true rfl) (Nat.le_refl _) (Nat.le_refl _) [.int (b2i r1)] rfl ?_
    refine V_if_eq 60 dX10_play_38 (by decide) (fun c2 => ?_) (fun c2 => ?_)
    · replace hf := (if_pos c2).symm.trans hf
      exact v_X10_play_60 hd hf
    · replace hf := (if_neg c2).symm.trans hf
      refine V_aload_n 0 rfl dX10_play_41 rfl ?_
      obtain ⟨r2, hr2, hf⟩ := bno_some hf
      refine V_cV (As := []) (rest := []) (k_X10_laysNow (d := 0) (Nat.le_refl _) hr2) LB_X10_laysNow lk_X10_130 (by omega) dX10_play_42 rfl rfl (Nat.le_of_ble_eq_true rfl) (Nat.le_refl _) (Nat.le_refl _) 0 rfl ⟨rfl, rfl⟩ [] rfl ?_
      refine V_aload_n 0 rfl dX10_play_45 rfl ?_
      obtain ⟨r3, hr3, hf⟩ := bno_some hf
      refine V_cV (As := []) (rest := []) (k_X10_takesText (d := 0) (Nat.le_refl _) hr3) LB_X10_takesText lk_X10_88 (by omega) dX10_play_46 rfl rfl (Nat.le_of_ble_eq_true rfl) (Nat.le_refl _) (Nat.le_refl _) 0 rfl ⟨rfl, rfl⟩ [] rfl ?_
      refine V_aload_n 0 rfl dX10_play_49 rfl ?_
      refine V_iload_n 1 rfl dX10_play_50 rfl ?_
      refine V_iload_n 2 rfl dX10_play_51 rfl ?_
      refine V_iload_n 3 rfl dX10_play_52 rfl ?_
      refine V_iload 4 rfl dX10_play_53 ?_
      obtain ⟨r4, hr4, hf⟩ := bno_some hf
      refine V_cV (As := [.int x1, .int x2, .int x3, .int x4]) (rest := []) (k_X10_reason (d := 4) (Nat.le_refl _) hr4) LB_X10_reason lk_X10_174 (by omega) dX10_play_55 rfl rfl (Nat.le_of_ble_eq_true rfl) (Nat.le_refl _) (Nat.le_refl _) 0 rfl ⟨rfl, rfl⟩ [.int r4.1] rfl ?_
      refine V_istore [(0, .ref (ad 0)), (1, .int x1), (2, .int x2), (3, .int x3), (4, .int x4), (5, .int s0), (6, .int r4.1)] [1, 2, 3, 4, 5, 6, 0] dX10_play_58 (by decide) rfl ?_
      exact v_X10_play_60 hd hf
def f_X10_play_20 (σ : St) (x1 : Int32) (x2 : Int32) (x3 : Int32) (x4 : Int32) : Option (Int32 × St) := f_X10_play_21 σ x1 x2 x3 x4 (0)
set_option maxHeartbeats 4000000 in
set_option maxRecDepth 100000 in
theorem v_X10_play_20 {l : Launch} {G : Gv} {ad : Nat → Nat} {d : Nat} {av0 : List Value} {w1 : va_W} {q : (Int32 × St)} {σ : St} {x1 : Int32} {x2 : Int32} {x3 : Int32} {x4 : Int32} (hd : 6 ≤ d) (hf : f_X10_play_20 σ x1 x2 x3 x4 = some q) : VV l G yX10_play cX10_play 7 (some .int) d 0 0 av0 w1 (pD (some (.int q.1)) (wM G ad q.2)) 0 0 (wM G ad σ) 20 [(0, .ref (ad 0)), (1, .int x1), (2, .int x2), (3, .int x3), (4, .int x4)] [] := by
  unfold f_X10_play_20 at hf
  refine V_iconst 0 dX10_play_20 (by decide) ?_
  exact v_X10_play_21 hd hf
def f_X10_play (σ : St) (x1 : Int32) (x2 : Int32) (x3 : Int32) (x4 : Int32) : Option (Int32 × St) := bno (f_X10_isPlayer x1) fun r1 => if (b2i r1) = 0 then (f_X10_play_20 σ x1 x2 x3 x4) else (bno (f_X10_isSquare x3 x4) fun r2 => if (b2i r2) = 0 then (f_X10_play_20 σ x1 x2 x3 x4) else (f_X10_play_21 σ x1 x2 x3 x4 (1)))
set_option maxHeartbeats 4000000 in
set_option maxRecDepth 100000 in
theorem v_X10_play {l : Launch} {G : Gv} {ad : Nat → Nat} {d : Nat} {av0 : List Value} {w1 : va_W} {q : (Int32 × St)} {σ : St} {x1 : Int32} {x2 : Int32} {x3 : Int32} {x4 : Int32} (hd : 6 ≤ d) (hf : f_X10_play σ x1 x2 x3 x4 = some q) : VV l G yX10_play cX10_play 7 (some .int) d 0 0 av0 w1 (pD (some (.int q.1)) (wM G ad q.2)) 0 0 (wM G ad σ) 0 [(0, .ref (ad 0)), (1, .int x1), (2, .int x2), (3, .int x3), (4, .int x4)] [] := by
  unfold f_X10_play at hf
  refine V_iload_n 1 rfl dX10_play_0 rfl ?_
  obtain ⟨r1, hr1, hf⟩ := bno_some hf
  refine V_cS (As := [.int x1]) (rest := []) (k_X10_isPlayer (d := 1) (Nat.le_refl _) hr1) LB_X10_isPlayer lk_X10_107 (by omega) dX10_play_1 rfl rfl (Nat.le_of_ble_eq_true rfl) (Nat.le_refl _) (Nat.le_refl _) [.int (b2i r1)] rfl ?_
  refine V_if_eq 20 dX10_play_4 (by decide) (fun c1 => ?_) (fun c1 => ?_)
  · replace hf := (if_pos c1).symm.trans hf
    exact v_X10_play_20 hd hf
  · replace hf := (if_neg c1).symm.trans hf
    refine V_iload_n 3 rfl dX10_play_7 rfl ?_
    refine V_iload 4 rfl dX10_play_8 ?_
    obtain ⟨r2, hr2, hf⟩ := bno_some hf
    refine V_cS (As := [.int x3, .int x4]) (rest := []) (k_X10_isSquare (d := 1) (Nat.le_refl _) hr2) LB_X10_isSquare lk_X10_101 (by omega) dX10_play_10 rfl rfl (Nat.le_of_ble_eq_true rfl) (Nat.le_refl _) (Nat.le_refl _) [.int (b2i r2)] rfl ?_
    refine V_if_eq 20 dX10_play_13 (by decide) (fun c2 => ?_) (fun c2 => ?_)
    · replace hf := (if_pos c2).symm.trans hf
      exact v_X10_play_20 hd hf
    · replace hf := (if_neg c2).symm.trans hf
      refine V_iconst 1 dX10_play_16 (by decide) ?_
      refine V_goto 21 dX10_play_17 (by decide) ?_
      exact v_X10_play_21 hd hf
theorem k_X10_play {l : Launch} {G : Gv} {ad : Nat → Nat} {d : Nat} {σ : St} {q : (Int32 × St)} {x1 : Int32} {x2 : Int32} {x3 : Int32} {x4 : Int32} (hd : 6 ≤ d) (hf : f_X10_play σ x1 x2 x3 x4 = some q) : K l G yX10_play cX10_play 7 (some .int) d 0 0 [.ref (ad 0), .int x1, .int x2, .int x3, .int x4] (wM G ad σ) (pD (some (.int q.1)) (wM G ad q.2)) := K_intro (by decide) (Nat.le_of_ble_eq_true rfl) (v_X10_play hd hf)
