theorem fl_X9_27 : Cond.fieldLink RX9 27 RX9 "rules" "LTileWordBoard$Rules;" ∈ tblG := tin 135 (by decide +kernel) (by decide +kernel)
theorem fl_X9_36 : Cond.fieldLink RX9 36 RX9 "search" "LTileWordBoard$Endgame;" ∈ tblG := tin 136 (by decide +kernel) (by decide +kernel)
theorem LB_X9_requireSquare : LB yX9_requireSquare cX9_requireSquare 2 none 2 := ⟨tin 529 (by decide +kernel) (by decide +kernel), tin 1 (by decide +kernel) (by decide +kernel), by decide, by decide, by decide, by decide +kernel⟩
theorem lk_X9_107 : Cond.methodLink RX9 107 yX9_requireSquare ∈ tblG ∧ Cond.static yX9_requireSquare ∈ tblG := ⟨tin 527 (by decide +kernel) (by decide +kernel), tin 528 (by decide +kernel) (by decide +kernel)⟩
theorem LB_X6_squareOf : LB yX6_squareOf cX6_squareOf 2 (some .int) 2 := ⟨tin 222 (by decide +kernel) (by decide +kernel), tin 17 (by decide +kernel) (by decide +kernel), by decide, by decide, by decide, by decide +kernel⟩
theorem lk_X9_113 : Cond.methodLink RX9 113 yX6_squareOf ∈ tblG ∧ Cond.static yX6_squareOf ∈ tblG := ⟨tin 220 (by decide +kernel) (by decide +kernel), tin 221 (by decide +kernel) (by decide +kernel)⟩
theorem LB_X9_requirePlayer : LB yX9_requirePlayer cX9_requirePlayer 1 none 1 := ⟨tin 560 (by decide +kernel) (by decide +kernel), tin 1 (by decide +kernel) (by decide +kernel), by decide, by decide, by decide, by decide +kernel⟩
theorem lk_X9_130 : Cond.methodLink RX9 130 yX9_requirePlayer ∈ tblG ∧ Cond.static yX9_requirePlayer ∈ tblG := ⟨tin 558 (by decide +kernel) (by decide +kernel), tin 559 (by decide +kernel) (by decide +kernel)⟩
theorem lk_X9_143 : Cond.methodLink RX9 143 yX0_letter ∈ tblG ∧ Cond.instanceMethod yX0_letter ∈ tblG ∧ Cond.selects yX0_letter.cls yX0_letter yX0_letter ∈ tblG := ⟨tin 223 (by decide +kernel) (by decide +kernel), tin 224 (by decide +kernel) (by decide +kernel), tin 225 (by decide +kernel) (by decide +kernel)⟩
theorem lk_X9_149 : Cond.methodLink RX9 149 yX7_rack ∈ tblG ∧ Cond.instanceMethod yX7_rack ∈ tblG ∧ Cond.selects yX7_rack.cls yX7_rack yX7_rack ∈ tblG := ⟨tin 235 (by decide +kernel) (by decide +kernel), tin 236 (by decide +kernel) (by decide +kernel), tin 237 (by decide +kernel) (by decide +kernel)⟩
theorem LB_X7_points : LB yX7_points cX7_points 2 (some .int) 1 := ⟨tin 251 (by decide +kernel) (by decide +kernel), tin 2 (by decide +kernel) (by decide +kernel), by decide, by decide, by decide, by decide +kernel⟩
theorem lk_X9_155 : Cond.methodLink RX9 155 yX7_points ∈ tblG ∧ Cond.instanceMethod yX7_points ∈ tblG ∧ Cond.selects yX7_points.cls yX7_points yX7_points ∈ tblG := ⟨tin 248 (by decide +kernel) (by decide +kernel), tin 249 (by decide +kernel) (by decide +kernel), tin 250 (by decide +kernel) (by decide +kernel)⟩
theorem LB_X9_requireDirection : LB yX9_requireDirection cX9_requireDirection 1 none 1 := ⟨tin 618 (by decide +kernel) (by decide +kernel), tin 1 (by decide +kernel) (by decide +kernel), by decide, by decide, by decide, by decide +kernel⟩
theorem lk_X9_158 : Cond.methodLink RX9 158 yX9_requireDirection ∈ tblG ∧ Cond.static yX9_requireDirection ∈ tblG := ⟨tin 616 (by decide +kernel) (by decide +kernel), tin 617 (by decide +kernel) (by decide +kernel)⟩
theorem LB_X6_of : LB yX6_of cX6_of 3 (some .int) 3 := ⟨tin 622 (by decide +kernel) (by decide +kernel), tin 17 (by decide +kernel) (by decide +kernel), by decide, by decide, by decide, by decide +kernel⟩
theorem lk_X9_161 : Cond.methodLink RX9 161 yX6_of ∈ tblG ∧ Cond.static yX6_of ∈ tblG := ⟨tin 620 (by decide +kernel) (by decide +kernel), tin 621 (by decide +kernel) (by decide +kernel)⟩
theorem LB_X5_crossLetters : LB yX5_crossLetters cX5_crossLetters 5 (some .int) 1 := ⟨tin 626 (by decide +kernel) (by decide +kernel), tin 5 (by decide +kernel) (by decide +kernel), by decide, by decide, by decide, by decide +kernel⟩
theorem lk_X9_164 : Cond.methodLink RX9 164 yX5_crossLetters ∈ tblG ∧ Cond.instanceMethod yX5_crossLetters ∈ tblG ∧ Cond.selects yX5_crossLetters.cls yX5_crossLetters yX5_crossLetters ∈ tblG := ⟨tin 623 (by decide +kernel) (by decide +kernel), tin 624 (by decide +kernel) (by decide +kernel), tin 625 (by decide +kernel) (by decide +kernel)⟩
theorem LB_X9_lookUp : LB yX9_lookUp cX9_lookUp 1 (some .int) 0 := ⟨tin 159 (by decide +kernel) (by decide +kernel), tin 1 (by decide +kernel) (by decide +kernel), by decide, by decide, by decide, by decide +kernel⟩
theorem lk_X9_177 : Cond.methodLink RX9 177 yX9_lookUp ∈ tblG ∧ Cond.instanceMethod yX9_lookUp ∈ tblG ∧ Cond.selects yX9_lookUp.cls yX9_lookUp yX9_lookUp ∈ tblG := ⟨tin 641 (by decide +kernel) (by decide +kernel), tin 157 (by decide +kernel) (by decide +kernel), tin 158 (by decide +kernel) (by decide +kernel)⟩
theorem lk_X9_180 : Cond.methodLink RX9 180 yX5_refusal ∈ tblG ∧ Cond.instanceMethod yX5_refusal ∈ tblG ∧ Cond.selects yX5_refusal.cls yX5_refusal yX5_refusal ∈ tblG := ⟨tin 642 (by decide +kernel) (by decide +kernel), tin 312 (by decide +kernel) (by decide +kernel), tin 313 (by decide +kernel) (by decide +kernel)⟩
theorem LB_X5_countPlays : LB yX5_countPlays cX5_countPlays 4 (some .int) 1 := ⟨tin 255 (by decide +kernel) (by decide +kernel), tin 5 (by decide +kernel) (by decide +kernel), by decide, by decide, by decide, by decide +kernel⟩
theorem lk_X9_191 : Cond.methodLink RX9 191 yX5_countPlays ∈ tblG ∧ Cond.instanceMethod yX5_countPlays ∈ tblG ∧ Cond.selects yX5_countPlays.cls yX5_countPlays yX5_countPlays ∈ tblG := ⟨tin 252 (by decide +kernel) (by decide +kernel), tin 253 (by decide +kernel) (by decide +kernel), tin 254 (by decide +kernel) (by decide +kernel)⟩
theorem LB_X5_playNumbered : LB yX5_playNumbered cX5_playNumbered 5 (some .int) 2 := ⟨tin 707 (by decide +kernel) (by decide +kernel), tin 5 (by decide +kernel) (by decide +kernel), by decide, by decide, by decide, by decide +kernel⟩
theorem lk_X9_194 : Cond.methodLink RX9 194 yX5_playNumbered ∈ tblG ∧ Cond.instanceMethod yX5_playNumbered ∈ tblG ∧ Cond.selects yX5_playNumbered.cls yX5_playNumbered yX5_playNumbered ∈ tblG := ⟨tin 704 (by decide +kernel) (by decide +kernel), tin 705 (by decide +kernel) (by decide +kernel), tin 706 (by decide +kernel) (by decide +kernel)⟩
theorem lk_X9_204 : Cond.methodLink RX9 204 yX6_ofPlay ∈ tblG ∧ Cond.static yX6_ofPlay ∈ tblG := ⟨tin 710 (by decide +kernel) (by decide +kernel), tin 265 (by decide +kernel) (by decide +kernel)⟩
theorem LB_X6_direction : LB yX6_direction cX6_direction 1 (some .int) 1 := ⟨tin 713 (by decide +kernel) (by decide +kernel), tin 17 (by decide +kernel) (by decide +kernel), by decide, by decide, by decide, by decide +kernel⟩
theorem lk_X9_207 : Cond.methodLink RX9 207 yX6_direction ∈ tblG ∧ Cond.static yX6_direction ∈ tblG := ⟨tin 711 (by decide +kernel) (by decide +kernel), tin 712 (by decide +kernel) (by decide +kernel)⟩
theorem lk_X9_210 : Cond.methodLink RX9 210 yX6_row ∈ tblG ∧ Cond.static yX6_row ∈ tblG := ⟨tin 714 (by decide +kernel) (by decide +kernel), tin 275 (by decide +kernel) (by decide +kernel)⟩
theorem lk_X9_213 : Cond.methodLink RX9 213 yX6_column ∈ tblG ∧ Cond.static yX6_column ∈ tblG := ⟨tin 715 (by decide +kernel) (by decide +kernel), tin 278 (by decide +kernel) (by decide +kernel)⟩
theorem lk_X9_216 : Cond.methodLink RX9 216 yX6_wordOfPlay ∈ tblG ∧ Cond.static yX6_wordOfPlay ∈ tblG := ⟨tin 716 (by decide +kernel) (by decide +kernel), tin 262 (by decide +kernel) (by decide +kernel)⟩
theorem lk_X9_219 : Cond.methodLink RX9 219 yX5_pointsOf ∈ tblG ∧ Cond.instanceMethod yX5_pointsOf ∈ tblG ∧ Cond.selects yX5_pointsOf.cls yX5_pointsOf yX5_pointsOf ∈ tblG := ⟨tin 656 (by decide +kernel) (by decide +kernel), tin 657 (by decide +kernel) (by decide +kernel), tin 658 (by decide +kernel) (by decide +kernel)⟩
theorem lk_X9_222 : Cond.methodLink RX9 222 yX5_equityOf ∈ tblG ∧ Cond.instanceMethod yX5_equityOf ∈ tblG ∧ Cond.selects yX5_equityOf.cls yX5_equityOf yX5_equityOf ∈ tblG := ⟨tin 717 (by decide +kernel) (by decide +kernel), tin 718 (by decide +kernel) (by decide +kernel), tin 719 (by decide +kernel) (by decide +kernel)⟩
theorem LB_X5_indexOfBest : LB yX5_indexOfBest cX5_indexOfBest 7 (some .int) 1 := ⟨tin 737 (by decide +kernel) (by decide +kernel), tin 5 (by decide +kernel) (by decide +kernel), by decide, by decide, by decide, by decide +kernel⟩
theorem lk_X9_225 : Cond.methodLink RX9 225 yX5_indexOfBest ∈ tblG ∧ Cond.instanceMethod yX5_indexOfBest ∈ tblG ∧ Cond.selects yX5_indexOfBest.cls yX5_indexOfBest yX5_indexOfBest ∈ tblG := ⟨tin 734 (by decide +kernel) (by decide +kernel), tin 735 (by decide +kernel) (by decide +kernel), tin 736 (by decide +kernel) (by decide +kernel)⟩
theorem LB_X2_begin : LB yX2_begin cX2_begin 1 none 0 := ⟨tin 757 (by decide +kernel) (by decide +kernel), tin 6 (by decide +kernel) (by decide +kernel), by decide, by decide, by decide, by decide +kernel⟩
theorem lk_X9_230 : Cond.methodLink RX9 230 yX2_begin ∈ tblG ∧ Cond.instanceMethod yX2_begin ∈ tblG ∧ Cond.selects yX2_begin.cls yX2_begin yX2_begin ∈ tblG := ⟨tin 754 (by decide +kernel) (by decide +kernel), tin 755 (by decide +kernel) (by decide +kernel), tin 756 (by decide +kernel) (by decide +kernel)⟩
theorem lk_X9_233 : Cond.methodLinkNest RX9 233 yX2_bestDifference "TileWordBoard" ∈ nestL ∧ Cond.instanceMethod yX2_bestDifference ∈ tblG ∧ Cond.selects yX2_bestDifference.cls yX2_bestDifference yX2_bestDifference ∈ tblG := ⟨by decide +kernel, tin 760 (by decide +kernel) (by decide +kernel), tsel (q := (yX2_bestDifference, 3)) (List.mem_of_getElem? (i := 14) (by decide +kernel))⟩
theorem lk_X9_236 : Cond.methodLink RX9 236 yX2_hasFailed ∈ tblG ∧ Cond.instanceMethod yX2_hasFailed ∈ tblG ∧ Cond.selects yX2_hasFailed.cls yX2_hasFailed yX2_hasFailed ∈ tblG := ⟨tin 801 (by decide +kernel) (by decide +kernel), tin 763 (by decide +kernel) (by decide +kernel), tin 764 (by decide +kernel) (by decide +kernel)⟩
theorem lk_X9_280 : Cond.methodLink RX9 280 yX9_isLetter ∈ tblG ∧ Cond.static yX9_isLetter ∈ tblG := ⟨tin 375 (by decide +kernel) (by decide +kernel), tin 202 (by decide +kernel) (by decide +kernel)⟩
theorem lk_X9_286 : Cond.methodLink RX9 286 yX9_isPlayer ∈ tblG ∧ Cond.static yX9_isPlayer ∈ tblG := ⟨tin 561 (by decide +kernel) (by decide +kernel), tin 240 (by decide +kernel) (by decide +kernel)⟩
theorem LB_X9_requireLetter : LB yX9_requireLetter cX9_requireLetter 1 none 1 := ⟨tin 374 (by decide +kernel) (by decide +kernel), tin 1 (by decide +kernel) (by decide +kernel), by decide, by decide, by decide, by decide +kernel⟩
theorem lk_X9_47 : Cond.methodLink RX9 47 yX9_requireLetter ∈ tblG ∧ Cond.static yX9_requireLetter ∈ tblG := ⟨tin 372 (by decide +kernel) (by decide +kernel), tin 373 (by decide +kernel) (by decide +kernel)⟩
theorem lk_X9_62 : Cond.methodLink RX9 62 yX8_append ∈ tblG ∧ Cond.static yX8_append ∈ tblG := ⟨tin 460 (by decide +kernel) (by decide +kernel), tin 348 (by decide +kernel) (by decide +kernel)⟩
def f_X9_requireLetter (x0 : Int32) : Option (Nat ⊕ Unit) := bno (f_X9_isLetter x0) fun r1 => if (b2i r1) = 0 then (some (.inl 0)) else (some (.inr ()))
set_option maxHeartbeats 4000000 in
set_option maxRecDepth 100000 in
theorem v_X9_requireLetter {l : Launch} {G : Gv} {d : Nat} {av0 : List Value} {w1 : va_W} {w0 : va_W} {q : (Nat ⊕ Unit)} {x0 : Int32} (hd : 6 ≤ d) (hf : f_X9_requireLetter x0 = some q) : VX l G yX9_requireLetter cX9_requireLetter 1 none d 1 6 av0 w1 [] (oU q) (fun w => w = w0) 0 0 w0 0 [(0, .int x0)] [] := by
  unfold f_X9_requireLetter at hf
  refine X_iload_n 0 rfl dX9_requireLetter_0 rfl ?_
  obtain ⟨r1, hr1, hf⟩ := bno_some hf
  refine X_cS (As := [.int x0]) (rest := []) (k_X9_isLetter (d := 0) (Nat.le_refl _) hr1) LB_X9_isLetter lk_X9_280 (by omega) dX9_requireLetter_1 rfl rfl (Nat.le_of_ble_eq_true rfl) (by decide) (by decide) [.int (b2i r1)] rfl ?_
  refine X_if_ne 18 dX9_requireLetter_4 (by decide) (fun c1 => ?_) (fun c1 => ?_)
  · replace hf := (if_neg c1).symm.trans hf
    cases hf
    exact X_vret rfl (by decide) (by decide) dX9_requireLetter_18 rfl rfl
  · replace hf := (if_pos c1).symm.trans hf
    cases hf
    exact X_throwSW 0 0 rfl rfl xs_k0 xs_i0 (by decide) xs_a0 xs_g0 dX9_requireLetter_7 dX9_requireLetter_10 dX9_requireLetter_11 dX9_requireLetter_14 dX9_requireLetter_17 rfl (by omega) ⟨by decide, by decide⟩ (Nat.le_of_ble_eq_true rfl) rfl rfl
theorem k_X9_requireLetter {l : Launch} {G : Gv} {d : Nat} {w0 : va_W} {q : (Nat ⊕ Unit)} {x0 : Int32} (hd : 6 ≤ d) (hf : f_X9_requireLetter x0 = some q) : XK l G yX9_requireLetter (.code yX9_requireLetter cX9_requireLetter 1 none) d 1 6 [.int x0] w0 (oU q) (fun w => w = w0) := X_intro (by decide) (Nat.le_of_ble_eq_true rfl) (v_X9_requireLetter hd hf)
def f_X9_requirePlayer (x0 : Int32) : Option (Nat ⊕ Unit) := bno (f_X9_isPlayer x0) fun r1 => if (b2i r1) = 0 then (some (.inl 2)) else (some (.inr ()))
set_option maxHeartbeats 4000000 in
set_option maxRecDepth 100000 in
theorem v_X9_requirePlayer {l : Launch} {G : Gv} {d : Nat} {av0 : List Value} {w1 : va_W} {w0 : va_W} {q : (Nat ⊕ Unit)} {x0 : Int32} (hd : 6 ≤ d) (hf : f_X9_requirePlayer x0 = some q) : VX l G yX9_requirePlayer cX9_requirePlayer 1 none d 1 6 av0 w1 [] (oU q) (fun w => w = w0) 0 0 w0 0 [(0, .int x0)] [] := by
  unfold f_X9_requirePlayer at hf
  refine X_iload_n 0 rfl dX9_requirePlayer_0 rfl ?_
  obtain ⟨r1, hr1, hf⟩ := bno_some hf
  refine X_cS (As := [.int x0]) (rest := []) (k_X9_isPlayer (d := 0) (Nat.le_refl _) hr1) LB_X9_isPlayer lk_X9_286 (by omega) dX9_requirePlayer_1 rfl rfl (Nat.le_of_ble_eq_true rfl) (by decide) (by decide) [.int (b2i r1)] rfl ?_
  refine X_if_ne 18 dX9_requirePlayer_4 (by decide) (fun c1 => ?_) (fun c1 => ?_)
  · replace hf := (if_neg c1).symm.trans hf
    cases hf
    exact X_vret rfl (by decide) (by decide) dX9_requirePlayer_18 rfl rfl
  · replace hf := (if_pos c1).symm.trans hf
    cases hf
    exact X_throwSW 2 8 rfl rfl xs_k2 xs_i2 (by decide) xs_a2 xs_g2 dX9_requirePlayer_7 dX9_requirePlayer_10 dX9_requirePlayer_11 dX9_requirePlayer_14 dX9_requirePlayer_17 rfl (by omega) ⟨by decide, by decide⟩ (Nat.le_of_ble_eq_true rfl) rfl rfl
theorem k_X9_requirePlayer {l : Launch} {G : Gv} {d : Nat} {w0 : va_W} {q : (Nat ⊕ Unit)} {x0 : Int32} (hd : 6 ≤ d) (hf : f_X9_requirePlayer x0 = some q) : XK l G yX9_requirePlayer (.code yX9_requirePlayer cX9_requirePlayer 1 none) d 1 6 [.int x0] w0 (oU q) (fun w => w = w0) := X_intro (by decide) (Nat.le_of_ble_eq_true rfl) (v_X9_requirePlayer hd hf)
def f_X9_requireSquare_20 : Option (Nat ⊕ Unit) := some (.inl 2)
set_option maxHeartbeats 4000000 in
set_option maxRecDepth 100000 in
theorem v_X9_requireSquare_20 {l : Launch} {G : Gv} {d : Nat} {av0 : List Value} {w1 : va_W} {w0 : va_W} {q : (Nat ⊕ Unit)} (hd : 6 ≤ d) (hf : f_X9_requireSquare_20 = some q) : VX l G yX9_requireSquare cX9_requireSquare 2 none d 1 6 av0 w1 [] (oU q) (fun w => w = w0) 0 0 w0 20 [] [] := by
  unfold f_X9_requireSquare_20 at hf
  cases hf
  exact X_throwSW 2 6 rfl rfl xs_k2 xs_i2 (by decide) xs_a2 xs_g2 dX9_requireSquare_20 dX9_requireSquare_23 dX9_requireSquare_24 dX9_requireSquare_27 dX9_requireSquare_30 rfl (by omega) ⟨by decide, by decide⟩ (Nat.le_of_ble_eq_true rfl) rfl rfl
def f_X9_requireSquare (x0 : Int32) (x1 : Int32) : Option (Nat ⊕ Unit) := if x0 < 0 then (f_X9_requireSquare_20) else (if (7) ≤ x0 then (f_X9_requireSquare_20) else (if x1 < 0 then (f_X9_requireSquare_20) else (if x1 < (7) then (some (.inr ())) else (f_X9_requireSquare_20))))
set_option maxHeartbeats 4000000 in
set_option maxRecDepth 100000 in
theorem v_X9_requireSquare {l : Launch} {G : Gv} {d : Nat} {av0 : List Value} {w1 : va_W} {w0 : va_W} {q : (Nat ⊕ Unit)} {x0 : Int32} {x1 : Int32} (hd : 6 ≤ d) (hf : f_X9_requireSquare x0 x1 = some q) : VX l G yX9_requireSquare cX9_requireSquare 2 none d 1 6 av0 w1 [] (oU q) (fun w => w = w0) 0 0 w0 0 [(0, .int x0), (1, .int x1)] [] := by
  unfold f_X9_requireSquare at hf
  refine X_iload_n 0 rfl dX9_requireSquare_0 rfl ?_
  refine X_if_lt 20 dX9_requireSquare_1 (by decide) (fun c1 => ?_) (fun c1 => ?_)
  · replace hf := (if_pos c1).symm.trans hf
    refine X_lv [] [] rfl ?_
    exact v_X9_requireSquare_20 hd hf
  · replace hf := (if_neg c1).symm.trans hf
    refine X_iload_n 0 rfl dX9_requireSquare_4 rfl ?_
    refine X_bipush 7 dX9_requireSquare_5 (by decide) ?_
    refine X_icmp_ge 20 dX9_requireSquare_7 (by decide) (fun c2 => ?_) (fun c2 => ?_)
    · replace hf := (if_pos c2).symm.trans hf
      refine X_lv [] [] rfl ?_
      exact v_X9_requireSquare_20 hd hf
    · replace hf := (if_neg c2).symm.trans hf
      refine X_iload_n 1 rfl dX9_requireSquare_10 rfl ?_
      refine X_if_lt 20 dX9_requireSquare_11 (by decide) (fun c3 => ?_) (fun c3 => ?_)
      · replace hf := (if_pos c3).symm.trans hf
        refine X_lv [] [] rfl ?_
        exact v_X9_requireSquare_20 hd hf
      · replace hf := (if_neg c3).symm.trans hf
        refine X_iload_n 1 rfl dX9_requireSquare_14 rfl ?_
        refine X_bipush 7 dX9_requireSquare_15 (by decide) ?_
        refine X_icmp_lt 31 dX9_requireSquare_17 (by decide) (fun c4 => ?_) (fun c4 => ?_)
        · replace hf := (if_pos c4).symm.trans hf
          cases hf
          exact X_vret rfl (by decide) (by decide) dX9_requireSquare_31 rfl rfl
        · replace hf := (if_neg c4).symm.trans hf
          refine X_lv [] [] rfl ?_
          exact v_X9_requireSquare_20 hd hf
theorem k_X9_requireSquare {l : Launch} {G : Gv} {d : Nat} {w0 : va_W} {q : (Nat ⊕ Unit)} {x0 : Int32} {x1 : Int32} (hd : 6 ≤ d) (hf : f_X9_requireSquare x0 x1 = some q) : XK l G yX9_requireSquare (.code yX9_requireSquare cX9_requireSquare 2 none) d 1 6 [.int x0, .int x1] w0 (oU q) (fun w => w = w0) := X_intro (by decide) (Nat.le_of_ble_eq_true rfl) (v_X9_requireSquare hd hf)
def f_X9_requireDirection (x0 : Int32) : Option (Nat ⊕ Unit) := if x0 = 0 then (some (.inr ())) else (if x0 = (1) then (some (.inr ())) else (some (.inl 0)))
set_option maxHeartbeats 4000000 in
set_option maxRecDepth 100000 in
theorem v_X9_requireDirection {l : Launch} {G : Gv} {d : Nat} {av0 : List Value} {w1 : va_W} {w0 : va_W} {q : (Nat ⊕ Unit)} {x0 : Int32} (hd : 6 ≤ d) (hf : f_X9_requireDirection x0 = some q) : VX l G yX9_requireDirection cX9_requireDirection 1 none d 1 6 av0 w1 [] (oU q) (fun w => w = w0) 0 0 w0 0 [(0, .int x0)] [] := by
  unfold f_X9_requireDirection at hf
  refine X_iload_n 0 rfl dX9_requireDirection_0 rfl ?_
  refine X_if_eq 20 dX9_requireDirection_1 (by decide) (fun c1 => ?_) (fun c1 => ?_)
  · replace hf := (if_pos c1).symm.trans hf
    cases hf
    exact X_vret rfl (by decide) (by decide) dX9_requireDirection_20 rfl rfl
  · replace hf := (if_neg c1).symm.trans hf
    refine X_iload_n 0 rfl dX9_requireDirection_4 rfl ?_
    refine X_iconst 1 dX9_requireDirection_5 (by decide) ?_
    refine X_icmp_eq 20 dX9_requireDirection_6 (by decide) (fun c2 => ?_) (fun c2 => ?_)
    · replace hf := (if_pos c2).symm.trans hf
      cases hf
      exact X_vret rfl (by decide) (by decide) dX9_requireDirection_20 rfl rfl
    · replace hf := (if_neg c2).symm.trans hf
      cases hf
      exact X_throwSW 0 10 rfl rfl xs_k0 xs_i0 (by decide) xs_a0 xs_g0 dX9_requireDirection_9 dX9_requireDirection_12 dX9_requireDirection_13 dX9_requireDirection_16 dX9_requireDirection_19 rfl (by omega) ⟨by decide, by decide⟩ (Nat.le_of_ble_eq_true rfl) rfl rfl
theorem k_X9_requireDirection {l : Launch} {G : Gv} {d : Nat} {w0 : va_W} {q : (Nat ⊕ Unit)} {x0 : Int32} (hd : 6 ≤ d) (hf : f_X9_requireDirection x0 = some q) : XK l G yX9_requireDirection (.code yX9_requireDirection cX9_requireDirection 1 none) d 1 6 [.int x0] w0 (oU q) (fun w => w = w0) := X_intro (by decide) (Nat.le_of_ble_eq_true rfl) (v_X9_requireDirection hd hf)
def f_X9_type (σ : St) (x1 : Int32) : Option ((Nat ⊕ Int32) × St) := bno (f_X9_requireLetter x1) fun r1 => exq r1 (fun cx => some (.inl cx, σ)) (fun u => bno (f_X8_length (gi σ 0)) fun r2 => if r2 < (7) then (bno (f_X8_append (gi σ 0) x1) fun r3 => lt (si σ 0 r3) fun σ1 => bno (f_X8_length (gi σ1 0)) fun r4 => some (.inr r4, σ1)) else (some (.inl 1, σ)))
set_option maxHeartbeats 4000000 in
set_option maxRecDepth 100000 in
theorem v_X9_type {l : Launch} {G : Gv} {ad : Nat → Nat} {d : Nat} {av0 : List Value} {w1 : va_W} {q : ((Nat ⊕ Int32) × St)} {σ : St} {x1 : Int32} (hd : 8 ≤ d) (hf : f_X9_type σ x1 = some q) : VX l G yX9_type cX9_type 2 (some .int) d 16 256 av0 w1 [] (oI q.1) (fun w => w = wC G ad q.2) 0 0 (wC G ad σ) 0 [(0, .ref (ad 0)), (1, .int x1)] [] := by
  unfold f_X9_type at hf
  refine X_iload_n 1 rfl dX9_type_0 rfl ?_
  obtain ⟨r1, hr1, hf⟩ := bno_some hf
  rcases r1 with cx | u
  · replace hf := exq_l hf
    cases hf
    exact X_cSt (As := [.int x1]) (rest := []) (k_X9_requireLetter (d := 6) (Nat.le_refl _) hr1) LB_X9_requireLetter lk_X9_47 (by omega) dX9_type_1 rfl rfl (Nat.le_of_ble_eq_true rfl) ⟨by decide, by decide⟩ rfl rfl rfl
  · replace hf := exq_r hf
    refine X_cSr (As := [.int x1]) (rest := []) (k_X9_requireLetter (d := 6) (Nat.le_refl _) hr1) LB_X9_requireLetter lk_X9_47 (by omega) dX9_type_1 rfl rfl (Nat.le_of_ble_eq_true rfl) ⟨by decide, by decide⟩ [] rfl ?_
    refine X_aload_n 0 rfl dX9_type_4 rfl ?_
    refine X_get (k := 0) RC_X9 fl_X9_9 rfl (by decide) dX9_type_5 0 rfl rfl ?_
    obtain ⟨r2, hr2, hf⟩ := bno_some hf
    refine X_cS (As := [.int (gi σ 0)]) (rest := []) (k_X8_length (d := 0) (Nat.le_refl _) hr2) LB_X8_length lk_X9_51 (by omega) dX9_type_8 rfl rfl (Nat.le_of_ble_eq_true rfl) (by decide) (by decide) [.int r2] rfl ?_
    refine X_bipush 7 dX9_type_11 (by decide) ?_
    refine X_icmp_lt 26 dX9_type_13 (by decide) (fun c1 => ?_) (fun c1 => ?_)
    · replace hf := (if_pos c1).symm.trans hf
      refine X_aload_n 0 rfl dX9_type_26 rfl ?_
      refine X_aload_n 0 rfl dX9_type_27 rfl ?_
      refine X_get (k := 0) RC_X9 fl_X9_9 rfl (by decide) dX9_type_28 0 rfl rfl ?_
      refine X_iload_n 1 rfl dX9_type_31 rfl ?_
      obtain ⟨r3, hr3, hf⟩ := bno_some hf
      refine X_cS (As := [.int (gi σ 0), .int x1]) (rest := [.ref (ad 0)]) (k_X8_append (d := 0) (Nat.le_refl _) hr3) LB_X8_append lk_X9_62 (by omega) dX9_type_32 rfl rfl (Nat.le_of_ble_eq_true rfl) (by decide) (by decide) [.int r3, .ref (ad 0)] rfl ?_
      obtain ⟨σ1, eσ1, hf⟩ := lt_some hf
      refine X_put (k := 0) RC_X9 fl_X9_9 rfl (by decide) rfl dX9_type_35 0 rfl (Nat.le_of_ble_eq_true rfl) rfl rfl (wC G ad σ1) (by rw [eσ1]; rfl) ?_
      refine X_aload_n 0 rfl dX9_type_38 rfl ?_
      refine X_get (k := 0) RC_X9 fl_X9_9 rfl (by decide) dX9_type_39 0 rfl rfl ?_
      obtain ⟨r4, hr4, hf⟩ := bno_some hf
      refine X_cS (As := [.int (gi σ1 0)]) (rest := []) (k_X8_length (d := 0) (Nat.le_refl _) hr4) LB_X8_length lk_X9_51 (by omega) dX9_type_42 rfl rfl (Nat.le_of_ble_eq_true rfl) (by decide) (by decide) [.int r4] rfl ?_
      cases hf
      exact X_iret rfl (by decide) (by decide) dX9_type_45 rfl rfl
    · replace hf := (if_neg c1).symm.trans hf
      cases hf
      exact X_throwS 1 1 rfl rfl xs_k1 xs_i1 (by decide) xs_a1 xs_g1 dX9_type_16 dX9_type_19 dX9_type_20 dX9_type_22 dX9_type_25 rfl (by omega) ⟨by decide, by decide⟩ (Nat.le_of_ble_eq_true rfl) rfl rfl
theorem k_X9_type {l : Launch} {G : Gv} {ad : Nat → Nat} {d : Nat} {σ : St} {q : ((Nat ⊕ Int32) × St)} {x1 : Int32} (hd : 8 ≤ d) (hf : f_X9_type σ x1 = some q) : XK l G yX9_type (.code yX9_type cX9_type 2 (some .int)) d 16 256 [.ref (ad 0), .int x1] (wC G ad σ) (oI q.1) (fun w => w = wC G ad q.2) := X_intro (by decide) (Nat.le_of_ble_eq_true rfl) (v_X9_type hd hf)
def f_X9_tileAt (σ : St) (x1 : Int32) (x2 : Int32) : Option ((Nat ⊕ Int32) × St) := bno (f_X9_requireSquare x1 x2) fun r1 => exq r1 (fun cx => some (.inl cx, σ)) (fun u => bno (f_X6_squareOf x1 x2) fun r2 => bno (f_X0_letter σ r2) fun r3 => some (.inr r3, σ))
set_option maxHeartbeats 4000000 in
set_option maxRecDepth 100000 in
theorem v_X9_tileAt {l : Launch} {G : Gv} {ad : Nat → Nat} {d : Nat} {av0 : List Value} {w1 : va_W} {q : ((Nat ⊕ Int32) × St)} {σ : St} {x1 : Int32} {x2 : Int32} (hd : 8 ≤ d) (hf : f_X9_tileAt σ x1 x2 = some q) : VX l G yX9_tileAt cX9_tileAt 3 (some .int) d 16 256 av0 w1 [] (oI q.1) (fun w => w = wC G ad q.2) 0 0 (wC G ad σ) 0 [(0, .ref (ad 0)), (1, .int x1), (2, .int x2)] [] := by
  unfold f_X9_tileAt at hf
  refine X_iload_n 1 rfl dX9_tileAt_0 rfl ?_
  refine X_iload_n 2 rfl dX9_tileAt_1 rfl ?_
  obtain ⟨r1, hr1, hf⟩ := bno_some hf
  rcases r1 with cx | u
  · replace hf := exq_l hf
    cases hf
    exact X_cSt (As := [.int x1, .int x2]) (rest := []) (k_X9_requireSquare (d := 6) (Nat.le_refl _) hr1) LB_X9_requireSquare lk_X9_107 (by omega) dX9_tileAt_2 rfl rfl (Nat.le_of_ble_eq_true rfl) ⟨by decide, by decide⟩ rfl rfl rfl
  · replace hf := exq_r hf
    refine X_cSr (As := [.int x1, .int x2]) (rest := []) (k_X9_requireSquare (d := 6) (Nat.le_refl _) hr1) LB_X9_requireSquare lk_X9_107 (by omega) dX9_tileAt_2 rfl rfl (Nat.le_of_ble_eq_true rfl) ⟨by decide, by decide⟩ [] rfl ?_
    refine X_aload_n 0 rfl dX9_tileAt_5 rfl ?_
    refine X_get (k := 1) RC_X9 fl_X9_18 rfl (by decide) dX9_tileAt_6 0 rfl rfl ?_
    refine X_getN (k := 1) RC_X7 fl_X9_118 rfl (by decide) dX9_tileAt_9 1 rfl rfl ?_
    refine X_iload_n 1 rfl dX9_tileAt_12 rfl ?_
    refine X_iload_n 2 rfl dX9_tileAt_13 rfl ?_
    obtain ⟨r2, hr2, hf⟩ := bno_some hf
    refine X_cS (As := [.int x1, .int x2]) (rest := [.ref (ad 4)]) (k_X6_squareOf (d := 0) (Nat.le_refl _) hr2) LB_X6_squareOf lk_X9_113 (by omega) dX9_tileAt_14 rfl rfl (Nat.le_of_ble_eq_true rfl) (by decide) (by decide) [.int r2, .ref (ad 4)] rfl ?_
    obtain ⟨r3, hr3, hf⟩ := bno_some hf
    refine X_cV (As := [.int r2]) (rest := []) (k_X0_letter (d := 1) (Nat.le_refl _) hr3) LB_X0_letter lk_X9_143 (by omega) dX9_tileAt_17 rfl rfl (Nat.le_of_ble_eq_true rfl) (by decide) (by decide) 4 rfl ⟨rfl, rfl⟩ [.int r3] rfl ?_
    cases hf
    exact X_iret rfl (by decide) (by decide) dX9_tileAt_20 rfl rfl
theorem k_X9_tileAt {l : Launch} {G : Gv} {ad : Nat → Nat} {d : Nat} {σ : St} {q : ((Nat ⊕ Int32) × St)} {x1 : Int32} {x2 : Int32} (hd : 8 ≤ d) (hf : f_X9_tileAt σ x1 x2 = some q) : XK l G yX9_tileAt (.code yX9_tileAt cX9_tileAt 3 (some .int)) d 16 256 [.ref (ad 0), .int x1, .int x2] (wC G ad σ) (oI q.1) (fun w => w = wC G ad q.2) := X_intro (by decide) (Nat.le_of_ble_eq_true rfl) (v_X9_tileAt hd hf)
def f_X9_onRack (σ : St) (x1 : Int32) (x2 : Int32) : Option ((Nat ⊕ Int32) × St) := bno (f_X9_requirePlayer x1) fun r1 => exq r1 (fun cx => some (.inl cx, σ)) (fun u => bno (f_X9_requireLetter x2) fun r2 => exq r2 (fun cx => some (.inl cx, σ)) (fun u => bno (f_X7_rack σ x1) fun r3 => bno (f_X4_count r3 x2) fun r4 => some (.inr r4, σ)))
set_option maxHeartbeats 4000000 in
set_option maxRecDepth 100000 in
theorem v_X9_onRack {l : Launch} {G : Gv} {ad : Nat → Nat} {d : Nat} {av0 : List Value} {w1 : va_W} {q : ((Nat ⊕ Int32) × St)} {σ : St} {x1 : Int32} {x2 : Int32} (hd : 8 ≤ d) (hf : f_X9_onRack σ x1 x2 = some q) : VX l G yX9_onRack cX9_onRack 3 (some .int) d 16 256 av0 w1 [] (oI q.1) (fun w => w = wC G ad q.2) 0 0 (wC G ad σ) 0 [(0, .ref (ad 0)), (1, .int x1), (2, .int x2)] [] := by
  unfold f_X9_onRack at hf
  refine X_iload_n 1 rfl dX9_onRack_0 rfl ?_
  obtain ⟨r1, hr1, hf⟩ := bno_some hf
  rcases r1 with cx | u
  · replace hf := exq_l hf
    cases hf
    exact X_cSt (As := [.int x1]) (rest := []) (k_X9_requirePlayer (d := 6) (Nat.le_refl _) hr1) LB_X9_requirePlayer lk_X9_130 (by omega) dX9_onRack_1 rfl rfl (Nat.le_of_ble_eq_true rfl) ⟨by decide, by decide⟩ rfl rfl rfl
  · replace hf := exq_r hf
    refine X_cSr (As := [.int x1]) (rest := []) (k_X9_requirePlayer (d := 6) (Nat.le_refl _) hr1) LB_X9_requirePlayer lk_X9_130 (by omega) dX9_onRack_1 rfl rfl (Nat.le_of_ble_eq_true rfl) ⟨by decide, by decide⟩ [] rfl ?_
    refine X_iload_n 2 rfl dX9_onRack_4 rfl ?_
    obtain ⟨r2, hr2, hf⟩ := bno_some hf
    rcases r2 with cx | u
    · replace hf := exq_l hf
      cases hf
      exact X_cSt (As := [.int x2]) (rest := []) (k_X9_requireLetter (d := 6) (Nat.le_refl _) hr2) LB_X9_requireLetter lk_X9_47 (by omega) dX9_onRack_5 rfl rfl (Nat.le_of_ble_eq_true rfl) ⟨by decide, by decide⟩ rfl rfl rfl
    · replace hf := exq_r hf
      refine X_cSr (As := [.int x2]) (rest := []) (k_X9_requireLetter (d := 6) (Nat.le_refl _) hr2) LB_X9_requireLetter lk_X9_47 (by omega) dX9_onRack_5 rfl rfl (Nat.le_of_ble_eq_true rfl) ⟨by decide, by decide⟩ [] rfl ?_
      refine X_aload_n 0 rfl dX9_onRack_8 rfl ?_
      refine X_get (k := 1) RC_X9 fl_X9_18 rfl (by decide) dX9_onRack_9 0 rfl rfl ?_
      refine X_iload_n 1 rfl dX9_onRack_12 rfl ?_
      obtain ⟨r3, hr3, hf⟩ := bno_some hf
      refine X_cV (As := [.int x1]) (rest := []) (k_X7_rack (d := 1) (Nat.le_refl _) hr3) LB_X7_rack lk_X9_149 (by omega) dX9_onRack_13 rfl rfl (Nat.le_of_ble_eq_true rfl) (by decide) (by decide) 1 rfl ⟨rfl, rfl⟩ [.int r3] rfl ?_
      refine X_iload_n 2 rfl dX9_onRack_16 rfl ?_
      obtain ⟨r4, hr4, hf⟩ := bno_some hf
      refine X_cS (As := [.int r3, .int x2]) (rest := []) (k_X4_count (d := 0) (Nat.le_refl _) hr4) LB_X4_count lk_X9_152 (by omega) dX9_onRack_17 rfl rfl (Nat.le_of_ble_eq_true rfl) (by decide) (by decide) [.int r4] rfl ?_
      cases hf
      exact X_iret rfl (by decide) (by decide) dX9_onRack_20 rfl rfl
theorem k_X9_onRack {l : Launch} {G : Gv} {ad : Nat → Nat} {d : Nat} {σ : St} {q : ((Nat ⊕ Int32) × St)} {x1 : Int32} {x2 : Int32} (hd : 8 ≤ d) (hf : f_X9_onRack σ x1 x2 = some q) : XK l G yX9_onRack (.code yX9_onRack cX9_onRack 3 (some .int)) d 16 256 [.ref (ad 0), .int x1, .int x2] (wC G ad σ) (oI q.1) (fun w => w = wC G ad q.2) := X_intro (by decide) (Nat.le_of_ble_eq_true rfl) (v_X9_onRack hd hf)
def f_X9_score (σ : St) (x1 : Int32) : Option ((Nat ⊕ Int32) × St) := bno (f_X9_requirePlayer x1) fun r1 => exq r1 (fun cx => some (.inl cx, σ)) (fun u => bno (f_X7_points σ x1) fun r2 => some (.inr r2, σ))
set_option maxHeartbeats 4000000 in
set_option maxRecDepth 100000 in
theorem v_X9_score {l : Launch} {G : Gv} {ad : Nat → Nat} {d : Nat} {av0 : List Value} {w1 : va_W} {q : ((Nat ⊕ Int32) × St)} {σ : St} {x1 : Int32} (hd : 8 ≤ d) (hf : f_X9_score σ x1 = some q) : VX l G yX9_score cX9_score 2 (some .int) d 16 256 av0 w1 [] (oI q.1) (fun w => w = wC G ad q.2) 0 0 (wC G ad σ) 0 [(0, .ref (ad 0)), (1, .int x1)] [] := by
  unfold f_X9_score at hf
  refine X_iload_n 1 rfl dX9_score_0 rfl ?_
  obtain ⟨r1, hr1, hf⟩ := bno_some hf
  rcases r1 with cx | u
  · replace hf := exq_l hf
    cases hf
    exact X_cSt (As := [.int x1]) (rest := []) (k_X9_requirePlayer (d := 6) (Nat.le_refl _) hr1) LB_X9_requirePlayer lk_X9_130 (by omega) dX9_score_1 rfl rfl (Nat.le_of_ble_eq_true rfl) ⟨by decide, by decide⟩ rfl rfl rfl
  · replace hf := exq_r hf
    refine X_cSr (As := [.int x1]) (rest := []) (k_X9_requirePlayer (d := 6) (Nat.le_refl _) hr1) LB_X9_requirePlayer lk_X9_130 (by omega) dX9_score_1 rfl rfl (Nat.le_of_ble_eq_true rfl) ⟨by decide, by decide⟩ [] rfl ?_
    refine X_aload_n 0 rfl dX9_score_4 rfl ?_
    refine X_get (k := 1) RC_X9 fl_X9_18 rfl (by decide) dX9_score_5 0 rfl rfl ?_
    refine X_iload_n 1 rfl dX9_score_8 rfl ?_
    obtain ⟨r2, hr2, hf⟩ := bno_some hf
    refine X_cV (As := [.int x1]) (rest := []) (k_X7_points (d := 1) (Nat.le_refl _) hr2) LB_X7_points lk_X9_155 (by omega) dX9_score_9 rfl rfl (Nat.le_of_ble_eq_true rfl) (by decide) (by decide) 1 rfl ⟨rfl, rfl⟩ [.int r2] rfl ?_
    cases hf
    exact X_iret rfl (by decide) (by decide) dX9_score_12 rfl rfl
theorem k_X9_score {l : Launch} {G : Gv} {ad : Nat → Nat} {d : Nat} {σ : St} {q : ((Nat ⊕ Int32) × St)} {x1 : Int32} (hd : 8 ≤ d) (hf : f_X9_score σ x1 = some q) : XK l G yX9_score (.code yX9_score cX9_score 2 (some .int)) d 16 256 [.ref (ad 0), .int x1] (wC G ad σ) (oI q.1) (fun w => w = wC G ad q.2) := X_intro (by decide) (Nat.le_of_ble_eq_true rfl) (v_X9_score hd hf)
def f_X9_crossSet (σ : St) (x1 : Int32) (x2 : Int32) (x3 : Int32) : Option ((Nat ⊕ Int32) × St) := bno (f_X9_requireSquare x1 x2) fun r1 => exq r1 (fun cx => some (.inl cx, σ)) (fun u => bno (f_X9_requireDirection x3) fun r2 => exq r2 (fun cx => some (.inl cx, σ)) (fun u => bno (f_X6_of x3 x1 x2) fun r3 => bno (f_X5_crossLetters σ r3) fun r4 => some (.inr r4, σ)))
set_option maxHeartbeats 4000000 in
set_option maxRecDepth 100000 in
theorem v_X9_crossSet {l : Launch} {G : Gv} {ad : Nat → Nat} {d : Nat} {av0 : List Value} {w1 : va_W} {q : ((Nat ⊕ Int32) × St)} {σ : St} {x1 : Int32} {x2 : Int32} {x3 : Int32} (hd : 8 ≤ d) (hf : f_X9_crossSet σ x1 x2 x3 = some q) : VX l G yX9_crossSet cX9_crossSet 4 (some .int) d 16 256 av0 w1 [] (oI q.1) (fun w => w = wC G ad q.2) 0 0 (wC G ad σ) 0 [(0, .ref (ad 0)), (1, .int x1), (2, .int x2), (3, .int x3)] [] := by
  unfold f_X9_crossSet at hf
  refine X_iload_n 1 rfl dX9_crossSet_0 rfl ?_
  refine X_iload_n 2 rfl dX9_crossSet_1 rfl ?_
  obtain ⟨r1, hr1, hf⟩ := bno_some hf
  rcases r1 with cx | u
  · replace hf := exq_l hf
    cases hf
    exact X_cSt (As := [.int x1, .int x2]) (rest := []) (k_X9_requireSquare (d := 6) (Nat.le_refl _) hr1) LB_X9_requireSquare lk_X9_107 (by omega) dX9_crossSet_2 rfl rfl (Nat.le_of_ble_eq_true rfl) ⟨by decide, by decide⟩ rfl rfl rfl
  · replace hf := exq_r hf
    refine X_cSr (As := [.int x1, .int x2]) (rest := []) (k_X9_requireSquare (d := 6) (Nat.le_refl _) hr1) LB_X9_requireSquare lk_X9_107 (by omega) dX9_crossSet_2 rfl rfl (Nat.le_of_ble_eq_true rfl) ⟨by decide, by decide⟩ [] rfl ?_
    refine X_iload_n 3 rfl dX9_crossSet_5 rfl ?_
    obtain ⟨r2, hr2, hf⟩ := bno_some hf
    rcases r2 with cx | u
    · replace hf := exq_l hf
      cases hf
      exact X_cSt (As := [.int x3]) (rest := []) (k_X9_requireDirection (d := 6) (Nat.le_refl _) hr2) LB_X9_requireDirection lk_X9_158 (by omega) dX9_crossSet_6 rfl rfl (Nat.le_of_ble_eq_true rfl) ⟨by decide, by decide⟩ rfl rfl rfl
    · replace hf := exq_r hf
      refine X_cSr (As := [.int x3]) (rest := []) (k_X9_requireDirection (d := 6) (Nat.le_refl _) hr2) LB_X9_requireDirection lk_X9_158 (by omega) dX9_crossSet_6 rfl rfl (Nat.le_of_ble_eq_true rfl) ⟨by decide, by decide⟩ [] rfl ?_
      refine X_aload_n 0 rfl dX9_crossSet_9 rfl ?_
      refine X_get (k := 2) RC_X9 fl_X9_27 rfl (by decide) dX9_crossSet_10 0 rfl rfl ?_
      refine X_iload_n 3 rfl dX9_crossSet_13 rfl ?_
      refine X_iload_n 1 rfl dX9_crossSet_14 rfl ?_
      refine X_iload_n 2 rfl dX9_crossSet_15 rfl ?_
      obtain ⟨r3, hr3, hf⟩ := bno_some hf
      refine X_cS (As := [.int x3, .int x1, .int x2]) (rest := [.ref (ad 11)]) (k_X6_of (d := 0) (Nat.le_refl _) hr3) LB_X6_of lk_X9_161 (by omega) dX9_crossSet_16 rfl rfl (Nat.le_of_ble_eq_true rfl) (by decide) (by decide) [.int r3, .ref (ad 11)] rfl ?_
      obtain ⟨r4, hr4, hf⟩ := bno_some hf
      refine X_cV (As := [.int r3]) (rest := []) (k_X5_crossLetters (d := 3) (Nat.le_refl _) hr4) LB_X5_crossLetters lk_X9_164 (by omega) dX9_crossSet_19 rfl rfl (Nat.le_of_ble_eq_true rfl) (by decide) (by decide) 11 rfl ⟨rfl, rfl⟩ [.int r4] rfl ?_
      cases hf
      exact X_iret rfl (by decide) (by decide) dX9_crossSet_22 rfl rfl
theorem k_X9_crossSet {l : Launch} {G : Gv} {ad : Nat → Nat} {d : Nat} {σ : St} {q : ((Nat ⊕ Int32) × St)} {x1 : Int32} {x2 : Int32} {x3 : Int32} (hd : 8 ≤ d) (hf : f_X9_crossSet σ x1 x2 x3 = some q) : XK l G yX9_crossSet (.code yX9_crossSet cX9_crossSet 4 (some .int)) d 16 256 [.ref (ad 0), .int x1, .int x2, .int x3] (wC G ad σ) (oI q.1) (fun w => w = wC G ad q.2) := X_intro (by decide) (Nat.le_of_ble_eq_true rfl) (v_X9_crossSet hd hf)
def f_X9_isAnchor (σ : St) (x1 : Int32) (x2 : Int32) : Option ((Nat ⊕ Bool) × St) := bno (f_X9_requireSquare x1 x2) fun r1 => exq r1 (fun cx => some (.inl cx, σ)) (fun u => bno (f_X0_anchorSquares σ) fun r2 => bno (f_X6_squareOf x1 x2) fun r3 => if (lg_cmp ((lush r2 r3) &&& (1)) (0)) = 0 then (some (.inr false, σ)) else (some (.inr true, σ)))
set_option maxHeartbeats 4000000 in
set_option maxRecDepth 100000 in
theorem v_X9_isAnchor {l : Launch} {G : Gv} {ad : Nat → Nat} {d : Nat} {av0 : List Value} {w1 : va_W} {q : ((Nat ⊕ Bool) × St)} {σ : St} {x1 : Int32} {x2 : Int32} (hd : 8 ≤ d) (hf : f_X9_isAnchor σ x1 x2 = some q) : VX l G yX9_isAnchor cX9_isAnchor 3 (some .boolean) d 16 256 av0 w1 [] (oB q.1) (fun w => w = wC G ad q.2) 0 0 (wC G ad σ) 0 [(0, .ref (ad 0)), (1, .int x1), (2, .int x2)] [] := by
  unfold f_X9_isAnchor at hf
  refine X_iload_n 1 rfl dX9_isAnchor_0 rfl ?_
  refine X_iload_n 2 rfl dX9_isAnchor_1 rfl ?_
  obtain ⟨r1, hr1, hf⟩ := bno_some hf
  rcases r1 with cx | u
  · replace hf := exq_l hf
    cases hf
    exact X_cSt (As := [.int x1, .int x2]) (rest := []) (k_X9_requireSquare (d := 6) (Nat.le_refl _) hr1) LB_X9_requireSquare lk_X9_107 (by omega) dX9_isAnchor_2 rfl rfl (Nat.le_of_ble_eq_true rfl) ⟨by decide, by decide⟩ rfl rfl rfl
  · replace hf := exq_r hf
    refine X_cSr (As := [.int x1, .int x2]) (rest := []) (k_X9_requireSquare (d := 6) (Nat.le_refl _) hr1) LB_X9_requireSquare lk_X9_107 (by omega) dX9_isAnchor_2 rfl rfl (Nat.le_of_ble_eq_true rfl) ⟨by decide, by decide⟩ [] rfl ?_
    refine X_aload_n 0 rfl dX9_isAnchor_5 rfl ?_
    refine X_get (k := 1) RC_X9 fl_X9_18 rfl (by decide) dX9_isAnchor_6 0 rfl rfl ?_
    refine X_getN (k := 1) RC_X7 fl_X9_118 rfl (by decide) dX9_isAnchor_9 1 rfl rfl ?_
    obtain ⟨r2, hr2, hf⟩ := bno_some hf
    refine X_cV (As := []) (rest := []) (k_X0_anchorSquares (d := 1) (Nat.le_refl _) hr2) LB_X0_anchorSquares lk_X9_167 (by omega) dX9_isAnchor_12 rfl rfl (Nat.le_of_ble_eq_true rfl) (by decide) (by decide) 4 rfl ⟨rfl, rfl⟩ [.long r2] rfl ?_
    refine X_iload_n 1 rfl dX9_isAnchor_15 rfl ?_
    refine X_iload_n 2 rfl dX9_isAnchor_16 rfl ?_
    obtain ⟨r3, hr3, hf⟩ := bno_some hf
    refine X_cS (As := [.int x1, .int x2]) (rest := [.long r2]) (k_X6_squareOf (d := 0) (Nat.le_refl _) hr3) LB_X6_squareOf lk_X9_113 (by omega) dX9_isAnchor_17 rfl rfl (Nat.le_of_ble_eq_true rfl) (by decide) (by decide) [.int r3, .long r2] rfl ?_
    refine X_lushr dX9_isAnchor_20 ?_
    refine X_lconst 1 dX9_isAnchor_21 (by decide) ?_
    refine X_land dX9_isAnchor_22 ?_
    refine X_lconst 0 dX9_isAnchor_23 (by decide) ?_
    refine X_lcmp dX9_isAnchor_24 ?_
    refine X_if_eq 32 dX9_isAnchor_25 (by decide) (fun c1 => ?_) (fun c1 => ?_)
    · replace hf := (if_pos c1).symm.trans hf
      refine X_iconst 0 dX9_isAnchor_32 (by decide) ?_
      cases hf
      exact X_zret (ty := .boolean) rfl rfl (by decide) (by decide) dX9_isAnchor_33 rfl rfl
    · replace hf := (if_neg c1).symm.trans hf
      refine X_iconst 1 dX9_isAnchor_28 (by decide) ?_
      refine X_goto 33 dX9_isAnchor_29 (by decide) ?_
      cases hf
      exact X_zret (ty := .boolean) rfl rfl (by decide) (by decide) dX9_isAnchor_33 rfl rfl
theorem k_X9_isAnchor {l : Launch} {G : Gv} {ad : Nat → Nat} {d : Nat} {σ : St} {q : ((Nat ⊕ Bool) × St)} {x1 : Int32} {x2 : Int32} (hd : 8 ≤ d) (hf : f_X9_isAnchor σ x1 x2 = some q) : XK l G yX9_isAnchor (.code yX9_isAnchor cX9_isAnchor 3 (some .boolean)) d 16 256 [.ref (ad 0), .int x1, .int x2] (wC G ad σ) (oB q.1) (fun w => w = wC G ad q.2) := X_intro (by decide) (Nat.le_of_ble_eq_true rfl) (v_X9_isAnchor hd hf)
def f_X9_check (σ : St) (x1 : Int32) (x2 : Int32) (x3 : Int32) (x4 : Int32) : Option ((Nat ⊕ Int32) × St) := bno (f_X9_requirePlayer x1) fun r1 => exq r1 (fun cx => some (.inl cx, σ)) (fun u => bno (f_X9_requireSquare x3 x4) fun r2 => exq r2 (fun cx => some (.inl cx, σ)) (fun u => bno (f_X9_requireDirection x2) fun r3 => exq r3 (fun cx => some (.inl cx, σ)) (fun u => bno (f_X6_of x2 x3 x4) fun r4 => bno (f_X9_lookUp σ) fun r5 => bno (f_X5_refusal σ x1 r4 r5) fun r6 => some (.inr r6, σ))))
set_option maxHeartbeats 4000000 in
set_option maxRecDepth 100000 in
theorem v_X9_check {l : Launch} {G : Gv} {ad : Nat → Nat} {d : Nat} {av0 : List Value} {w1 : va_W} {q : ((Nat ⊕ Int32) × St)} {σ : St} {x1 : Int32} {x2 : Int32} {x3 : Int32} {x4 : Int32} (hd : 8 ≤ d) (hf : f_X9_check σ x1 x2 x3 x4 = some q) : VX l G yX9_check cX9_check 5 (some .int) d 16 256 av0 w1 [] (oI q.1) (fun w => w = wC G ad q.2) 0 0 (wC G ad σ) 0 [(0, .ref (ad 0)), (1, .int x1), (2, .int x2), (3, .int x3), (4, .int x4)] [] := by
  unfold f_X9_check at hf
  refine X_iload_n 1 rfl dX9_check_0 rfl ?_
  obtain ⟨r1, hr1, hf⟩ := bno_some hf
  rcases r1 with cx | u
  · replace hf := exq_l hf
    cases hf
    exact X_cSt (As := [.int x1]) (rest := []) (k_X9_requirePlayer (d := 6) (Nat.le_refl _) hr1) LB_X9_requirePlayer lk_X9_130 (by omega) dX9_check_1 rfl rfl (Nat.le_of_ble_eq_true rfl) ⟨by decide, by decide⟩ rfl rfl rfl
  · replace hf := exq_r hf
    refine X_cSr (As := [.int x1]) (rest := []) (k_X9_requirePlayer (d := 6) (Nat.le_refl _) hr1) LB_X9_requirePlayer lk_X9_130 (by omega) dX9_check_1 rfl rfl (Nat.le_of_ble_eq_true rfl) ⟨by decide, by decide⟩ [] rfl ?_
    refine X_iload_n 3 rfl dX9_check_4 rfl ?_
    refine X_iload 4 rfl dX9_check_5 ?_
    obtain ⟨r2, hr2, hf⟩ := bno_some hf
    rcases r2 with cx | u
    · replace hf := exq_l hf
      cases hf
      exact X_cSt (As := [.int x3, .int x4]) (rest := []) (k_X9_requireSquare (d := 6) (Nat.le_refl _) hr2) LB_X9_requireSquare lk_X9_107 (by omega) dX9_check_7 rfl rfl (Nat.le_of_ble_eq_true rfl) ⟨by decide, by decide⟩ rfl rfl rfl
    · replace hf := exq_r hf
      refine X_cSr (As := [.int x3, .int x4]) (rest := []) (k_X9_requireSquare (d := 6) (Nat.le_refl _) hr2) LB_X9_requireSquare lk_X9_107 (by omega) dX9_check_7 rfl rfl (Nat.le_of_ble_eq_true rfl) ⟨by decide, by decide⟩ [] rfl ?_
      refine X_iload_n 2 rfl dX9_check_10 rfl ?_
      obtain ⟨r3, hr3, hf⟩ := bno_some hf
      rcases r3 with cx | u
      · replace hf := exq_l hf
        cases hf
        exact X_cSt (As := [.int x2]) (rest := []) (k_X9_requireDirection (d := 6) (Nat.le_refl _) hr3) LB_X9_requireDirection lk_X9_158 (by omega) dX9_check_11 rfl rfl (Nat.le_of_ble_eq_true rfl) ⟨by decide, by decide⟩ rfl rfl rfl
      · replace hf := exq_r hf
        refine X_cSr (As := [.int x2]) (rest := []) (k_X9_requireDirection (d := 6) (Nat.le_refl _) hr3) LB_X9_requireDirection lk_X9_158 (by omega) dX9_check_11 rfl rfl (Nat.le_of_ble_eq_true rfl) ⟨by decide, by decide⟩ [] rfl ?_
        refine X_aload_n 0 rfl dX9_check_14 rfl ?_
        refine X_get (k := 2) RC_X9 fl_X9_27 rfl (by decide) dX9_check_15 0 rfl rfl ?_
        refine X_iload_n 1 rfl dX9_check_18 rfl ?_
        refine X_iload_n 2 rfl dX9_check_19 rfl ?_
        refine X_iload_n 3 rfl dX9_check_20 rfl ?_
        refine X_iload 4 rfl dX9_check_21 ?_
        obtain ⟨r4, hr4, hf⟩ := bno_some hf
        refine X_cS (As := [.int x2, .int x3, .int x4]) (rest := [.int x1, .ref (ad 11)]) (k_X6_of (d := 0) (Nat.le_refl _) hr4) LB_X6_of lk_X9_161 (by omega) dX9_check_23 rfl rfl (Nat.le_of_ble_eq_true rfl) (by decide) (by decide) [.int r4, .int x1, .ref (ad 11)] rfl ?_
        refine X_aload_n 0 rfl dX9_check_26 rfl ?_
        obtain ⟨r5, hr5, hf⟩ := bno_some hf
        refine X_cV (As := []) (rest := [.int r4, .int x1, .ref (ad 11)]) (k_X9_lookUp (d := 1) (Nat.le_refl _) hr5) LB_X9_lookUp lk_X9_177 (by omega) dX9_check_27 rfl rfl (Nat.le_of_ble_eq_true rfl) (by decide) (by decide) 0 rfl ⟨rfl, rfl⟩ [.int r5, .int r4, .int x1, .ref (ad 11)] rfl ?_
        obtain ⟨r6, hr6, hf⟩ := bno_some hf
        refine X_cV (As := [.int x1, .int r4, .int r5]) (rest := []) (k_X5_refusal (d := 4) (Nat.le_refl _) hr6) LB_X5_refusal lk_X9_180 (by omega) dX9_check_30 rfl rfl (Nat.le_of_ble_eq_true rfl) (by decide) (by decide) 11 rfl ⟨rfl, rfl⟩ [.int r6] rfl ?_
        cases hf
        exact X_iret rfl (by decide) (by decide) dX9_check_33 rfl rfl
theorem k_X9_check {l : Launch} {G : Gv} {ad : Nat → Nat} {d : Nat} {σ : St} {q : ((Nat ⊕ Int32) × St)} {x1 : Int32} {x2 : Int32} {x3 : Int32} {x4 : Int32} (hd : 8 ≤ d) (hf : f_X9_check σ x1 x2 x3 x4 = some q) : XK l G yX9_check (.code yX9_check cX9_check 5 (some .int)) d 16 256 [.ref (ad 0), .int x1, .int x2, .int x3, .int x4] (wC G ad σ) (oI q.1) (fun w => w = wC G ad q.2) := X_intro (by decide) (Nat.le_of_ble_eq_true rfl) (v_X9_check hd hf)
def f_X9_plays (σ : St) (x1 : Int32) : Option ((Nat ⊕ Int32) × St) := bno (f_X9_requirePlayer x1) fun r1 => exq r1 (fun cx => some (.inl cx, σ)) (fun u => bno (f_X5_countPlays σ x1) fun r2 => some (.inr r2, σ))
set_option maxHeartbeats 4000000 in
set_option maxRecDepth 100000 in
theorem v_X9_plays {l : Launch} {G : Gv} {ad : Nat → Nat} {d : Nat} {av0 : List Value} {w1 : va_W} {q : ((Nat ⊕ Int32) × St)} {σ : St} {x1 : Int32} (hd : 9 ≤ d) (hf : f_X9_plays σ x1 = some q) : VX l G yX9_plays cX9_plays 2 (some .int) d 16 256 av0 w1 [] (oI q.1) (fun w => w = wC G ad q.2) 0 0 (wC G ad σ) 0 [(0, .ref (ad 0)), (1, .int x1)] [] := by
  unfold f_X9_plays at hf
  refine X_iload_n 1 rfl dX9_plays_0 rfl ?_
  obtain ⟨r1, hr1, hf⟩ := bno_some hf
  rcases r1 with cx | u
  · replace hf := exq_l hf
    cases hf
    exact X_cSt (As := [.int x1]) (rest := []) (k_X9_requirePlayer (d := 6) (Nat.le_refl _) hr1) LB_X9_requirePlayer lk_X9_130 (by omega) dX9_plays_1 rfl rfl (Nat.le_of_ble_eq_true rfl) ⟨by decide, by decide⟩ rfl rfl rfl
  · replace hf := exq_r hf
    refine X_cSr (As := [.int x1]) (rest := []) (k_X9_requirePlayer (d := 6) (Nat.le_refl _) hr1) LB_X9_requirePlayer lk_X9_130 (by omega) dX9_plays_1 rfl rfl (Nat.le_of_ble_eq_true rfl) ⟨by decide, by decide⟩ [] rfl ?_
    refine X_aload_n 0 rfl dX9_plays_4 rfl ?_
    refine X_get (k := 2) RC_X9 fl_X9_27 rfl (by decide) dX9_plays_5 0 rfl rfl ?_
    refine X_iload_n 1 rfl dX9_plays_8 rfl ?_
    obtain ⟨r2, hr2, hf⟩ := bno_some hf
    refine X_cV (As := [.int x1]) (rest := []) (k_X5_countPlays (d := 6) (Nat.le_refl _) hr2) LB_X5_countPlays lk_X9_191 (by omega) dX9_plays_9 rfl rfl (Nat.le_of_ble_eq_true rfl) (by decide) (by decide) 11 rfl ⟨rfl, rfl⟩ [.int r2] rfl ?_
    cases hf
    exact X_iret rfl (by decide) (by decide) dX9_plays_12 rfl rfl
theorem k_X9_plays {l : Launch} {G : Gv} {ad : Nat → Nat} {d : Nat} {σ : St} {q : ((Nat ⊕ Int32) × St)} {x1 : Int32} (hd : 9 ≤ d) (hf : f_X9_plays σ x1 = some q) : XK l G yX9_plays (.code yX9_plays cX9_plays 2 (some .int)) d 16 256 [.ref (ad 0), .int x1] (wC G ad σ) (oI q.1) (fun w => w = wC G ad q.2) := X_intro (by decide) (Nat.le_of_ble_eq_true rfl) (v_X9_plays hd hf)
def f_X9_playAt_40 (σ : St) : Option ((Nat ⊕ Int32) × St) := some (.inl 0, σ)
set_option maxHeartbeats 4000000 in
set_option maxRecDepth 100000 in
theorem v_X9_playAt_40 {l : Launch} {G : Gv} {ad : Nat → Nat} {d : Nat} {av0 : List Value} {w1 : va_W} {q : ((Nat ⊕ Int32) × St)} {σ : St} (hd : 9 ≤ d) (hf : f_X9_playAt_40 σ = some q) : VX l G yX9_playAt cX9_playAt 6 (some .int) d 16 256 av0 w1 [] (oI q.1) (fun w => w = wC G ad q.2) 4 24 (wC G ad σ) 40 [] [] := by
  unfold f_X9_playAt_40 at hf
  cases hf
  exact X_throwS 0 13 rfl rfl xs_k0 xs_i0 (by decide) xs_a0 xs_g0 dX9_playAt_40 dX9_playAt_43 dX9_playAt_44 dX9_playAt_46 dX9_playAt_49 rfl (by omega) ⟨by decide, by decide⟩ (Nat.le_of_ble_eq_true rfl) rfl rfl
def f_X9_playAt (σ : St) (x1 : Int32) (x2 : Int32) (x3 : Int32) : Option ((Nat ⊕ Int32) × St) := bno (f_X9_requirePlayer x1) fun r1 => exq r1 (fun cx => some (.inl cx, σ)) (fun u => bno (f_X5_playNumbered σ x1 x2) fun r2 => if r2 = (-1) then (some (.inl 2, σ)) else (if x3 < 0 then (f_X9_playAt_40 σ) else (if x3 ≤ (5) then (bno (f_X6_ofPlay r2) fun r3 => if x3 = 0 then (bno (f_X6_direction r3) fun r4 => some (.inr r4, σ)) else (if x3 = 1 then (bno (f_X6_row r3) fun r5 => some (.inr r5, σ)) else (if x3 = 2 then (bno (f_X6_column r3) fun r6 => some (.inr r6, σ)) else (if x3 = 3 then (bno (f_X6_wordOfPlay r2) fun r7 => some (.inr r7, σ)) else (if x3 = 4 then (bno (f_X5_pointsOf σ r2) fun r8 => some (.inr r8, σ)) else (bno (f_X5_equityOf σ x1 r2) fun r9 => some (.inr r9, σ))))))) else (f_X9_playAt_40 σ))))
set_option maxHeartbeats 4000000 in
set_option maxRecDepth 100000 in
theorem v_X9_playAt {l : Launch} {G : Gv} {ad : Nat → Nat} {d : Nat} {av0 : List Value} {w1 : va_W} {q : ((Nat ⊕ Int32) × St)} {σ : St} {x1 : Int32} {x2 : Int32} {x3 : Int32} (hd : 9 ≤ d) (hf : f_X9_playAt σ x1 x2 x3 = some q) : VX l G yX9_playAt cX9_playAt 6 (some .int) d 16 256 av0 w1 [] (oI q.1) (fun w => w = wC G ad q.2) 0 0 (wC G ad σ) 0 [(0, .ref (ad 0)), (1, .int x1), (2, .int x2), (3, .int x3)] [] := by
  unfold f_X9_playAt at hf
  refine X_iload_n 1 rfl dX9_playAt_0 rfl ?_
  obtain ⟨r1, hr1, hf⟩ := bno_some hf
  rcases r1 with cx | u
  · replace hf := exq_l hf
    cases hf
    exact X_cSt (As := [.int x1]) (rest := []) (k_X9_requirePlayer (d := 6) (Nat.le_refl _) hr1) LB_X9_requirePlayer lk_X9_130 (by omega) dX9_playAt_1 rfl rfl (Nat.le_of_ble_eq_true rfl) ⟨by decide, by decide⟩ rfl rfl rfl
  · replace hf := exq_r hf
    refine X_cSr (As := [.int x1]) (rest := []) (k_X9_requirePlayer (d := 6) (Nat.le_refl _) hr1) LB_X9_requirePlayer lk_X9_130 (by omega) dX9_playAt_1 rfl rfl (Nat.le_of_ble_eq_true rfl) ⟨by decide, by decide⟩ [] rfl ?_
    refine X_aload_n 0 rfl dX9_playAt_4 rfl ?_
    refine X_get (k := 2) RC_X9 fl_X9_27 rfl (by decide) dX9_playAt_5 0 rfl rfl ?_
    refine X_iload_n 1 rfl dX9_playAt_8 rfl ?_
    refine X_iload_n 2 rfl dX9_playAt_9 rfl ?_
    obtain ⟨r2, hr2, hf⟩ := bno_some hf
    refine X_cV (As := [.int x1, .int x2]) (rest := []) (k_X5_playNumbered (d := 6) (Nat.le_refl _) hr2) LB_X5_playNumbered lk_X9_194 (by omega) dX9_playAt_10 rfl rfl (Nat.le_of_ble_eq_true rfl) (by decide) (by decide) 11 rfl ⟨rfl, rfl⟩ [.int r2] rfl ?_
    refine X_istore [(0, .ref (ad 0)), (1, .int x1), (2, .int x2), (3, .int x3), (4, .int r2)] [1, 2, 3, 4, 0] dX9_playAt_13 (by decide) rfl ?_
    refine X_iload 4 rfl dX9_playAt_15 ?_
    refine X_iconst (-1) dX9_playAt_17 (by decide) ?_
    refine X_icmp_ne 31 dX9_playAt_18 (by decide) (fun c1 => ?_) (fun c1 => ?_)
    · replace hf := (if_neg c1).symm.trans hf
      refine X_iload_n 3 rfl dX9_playAt_31 rfl ?_
      refine X_if_lt 40 dX9_playAt_32 (by decide) (fun c2 => ?_) (fun c2 => ?_)
      · replace hf := (if_pos c2).symm.trans hf
        refine X_lv [] [] rfl ?_
        refine X_widen (ce1 := 4) (sl1 := 24) (by decide) (by decide) ?_
        exact v_X9_playAt_40 hd hf
      · replace hf := (if_neg c2).symm.trans hf
        refine X_iload_n 3 rfl dX9_playAt_35 rfl ?_
        refine X_iconst 5 dX9_playAt_36 (by decide) ?_
        refine X_icmp_le 50 dX9_playAt_37 (by decide) (fun c3 => ?_) (fun c3 => ?_)
        · replace hf := (if_pos c3).symm.trans hf
          refine X_iload 4 rfl dX9_playAt_50 ?_
          obtain ⟨r3, hr3, hf⟩ := bno_some hf
          refine X_cS (As := [.int r2]) (rest := []) (k_X6_ofPlay (d := 0) (Nat.le_refl _) hr3) LB_X6_ofPlay lk_X9_204 (by omega) dX9_playAt_52 rfl rfl (Nat.le_of_ble_eq_true rfl) (by decide) (by decide) [.int r3] rfl ?_
          refine X_istore [(0, .ref (ad 0)), (1, .int x1), (2, .int x2), (3, .int x3), (4, .int r2), (5, .int r3)] [1, 2, 3, 4, 5, 0] dX9_playAt_55 (by decide) rfl ?_
          refine X_iload_n 3 rfl dX9_playAt_57 rfl ?_
          by_cases c4 : x3 = 0
          · replace hf := (if_pos c4).symm.trans hf
            refine X_tabIn 92 dX9_playAt_58 (by rw [c4]; decide) (by rw [c4]; decide) (by rw [c4]; rfl) (by decide) ?_
            refine X_iload 5 rfl dX9_playAt_92 ?_
            obtain ⟨r4, hr4, hf⟩ := bno_some hf
            refine X_cS (As := [.int r3]) (rest := []) (k_X6_direction (d := 0) (Nat.le_refl _) hr4) LB_X6_direction lk_X9_207 (by omega) dX9_playAt_94 rfl rfl (Nat.le_of_ble_eq_true rfl) (by decide) (by decide) [.int r4] rfl ?_
            cases hf
            exact X_iret rfl (by decide) (by decide) dX9_playAt_97 rfl rfl
          · replace hf := (if_neg c4).symm.trans hf
            by_cases c5 : x3 = 1
            · replace hf := (if_pos c5).symm.trans hf
              refine X_tabIn 98 dX9_playAt_58 (by rw [c5]; decide) (by rw [c5]; decide) (by rw [c5]; rfl) (by decide) ?_
              refine X_iload 5 rfl dX9_playAt_98 ?_
              obtain ⟨r5, hr5, hf⟩ := bno_some hf
              refine X_cS (As := [.int r3]) (rest := []) (k_X6_row (d := 0) (Nat.le_refl _) hr5) LB_X6_row lk_X9_210 (by omega) dX9_playAt_100 rfl rfl (Nat.le_of_ble_eq_true rfl) (by decide) (by decide) [.int r5] rfl ?_
              cases hf
              exact X_iret rfl (by decide) (by decide) dX9_playAt_103 rfl rfl
            · replace hf := (if_neg c5).symm.trans hf
              by_cases c6 : x3 = 2
              · replace hf := (if_pos c6).symm.trans hf
                refine X_tabIn 104 dX9_playAt_58 (by rw [c6]; decide) (by rw [c6]; decide) (by rw [c6]; rfl) (by decide) ?_
                refine X_iload 5 rfl dX9_playAt_104 ?_
                obtain ⟨r6, hr6, hf⟩ := bno_some hf
                refine X_cS (As := [.int r3]) (rest := []) (k_X6_column (d := 0) (Nat.le_refl _) hr6) LB_X6_column lk_X9_213 (by omega) dX9_playAt_106 rfl rfl (Nat.le_of_ble_eq_true rfl) (by decide) (by decide) [.int r6] rfl ?_
                cases hf
                exact X_iret rfl (by decide) (by decide) dX9_playAt_109 rfl rfl
              · replace hf := (if_neg c6).symm.trans hf
                by_cases c7 : x3 = 3
                · replace hf := (if_pos c7).symm.trans hf
                  refine X_tabIn 110 dX9_playAt_58 (by rw [c7]; decide) (by rw [c7]; decide) (by rw [c7]; rfl) (by decide) ?_
                  refine X_iload 4 rfl dX9_playAt_110 ?_
                  obtain ⟨r7, hr7, hf⟩ := bno_some hf
                  refine X_cS (As := [.int r2]) (rest := []) (k_X6_wordOfPlay (d := 0) (Nat.le_refl _) hr7) LB_X6_wordOfPlay lk_X9_216 (by omega) dX9_playAt_112 rfl rfl (Nat.le_of_ble_eq_true rfl) (by decide) (by decide) [.int r7] rfl ?_
                  cases hf
                  exact X_iret rfl (by decide) (by decide) dX9_playAt_115 rfl rfl
                · replace hf := (if_neg c7).symm.trans hf
                  by_cases c8 : x3 = 4
                  · replace hf := (if_pos c8).symm.trans hf
                    refine X_tabIn 116 dX9_playAt_58 (by rw [c8]; decide) (by rw [c8]; decide) (by rw [c8]; rfl) (by decide) ?_
                    refine X_aload_n 0 rfl dX9_playAt_116 rfl ?_
                    refine X_get (k := 2) RC_X9 fl_X9_27 rfl (by decide) dX9_playAt_117 0 rfl rfl ?_
                    refine X_iload 4 rfl dX9_playAt_120 ?_
                    obtain ⟨r8, hr8, hf⟩ := bno_some hf
                    refine X_cV (As := [.int r2]) (rest := []) (k_X5_pointsOf (d := 4) (Nat.le_refl _) hr8) LB_X5_pointsOf lk_X9_219 (by omega) dX9_playAt_122 rfl rfl (Nat.le_of_ble_eq_true rfl) (by decide) (by decide) 11 rfl ⟨rfl, rfl⟩ [.int r8] rfl ?_
                    cases hf
                    exact X_iret rfl (by decide) (by decide) dX9_playAt_125 rfl rfl
                  · replace hf := (if_neg c8).symm.trans hf
                    refine X_tabOut 126 dX9_playAt_58 (sw_out5 c4 c5 c6 c7 c8) (by decide) ?_
                    refine X_aload_n 0 rfl dX9_playAt_126 rfl ?_
                    refine X_get (k := 2) RC_X9 fl_X9_27 rfl (by decide) dX9_playAt_127 0 rfl rfl ?_
                    refine X_iload_n 1 rfl dX9_playAt_130 rfl ?_
                    refine X_iload 4 rfl dX9_playAt_131 ?_
                    obtain ⟨r9, hr9, hf⟩ := bno_some hf
                    refine X_cV (As := [.int x1, .int r2]) (rest := []) (k_X5_equityOf (d := 5) (Nat.le_refl _) hr9) LB_X5_equityOf lk_X9_222 (by omega) dX9_playAt_133 rfl rfl (Nat.le_of_ble_eq_true rfl) (by decide) (by decide) 11 rfl ⟨rfl, rfl⟩ [.int r9] rfl ?_
                    cases hf
                    exact X_iret rfl (by decide) (by decide) dX9_playAt_136 rfl rfl
        · replace hf := (if_neg c3).symm.trans hf
          refine X_lv [] [] rfl ?_
          refine X_widen (ce1 := 4) (sl1 := 24) (by decide) (by decide) ?_
          exact v_X9_playAt_40 hd hf
    · replace hf := (if_pos c1).symm.trans hf
      cases hf
      exact X_throwS 2 12 rfl rfl xs_k2 xs_i2 (by decide) xs_a2 xs_g2 dX9_playAt_21 dX9_playAt_24 dX9_playAt_25 dX9_playAt_27 dX9_playAt_30 rfl (by omega) ⟨by decide, by decide⟩ (Nat.le_of_ble_eq_true rfl) rfl rfl
theorem k_X9_playAt {l : Launch} {G : Gv} {ad : Nat → Nat} {d : Nat} {σ : St} {q : ((Nat ⊕ Int32) × St)} {x1 : Int32} {x2 : Int32} {x3 : Int32} (hd : 9 ≤ d) (hf : f_X9_playAt σ x1 x2 x3 = some q) : XK l G yX9_playAt (.code yX9_playAt cX9_playAt 6 (some .int)) d 16 256 [.ref (ad 0), .int x1, .int x2, .int x3] (wC G ad σ) (oI q.1) (fun w => w = wC G ad q.2) := X_intro (by decide) (Nat.le_of_ble_eq_true rfl) (v_X9_playAt hd hf)
def f_X9_bestPlay (σ : St) (x1 : Int32) : Option ((Nat ⊕ Int32) × St) := bno (f_X9_requirePlayer x1) fun r1 => exq r1 (fun cx => some (.inl cx, σ)) (fun u => bno (f_X5_indexOfBest σ x1) fun r2 => some (.inr r2, σ))
set_option maxHeartbeats 4000000 in
set_option maxRecDepth 100000 in
theorem v_X9_bestPlay {l : Launch} {G : Gv} {ad : Nat → Nat} {d : Nat} {av0 : List Value} {w1 : va_W} {q : ((Nat ⊕ Int32) × St)} {σ : St} {x1 : Int32} (hd : 9 ≤ d) (hf : f_X9_bestPlay σ x1 = some q) : VX l G yX9_bestPlay cX9_bestPlay 2 (some .int) d 16 256 av0 w1 [] (oI q.1) (fun w => w = wC G ad q.2) 0 0 (wC G ad σ) 0 [(0, .ref (ad 0)), (1, .int x1)] [] := by
  unfold f_X9_bestPlay at hf
  refine X_iload_n 1 rfl dX9_bestPlay_0 rfl ?_
  obtain ⟨r1, hr1, hf⟩ := bno_some hf
  rcases r1 with cx | u
  · replace hf := exq_l hf
    cases hf
    exact X_cSt (As := [.int x1]) (rest := []) (k_X9_requirePlayer (d := 6) (Nat.le_refl _) hr1) LB_X9_requirePlayer lk_X9_130 (by omega) dX9_bestPlay_1 rfl rfl (Nat.le_of_ble_eq_true rfl) ⟨by decide, by decide⟩ rfl rfl rfl
  · replace hf := exq_r hf
    refine X_cSr (As := [.int x1]) (rest := []) (k_X9_requirePlayer (d := 6) (Nat.le_refl _) hr1) LB_X9_requirePlayer lk_X9_130 (by omega) dX9_bestPlay_1 rfl rfl (Nat.le_of_ble_eq_true rfl) ⟨by decide, by decide⟩ [] rfl ?_
    refine X_aload_n 0 rfl dX9_bestPlay_4 rfl ?_
    refine X_get (k := 2) RC_X9 fl_X9_27 rfl (by decide) dX9_bestPlay_5 0 rfl rfl ?_
    refine X_iload_n 1 rfl dX9_bestPlay_8 rfl ?_
    obtain ⟨r2, hr2, hf⟩ := bno_some hf
    refine X_cV (As := [.int x1]) (rest := []) (k_X5_indexOfBest (d := 6) (Nat.le_refl _) hr2) LB_X5_indexOfBest lk_X9_225 (by omega) dX9_bestPlay_9 rfl rfl (Nat.le_of_ble_eq_true rfl) (by decide) (by decide) 11 rfl ⟨rfl, rfl⟩ [.int r2] rfl ?_
    cases hf
    exact X_iret rfl (by decide) (by decide) dX9_bestPlay_12 rfl rfl
theorem k_X9_bestPlay {l : Launch} {G : Gv} {ad : Nat → Nat} {d : Nat} {σ : St} {q : ((Nat ⊕ Int32) × St)} {x1 : Int32} (hd : 9 ≤ d) (hf : f_X9_bestPlay σ x1 = some q) : XK l G yX9_bestPlay (.code yX9_bestPlay cX9_bestPlay 2 (some .int)) d 16 256 [.ref (ad 0), .int x1] (wC G ad σ) (oI q.1) (fun w => w = wC G ad q.2) := X_intro (by decide) (Nat.le_of_ble_eq_true rfl) (v_X9_bestPlay hd hf)
def f_X9_endgame (σ : St) (x1 : Int32) : Option ((Nat ⊕ Int32) × St) := bno (f_X9_requirePlayer x1) fun r1 => exq r1 (fun cx => some (.inl cx, σ)) (fun u => bno (f_X2_begin σ) fun r2 => bno (f_bd 44 r2 x1 (0) (0)) fun r3 => bno (f_X2_hasFailed r3.2) fun r4 => if (b2i r4) = 0 then (some (.inr r3.1, r3.2)) else (some (.inl 1, r3.2)))
set_option maxHeartbeats 4000000 in
set_option maxRecDepth 100000 in
theorem v_X9_endgame {l : Launch} {G : Gv} {ad : Nat → Nat} {d : Nat} {av0 : List Value} {w1 : va_W} {q : ((Nat ⊕ Int32) × St)} {σ : St} {x1 : Int32} (hd : 1060 ≤ d) (hf : f_X9_endgame σ x1 = some q) : VX l G yX9_endgame cX9_endgame 3 (some .int) d 16 256 av0 w1 [] (oI q.1) (fun w => w = wC G ad q.2) 0 0 (wC G ad σ) 0 [(0, .ref (ad 0)), (1, .int x1)] [] := by
  unfold f_X9_endgame at hf
  refine X_iload_n 1 rfl dX9_endgame_0 rfl ?_
  obtain ⟨r1, hr1, hf⟩ := bno_some hf
  rcases r1 with cx | u
  · replace hf := exq_l hf
    cases hf
    exact X_cSt (As := [.int x1]) (rest := []) (k_X9_requirePlayer (d := 6) (Nat.le_refl _) hr1) LB_X9_requirePlayer lk_X9_130 (by omega) dX9_endgame_1 rfl rfl (Nat.le_of_ble_eq_true rfl) ⟨by decide, by decide⟩ rfl rfl rfl
  · replace hf := exq_r hf
    refine X_cSr (As := [.int x1]) (rest := []) (k_X9_requirePlayer (d := 6) (Nat.le_refl _) hr1) LB_X9_requirePlayer lk_X9_130 (by omega) dX9_endgame_1 rfl rfl (Nat.le_of_ble_eq_true rfl) ⟨by decide, by decide⟩ [] rfl ?_
    refine X_aload_n 0 rfl dX9_endgame_4 rfl ?_
    refine X_get (k := 3) RC_X9 fl_X9_36 rfl (by decide) dX9_endgame_5 0 rfl rfl ?_
    obtain ⟨r2, hr2, hf⟩ := bno_some hf
    refine X_cV (As := []) (rest := []) (k_X2_begin (d := 0) (Nat.le_refl _) hr2) LB_X2_begin lk_X9_230 (by omega) dX9_endgame_8 rfl rfl (Nat.le_of_ble_eq_true rfl) (by decide) (by decide) 12 rfl ⟨rfl, rfl⟩ [] rfl ?_
    refine X_aload_n 0 rfl dX9_endgame_11 rfl ?_
    refine X_get (k := 3) RC_X9 fl_X9_36 rfl (by decide) dX9_endgame_12 0 rfl rfl ?_
    refine X_iload_n 1 rfl dX9_endgame_15 rfl ?_
    refine X_iconst 0 dX9_endgame_16 (by decide) ?_
    refine X_iconst 0 dX9_endgame_17 (by decide) ?_
    obtain ⟨r3, hr3, hf⟩ := bno_some hf
    refine X_cVN (As := [.int x1, .int (0), .int (0)]) (rest := []) (k_bd 44 _ _ _ _ _ hr3) LB_X2_bestDifference lk_X9_233 (by omega) dX9_endgame_18 rfl rfl (Nat.le_of_ble_eq_true rfl) (by decide) (by decide) 12 rfl ⟨rfl, rfl⟩ [.int r3.1] rfl ?_
    refine X_istore_n [(0, .ref (ad 0)), (1, .int x1), (2, .int r3.1)] [1, 2, 0] dX9_endgame_21 rfl (by decide) rfl ?_
    refine X_aload_n 0 rfl dX9_endgame_22 rfl ?_
    refine X_get (k := 3) RC_X9 fl_X9_36 rfl (by decide) dX9_endgame_23 0 rfl rfl ?_
    obtain ⟨r4, hr4, hf⟩ := bno_some hf
    refine X_cV (As := []) (rest := []) (k_X2_hasFailed (d := 0) (Nat.le_refl _) hr4) LB_X2_hasFailed lk_X9_236 (by omega) dX9_endgame_26 rfl rfl (Nat.le_of_ble_eq_true rfl) (by decide) (by decide) 12 rfl ⟨rfl, rfl⟩ [.int (b2i r4)] rfl ?_
    refine X_if_eq 42 dX9_endgame_29 (by decide) (fun c1 => ?_) (fun c1 => ?_)
    · replace hf := (if_pos c1).symm.trans hf
      refine X_iload_n 2 rfl dX9_endgame_42 rfl ?_
      cases hf
      exact X_iret rfl (by decide) (by decide) dX9_endgame_43 rfl rfl
    · replace hf := (if_neg c1).symm.trans hf
      cases hf
      exact X_throwS 1 15 rfl rfl xs_k1 xs_i1 (by decide) xs_a1 xs_g1 dX9_endgame_32 dX9_endgame_35 dX9_endgame_36 dX9_endgame_38 dX9_endgame_41 rfl (by omega) ⟨by decide, by decide⟩ (Nat.le_of_ble_eq_true rfl) rfl rfl
theorem k_X9_endgame {l : Launch} {G : Gv} {ad : Nat → Nat} {d : Nat} {σ : St} {q : ((Nat ⊕ Int32) × St)} {x1 : Int32} (hd : 1060 ≤ d) (hf : f_X9_endgame σ x1 = some q) : XK l G yX9_endgame (.code yX9_endgame cX9_endgame 3 (some .int)) d 16 256 [.ref (ad 0), .int x1] (wC G ad σ) (oI q.1) (fun w => w = wC G ad q.2) := X_intro (by decide) (Nat.le_of_ble_eq_true rfl) (v_X9_endgame hd hf)
