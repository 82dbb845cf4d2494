theorem kc_X6_18 : Cond.constantLong RX6 18 (72340172838076673) ∈ tblG := tin 290 (by decide +kernel) (by decide +kernel)
theorem LB_X8_letter : LB yX8_letter cX8_letter 2 (some .int) 2 := ⟨tin 196 (by decide +kernel) (by decide +kernel), tin 13 (by decide +kernel) (by decide +kernel), by decide, by decide, by decide, by decide +kernel⟩
theorem lk_X4_15 : Cond.methodLink RX4 15 yX8_letter ∈ tblG ∧ Cond.static yX8_letter ∈ tblG := ⟨tin 568 (by decide +kernel) (by decide +kernel), tin 195 (by decide +kernel) (by decide +kernel)⟩
theorem LB_X4_oneTile : LB yX4_oneTile cX4_oneTile 1 (some .int) 1 := ⟨tin 337 (by decide +kernel) (by decide +kernel), tin 18 (by decide +kernel) (by decide +kernel), by decide, by decide, by decide, by decide +kernel⟩
theorem lk_X4_19 : Cond.methodLink RX4 19 yX4_oneTile ∈ tblG ∧ Cond.static yX4_oneTile ∈ tblG := ⟨tin 335 (by decide +kernel) (by decide +kernel), tin 336 (by decide +kernel) (by decide +kernel)⟩
theorem LB_X8_length : LB yX8_length cX8_length 1 (some .int) 1 := ⟨tin 155 (by decide +kernel) (by decide +kernel), tin 13 (by decide +kernel) (by decide +kernel), by decide, by decide, by decide, by decide +kernel⟩
theorem lk_X4_9 : Cond.methodLink RX4 9 yX8_length ∈ tblG ∧ Cond.static yX8_length ∈ tblG := ⟨tin 567 (by decide +kernel) (by decide +kernel), tin 154 (by decide +kernel) (by decide +kernel)⟩
theorem LB_X6_row : LB yX6_row cX6_row 1 (some .int) 1 := ⟨tin 276 (by decide +kernel) (by decide +kernel), tin 17 (by decide +kernel) (by decide +kernel), by decide, by decide, by decide, by decide +kernel⟩
theorem lk_X6_11 : Cond.methodLink RX6 11 yX6_row ∈ tblG ∧ Cond.static yX6_row ∈ tblG := ⟨tin 274 (by decide +kernel) (by decide +kernel), tin 275 (by decide +kernel) (by decide +kernel)⟩
theorem LB_X6_column : LB yX6_column cX6_column 1 (some .int) 1 := ⟨tin 279 (by decide +kernel) (by decide +kernel), tin 17 (by decide +kernel) (by decide +kernel), by decide, by decide, by decide, by decide +kernel⟩
theorem lk_X6_15 : Cond.methodLink RX6 15 yX6_column ∈ tblG ∧ Cond.static yX6_column ∈ tblG := ⟨tin 277 (by decide +kernel) (by decide +kernel), tin 278 (by decide +kernel) (by decide +kernel)⟩
def f_X8_length (x0 : Int32) : Option Int32 := some (x0 &&& (7))
set_option maxHeartbeats 4000000 in
set_option maxRecDepth 100000 in
theorem v_X8_length {l : Launch} {G : Gv} {d : Nat} {av0 : List Value} {w1 : va_W} {w0 : va_W} {q : Int32} {x0 : Int32} (hd : 0 ≤ d) (hf : f_X8_length x0 = some q) : VV l G yX8_length cX8_length 1 (some .int) d 0 0 av0 w1 (pD (some (.int q)) w0) 0 0 w0 0 [(0, .int x0)] [] := by
  unfold f_X8_length at hf
  refine V_iload_n 0 rfl dX8_length_0 rfl ?_
  refine V_bipush 7 dX8_length_1 (by decide) ?_
  refine V_iand dX8_length_3 ?_
  cases hf
  exact V_iret rfl dX8_length_4 ⟨rfl, rfl⟩
theorem k_X8_length {l : Launch} {G : Gv} {d : Nat} {w0 : va_W} {q : Int32} {x0 : Int32} (hd : 0 ≤ d) (hf : f_X8_length x0 = some q) : K l G yX8_length cX8_length 1 (some .int) d 0 0 [.int x0] w0 (pD (some (.int q)) w0) := K_intro (by decide) (Nat.le_of_ble_eq_true rfl) (v_X8_length hd hf)
def f_X8_letter (x0 : Int32) (x1 : Int32) : Option Int32 := some ((iush x0 ((3) * ((7) - x1))) &&& (7))
set_option maxHeartbeats 4000000 in
set_option maxRecDepth 100000 in
theorem v_X8_letter {l : Launch} {G : Gv} {d : Nat} {av0 : List Value} {w1 : va_W} {w0 : va_W} {q : Int32} {x0 : Int32} {x1 : Int32} (hd : 0 ≤ d) (hf : f_X8_letter x0 x1 = some q) : VV l G yX8_letter cX8_letter 2 (some .int) d 0 0 av0 w1 (pD (some (.int q)) w0) 0 0 w0 0 [(0, .int x0), (1, .int x1)] [] := by
  unfold f_X8_letter at hf
  refine V_iload_n 0 rfl dX8_letter_0 rfl ?_
  refine V_iconst 3 dX8_letter_1 (by decide) ?_
  refine V_bipush 7 dX8_letter_2 (by decide) ?_
  refine V_iload_n 1 rfl dX8_letter_4 rfl ?_
  refine V_isub dX8_letter_5 ?_
  refine V_imul dX8_letter_6 ?_
  refine V_iushr dX8_letter_7 ?_
  refine V_bipush 7 dX8_letter_8 (by decide) ?_
  refine V_iand dX8_letter_10 ?_
  cases hf
  exact V_iret rfl dX8_letter_11 ⟨rfl, rfl⟩
theorem k_X8_letter {l : Launch} {G : Gv} {d : Nat} {w0 : va_W} {q : Int32} {x0 : Int32} {x1 : Int32} (hd : 0 ≤ d) (hf : f_X8_letter x0 x1 = some q) : K l G yX8_letter cX8_letter 2 (some .int) d 0 0 [.int x0, .int x1] w0 (pD (some (.int q)) w0) := K_intro (by decide) (Nat.le_of_ble_eq_true rfl) (v_X8_letter hd hf)
def f_X8_append (x0 : Int32) (x1 : Int32) : Option Int32 := if (x0 &&& (7)) < (7) then (some ((x0 + (1)) ||| (x1 <<< (((3) * ((7) - (x0 &&& (7)))) &&& 31)))) else (some x0)
set_option maxHeartbeats 4000000 in
set_option maxRecDepth 100000 in
theorem v_X8_append {l : Launch} {G : Gv} {d : Nat} {av0 : List Value} {w1 : va_W} {w0 : va_W} {q : Int32} {x0 : Int32} {x1 : Int32} (hd : 0 ≤ d) (hf : f_X8_append x0 x1 = some q) : VV l G yX8_append cX8_append 3 (some .int) d 0 0 av0 w1 (pD (some (.int q)) w0) 0 0 w0 0 [(0, .int x0), (1, .int x1)] [] := by
  unfold f_X8_append at hf
  refine V_iload_n 0 rfl dX8_append_0 rfl ?_
  refine V_bipush 7 dX8_append_1 (by decide) ?_
  refine V_iand dX8_append_3 ?_
  refine V_istore_n [(0, .int x0), (1, .int x1), (2, .int (x0 &&& (7)))] [1, 2, 0] dX8_append_4 rfl (by decide) rfl ?_
  refine V_iload_n 2 rfl dX8_append_5 rfl ?_
  refine V_bipush 7 dX8_append_6 (by decide) ?_
  refine V_icmp_lt 13 dX8_append_8 (by decide) (fun c1 => ?_) (fun c1 => ?_)
  · replace hf := (if_pos c1).symm.trans hf
    refine V_iload_n 0 rfl dX8_append_13 rfl ?_
    refine V_iconst 1 dX8_append_14 (by decide) ?_
    refine V_iadd dX8_append_15 ?_
    refine V_iload_n 1 rfl dX8_append_16 rfl ?_
    refine V_iconst 3 dX8_append_17 (by decide) ?_
    refine V_bipush 7 dX8_append_18 (by decide) ?_
    refine V_iload_n 2 rfl dX8_append_20 rfl ?_
    refine V_isub dX8_append_21 ?_
    refine V_imul dX8_append_22 ?_
    refine V_ishl dX8_append_23 ?_
    refine V_ior dX8_append_24 ?_
    cases hf
    exact V_iret rfl dX8_append_25 ⟨rfl, rfl⟩
  · replace hf := (if_neg c1).symm.trans hf
    refine V_iload_n 0 rfl dX8_append_11 rfl ?_
    cases hf
    exact V_iret rfl dX8_append_12 ⟨rfl, rfl⟩
theorem k_X8_append {l : Launch} {G : Gv} {d : Nat} {w0 : va_W} {q : Int32} {x0 : Int32} {x1 : Int32} (hd : 0 ≤ d) (hf : f_X8_append x0 x1 = some q) : K l G yX8_append cX8_append 3 (some .int) d 0 0 [.int x0, .int x1] w0 (pD (some (.int q)) w0) := K_intro (by decide) (Nat.le_of_ble_eq_true rfl) (v_X8_append hd hf)
def f_X4_count (x0 : Int32) (x1 : Int32) : Option Int32 := some ((iush x0 ((4) * x1)) &&& (15))
set_option maxHeartbeats 4000000 in
set_option maxRecDepth 100000 in
theorem v_X4_count {l : Launch} {G : Gv} {d : Nat} {av0 : List Value} {w1 : va_W} {w0 : va_W} {q : Int32} {x0 : Int32} {x1 : Int32} (hd : 0 ≤ d) (hf : f_X4_count x0 x1 = some q) : VV l G yX4_count cX4_count 2 (some .int) d 0 0 av0 w1 (pD (some (.int q)) w0) 0 0 w0 0 [(0, .int x0), (1, .int x1)] [] := by
  unfold f_X4_count at hf
  refine V_iload_n 0 rfl dX4_count_0 rfl ?_
  refine V_iconst 4 dX4_count_1 (by decide) ?_
  refine V_iload_n 1 rfl dX4_count_2 rfl ?_
  refine V_imul dX4_count_3 ?_
  refine V_iushr dX4_count_4 ?_
  refine V_bipush 15 dX4_count_5 (by decide) ?_
  refine V_iand dX4_count_7 ?_
  cases hf
  exact V_iret rfl dX4_count_8 ⟨rfl, rfl⟩
theorem k_X4_count {l : Launch} {G : Gv} {d : Nat} {w0 : va_W} {q : Int32} {x0 : Int32} {x1 : Int32} (hd : 0 ≤ d) (hf : f_X4_count x0 x1 = some q) : K l G yX4_count cX4_count 2 (some .int) d 0 0 [.int x0, .int x1] w0 (pD (some (.int q)) w0) := K_intro (by decide) (Nat.le_of_ble_eq_true rfl) (v_X4_count hd hf)
def f_X4_oneTile (x0 : Int32) : Option Int32 := some ((1) <<< (((4) * x0) &&& 31))
set_option maxHeartbeats 4000000 in
set_option maxRecDepth 100000 in
theorem v_X4_oneTile {l : Launch} {G : Gv} {d : Nat} {av0 : List Value} {w1 : va_W} {w0 : va_W} {q : Int32} {x0 : Int32} (hd : 0 ≤ d) (hf : f_X4_oneTile x0 = some q) : VV l G yX4_oneTile cX4_oneTile 1 (some .int) d 0 0 av0 w1 (pD (some (.int q)) w0) 0 0 w0 0 [(0, .int x0)] [] := by
  unfold f_X4_oneTile at hf
  refine V_iconst 1 dX4_oneTile_0 (by decide) ?_
  refine V_iconst 4 dX4_oneTile_1 (by decide) ?_
  refine V_iload_n 0 rfl dX4_oneTile_2 rfl ?_
  refine V_imul dX4_oneTile_3 ?_
  refine V_ishl dX4_oneTile_4 ?_
  cases hf
  exact V_iret rfl dX4_oneTile_5 ⟨rfl, rfl⟩
theorem k_X4_oneTile {l : Launch} {G : Gv} {d : Nat} {w0 : va_W} {q : Int32} {x0 : Int32} (hd : 0 ≤ d) (hf : f_X4_oneTile x0 = some q) : K l G yX4_oneTile cX4_oneTile 1 (some .int) d 0 0 [.int x0] w0 (pD (some (.int q)) w0) := K_intro (by decide) (Nat.le_of_ble_eq_true rfl) (v_X4_oneTile hd hf)
def f_X4_without (x0 : Int32) (x1 : Int32) : Option Int32 := bno (f_X4_oneTile x1) fun r1 => some (x0 - r1)
set_option maxHeartbeats 4000000 in
set_option maxRecDepth 100000 in
theorem v_X4_without {l : Launch} {G : Gv} {d : Nat} {av0 : List Value} {w1 : va_W} {w0 : va_W} {q : Int32} {x0 : Int32} {x1 : Int32} (hd : 1 ≤ d) (hf : f_X4_without x0 x1 = some q) : VV l G yX4_without cX4_without 2 (some .int) d 0 0 av0 w1 (pD (some (.int q)) w0) 0 0 w0 0 [(0, .int x0), (1, .int x1)] [] := by
  unfold f_X4_without at hf
  refine V_iload_n 0 rfl dX4_without_0 rfl ?_
  refine V_iload_n 1 rfl dX4_without_1 rfl ?_
  obtain ⟨r1, hr1, hf⟩ := bno_some hf
  refine V_cS (As := [.int x1]) (rest := [.int x0]) (k_X4_oneTile (d := 0) (Nat.le_refl _) hr1) LB_X4_oneTile lk_X4_19 (by omega) dX4_without_2 rfl rfl (Nat.le_of_ble_eq_true rfl) (Nat.le_refl _) (Nat.le_refl _) [.int r1, .int x0] rfl ?_
  refine V_isub dX4_without_5 ?_
  cases hf
  exact V_iret rfl dX4_without_6 ⟨rfl, rfl⟩
theorem k_X4_without {l : Launch} {G : Gv} {d : Nat} {w0 : va_W} {q : Int32} {x0 : Int32} {x1 : Int32} (hd : 1 ≤ d) (hf : f_X4_without x0 x1 = some q) : K l G yX4_without cX4_without 2 (some .int) d 0 0 [.int x0, .int x1] w0 (pD (some (.int q)) w0) := K_intro (by decide) (Nat.le_of_ble_eq_true rfl) (v_X4_without hd hf)
def f_X4_of_9 : Nat → Int32 → Int32 → Int32 → Int32 → Option Int32
  | 0, _, _, _, _ => none
  | n + 1, x0, x1, x2, x3 => if x2 ≤ x3 then (some x1) else (bno (f_X8_letter x0 x3) fun r1 => bno (f_X4_oneTile r1) fun r2 => f_X4_of_9 n x0 (x1 + r2) x2 (x3 + 1))
set_option maxHeartbeats 4000000 in
set_option maxRecDepth 100000 in
theorem v_X4_of_9 {l : Launch} {G : Gv} {d : Nat} {av0 : List Value} {w1 : va_W} {w0 : va_W} {q : Int32} (hd : 1 ≤ d) : ∀ (n : Nat) (x0 : Int32) (x1 : Int32) (x2 : Int32) (x3 : Int32), f_X4_of_9 n x0 x1 x2 x3 = some q → VV l G yX4_of cX4_of 4 (some .int) d 0 0 av0 w1 (pD (some (.int q)) w0) 0 0 w0 9 [(0, .int x0), (1, .int x1), (2, .int x2), (3, .int x3)] [] := by
  intro n
  induction n with
  | zero =>
    intro x0 x1 x2 x3 hf
    cases hf
  | succ n ih =>
    intro x0 x1 x2 x3 hf
    rw [f_X4_of_9] at hf
    refine V_iload_n 3 rfl dX4_of_9 rfl ?_
    refine V_iload_n 2 rfl dX4_of_10 rfl ?_
    refine V_icmp_ge 31 dX4_of_11 (by decide) (fun c1 => ?_) (fun c1 => ?_)
    · replace hf := (if_pos c1).symm.trans hf
      refine V_iload_n 1 rfl dX4_of_31 rfl ?_
      cases hf
      exact V_iret rfl dX4_of_32 ⟨rfl, rfl⟩
    · replace hf := (if_neg c1).symm.trans hf
      refine V_iload_n 1 rfl dX4_of_14 rfl ?_
      refine V_iload_n 0 rfl dX4_of_15 rfl ?_
      refine V_iload_n 3 rfl dX4_of_16 rfl ?_
      obtain ⟨r1, hr1, hf⟩ := bno_some hf
      refine V_cS (As := [.int x0, .int x3]) (rest := [.int x1]) (k_X8_letter (d := 0) (Nat.le_refl _) hr1) LB_X8_letter lk_X4_15 (by omega) dX4_of_17 rfl rfl (Nat.le_of_ble_eq_true rfl) (Nat.le_refl _) (Nat.le_refl _) [.int r1, .int x1] rfl ?_
      obtain ⟨r2, hr2, hf⟩ := bno_some hf
      refine V_cS (As := [.int r1]) (rest := [.int x1]) (k_X4_oneTile (d := 0) (Nat.le_refl _) hr2) LB_X4_oneTile lk_X4_19 (by omega) dX4_of_20 rfl rfl (Nat.le_of_ble_eq_true rfl) (Nat.le_refl _) (Nat.le_refl _) [.int r2, .int x1] rfl ?_
      refine V_iadd dX4_of_23 ?_
      refine V_istore_n [(0, .int x0), (1, .int (x1 + r2)), (2, .int x2), (3, .int x3)] [1, 0, 2, 3] dX4_of_24 rfl (by decide) rfl ?_
      refine V_iinc (1) 3 [(0, .int x0), (1, .int (x1 + r2)), (2, .int x2), (3, .int (x3 + 1))] [1, 2, 3, 0] dX4_of_25 rfl (by decide) (by decide) rfl ?_
      refine V_goto 9 dX4_of_28 (by decide) ?_
      exact ih _ _ _ _ hf
def f_X4_of (x0 : Int32) : Option Int32 := bno (f_X8_length x0) fun r1 => f_X4_of_9 FU x0 (0) r1 (0)
set_option maxHeartbeats 4000000 in
set_option maxRecDepth 100000 in
theorem v_X4_of {l : Launch} {G : Gv} {d : Nat} {av0 : List Value} {w1 : va_W} {w0 : va_W} {q : Int32} {x0 : Int32} (hd : 1 ≤ d) (hf : f_X4_of x0 = some q) : VV l G yX4_of cX4_of 4 (some .int) d 0 0 av0 w1 (pD (some (.int q)) w0) 0 0 w0 0 [(0, .int x0)] [] := by
  unfold f_X4_of at hf
  refine V_iconst 0 dX4_of_0 (by decide) ?_
  refine V_istore_n [(0, .int x0), (1, .int (0))] [1, 0] dX4_of_1 rfl (by decide) rfl ?_
  refine V_iload_n 0 rfl dX4_of_2 rfl ?_
  obtain ⟨r1, hr1, hf⟩ := bno_some hf
  refine V_cS (As := [.int x0]) (rest := []) (k_X8_length (d := 0) (Nat.le_refl _) hr1) LB_X8_length lk_X4_9 (by omega) dX4_of_3 rfl rfl (Nat.le_of_ble_eq_true rfl) (Nat.le_refl _) (Nat.le_refl _) [.int r1] rfl ?_
  refine V_istore_n [(0, .int x0), (1, .int (0)), (2, .int r1)] [1, 2, 0] dX4_of_6 rfl (by decide) rfl ?_
  refine V_iconst 0 dX4_of_7 (by decide) ?_
  refine V_istore_n [(0, .int x0), (1, .int (0)), (2, .int r1), (3, .int (0))] [1, 2, 3, 0] dX4_of_8 rfl (by decide) rfl ?_
  exact v_X4_of_9 hd _ _ _ _ _ hf
theorem k_X4_of {l : Launch} {G : Gv} {d : Nat} {w0 : va_W} {q : Int32} {x0 : Int32} (hd : 1 ≤ d) (hf : f_X4_of x0 = some q) : K l G yX4_of cX4_of 4 (some .int) d 0 0 [.int x0] w0 (pD (some (.int q)) w0) := K_intro (by decide) (Nat.le_of_ble_eq_true rfl) (v_X4_of hd hf)
def f_X6_squareOf (x0 : Int32) (x1 : Int32) : Option Int32 := some ((x0 * (8)) + x1)
set_option maxHeartbeats 4000000 in
set_option maxRecDepth 100000 in
theorem v_X6_squareOf {l : Launch} {G : Gv} {d : Nat} {av0 : List Value} {w1 : va_W} {w0 : va_W} {q : Int32} {x0 : Int32} {x1 : Int32} (hd : 0 ≤ d) (hf : f_X6_squareOf x0 x1 = some q) : VV l G yX6_squareOf cX6_squareOf 2 (some .int) d 0 0 av0 w1 (pD (some (.int q)) w0) 0 0 w0 0 [(0, .int x0), (1, .int x1)] [] := by
  unfold f_X6_squareOf at hf
  refine V_iload_n 0 rfl dX6_squareOf_0 rfl ?_
  refine V_bipush 8 dX6_squareOf_1 (by decide) ?_
  refine V_imul dX6_squareOf_3 ?_
  refine V_iload_n 1 rfl dX6_squareOf_4 rfl ?_
  refine V_iadd dX6_squareOf_5 ?_
  cases hf
  exact V_iret rfl dX6_squareOf_6 ⟨rfl, rfl⟩
theorem k_X6_squareOf {l : Launch} {G : Gv} {d : Nat} {w0 : va_W} {q : Int32} {x0 : Int32} {x1 : Int32} (hd : 0 ≤ d) (hf : f_X6_squareOf x0 x1 = some q) : K l G yX6_squareOf cX6_squareOf 2 (some .int) d 0 0 [.int x0, .int x1] w0 (pD (some (.int q)) w0) := K_intro (by decide) (Nat.le_of_ble_eq_true rfl) (v_X6_squareOf hd hf)
def f_X6_of (x0 : Int32) (x1 : Int32) (x2 : Int32) : Option Int32 := some (((x0 * (64)) + (x1 * (8))) + x2)
set_option maxHeartbeats 4000000 in
set_option maxRecDepth 100000 in
theorem v_X6_of {l : Launch} {G : Gv} {d : Nat} {av0 : List Value} {w1 : va_W} {w0 : va_W} {q : Int32} {x0 : Int32} {x1 : Int32} {x2 : Int32} (hd : 0 ≤ d) (hf : f_X6_of x0 x1 x2 = some q) : VV l G yX6_of cX6_of 3 (some .int) d 0 0 av0 w1 (pD (some (.int q)) w0) 0 0 w0 0 [(0, .int x0), (1, .int x1), (2, .int x2)] [] := by
  unfold f_X6_of at hf
  refine V_iload_n 0 rfl dX6_of_0 rfl ?_
  refine V_bipush 64 dX6_of_1 (by decide) ?_
  refine V_imul dX6_of_3 ?_
  refine V_iload_n 1 rfl dX6_of_4 rfl ?_
  refine V_bipush 8 dX6_of_5 (by decide) ?_
  refine V_imul dX6_of_7 ?_
  refine V_iadd dX6_of_8 ?_
  refine V_iload_n 2 rfl dX6_of_9 rfl ?_
  refine V_iadd dX6_of_10 ?_
  cases hf
  exact V_iret rfl dX6_of_11 ⟨rfl, rfl⟩
theorem k_X6_of {l : Launch} {G : Gv} {d : Nat} {w0 : va_W} {q : Int32} {x0 : Int32} {x1 : Int32} {x2 : Int32} (hd : 0 ≤ d) (hf : f_X6_of x0 x1 x2 = some q) : K l G yX6_of cX6_of 3 (some .int) d 0 0 [.int x0, .int x1, .int x2] w0 (pD (some (.int q)) w0) := K_intro (by decide) (Nat.le_of_ble_eq_true rfl) (v_X6_of hd hf)
def f_X6_withWord (x0 : Int32) (x1 : Int32) : Option Int32 := some ((x0 * (32)) + x1)
set_option maxHeartbeats 4000000 in
set_option maxRecDepth 100000 in
theorem v_X6_withWord {l : Launch} {G : Gv} {d : Nat} {av0 : List Value} {w1 : va_W} {w0 : va_W} {q : Int32} {x0 : Int32} {x1 : Int32} (hd : 0 ≤ d) (hf : f_X6_withWord x0 x1 = some q) : VV l G yX6_withWord cX6_withWord 2 (some .int) d 0 0 av0 w1 (pD (some (.int q)) w0) 0 0 w0 0 [(0, .int x0), (1, .int x1)] [] := by
  unfold f_X6_withWord at hf
  refine V_iload_n 0 rfl dX6_withWord_0 rfl ?_
  refine V_bipush 32 dX6_withWord_1 (by decide) ?_
  refine V_imul dX6_withWord_3 ?_
  refine V_iload_n 1 rfl dX6_withWord_4 rfl ?_
  refine V_iadd dX6_withWord_5 ?_
  cases hf
  exact V_iret rfl dX6_withWord_6 ⟨rfl, rfl⟩
theorem k_X6_withWord {l : Launch} {G : Gv} {d : Nat} {w0 : va_W} {q : Int32} {x0 : Int32} {x1 : Int32} (hd : 0 ≤ d) (hf : f_X6_withWord x0 x1 = some q) : K l G yX6_withWord cX6_withWord 2 (some .int) d 0 0 [.int x0, .int x1] w0 (pD (some (.int q)) w0) := K_intro (by decide) (Nat.le_of_ble_eq_true rfl) (v_X6_withWord hd hf)
def f_X6_ofPlay (x0 : Int32) : Option Int32 := some (x0 >>> ((5) &&& 31))
set_option maxHeartbeats 4000000 in
set_option maxRecDepth 100000 in
theorem v_X6_ofPlay {l : Launch} {G : Gv} {d : Nat} {av0 : List Value} {w1 : va_W} {w0 : va_W} {q : Int32} {x0 : Int32} (hd : 0 ≤ d) (hf : f_X6_ofPlay x0 = some q) : VV l G yX6_ofPlay cX6_ofPlay 1 (some .int) d 0 0 av0 w1 (pD (some (.int q)) w0) 0 0 w0 0 [(0, .int x0)] [] := by
  unfold f_X6_ofPlay at hf
  refine V_iload_n 0 rfl dX6_ofPlay_0 rfl ?_
  refine V_iconst 5 dX6_ofPlay_1 (by decide) ?_
  refine V_ishr dX6_ofPlay_2 ?_
  cases hf
  exact V_iret rfl dX6_ofPlay_3 ⟨rfl, rfl⟩
theorem k_X6_ofPlay {l : Launch} {G : Gv} {d : Nat} {w0 : va_W} {q : Int32} {x0 : Int32} (hd : 0 ≤ d) (hf : f_X6_ofPlay x0 = some q) : K l G yX6_ofPlay cX6_ofPlay 1 (some .int) d 0 0 [.int x0] w0 (pD (some (.int q)) w0) := K_intro (by decide) (Nat.le_of_ble_eq_true rfl) (v_X6_ofPlay hd hf)
def f_X6_wordOfPlay (x0 : Int32) : Option Int32 := some (x0 &&& (31))
set_option maxHeartbeats 4000000 in
set_option maxRecDepth 100000 in
theorem v_X6_wordOfPlay {l : Launch} {G : Gv} {d : Nat} {av0 : List Value} {w1 : va_W} {w0 : va_W} {q : Int32} {x0 : Int32} (hd : 0 ≤ d) (hf : f_X6_wordOfPlay x0 = some q) : VV l G yX6_wordOfPlay cX6_wordOfPlay 1 (some .int) d 0 0 av0 w1 (pD (some (.int q)) w0) 0 0 w0 0 [(0, .int x0)] [] := by
  unfold f_X6_wordOfPlay at hf
  refine V_iload_n 0 rfl dX6_wordOfPlay_0 rfl ?_
  refine V_bipush 31 dX6_wordOfPlay_1 (by decide) ?_
  refine V_iand dX6_wordOfPlay_3 ?_
  cases hf
  exact V_iret rfl dX6_wordOfPlay_4 ⟨rfl, rfl⟩
theorem k_X6_wordOfPlay {l : Launch} {G : Gv} {d : Nat} {w0 : va_W} {q : Int32} {x0 : Int32} (hd : 0 ≤ d) (hf : f_X6_wordOfPlay x0 = some q) : K l G yX6_wordOfPlay cX6_wordOfPlay 1 (some .int) d 0 0 [.int x0] w0 (pD (some (.int q)) w0) := K_intro (by decide) (Nat.le_of_ble_eq_true rfl) (v_X6_wordOfPlay hd hf)
def f_X6_direction (x0 : Int32) : Option Int32 := some (x0 >>> ((6) &&& 31))
set_option maxHeartbeats 4000000 in
set_option maxRecDepth 100000 in
theorem v_X6_direction {l : Launch} {G : Gv} {d : Nat} {av0 : List Value} {w1 : va_W} {w0 : va_W} {q : Int32} {x0 : Int32} (hd : 0 ≤ d) (hf : f_X6_direction x0 = some q) : VV l G yX6_direction cX6_direction 1 (some .int) d 0 0 av0 w1 (pD (some (.int q)) w0) 0 0 w0 0 [(0, .int x0)] [] := by
  unfold f_X6_direction at hf
  refine V_iload_n 0 rfl dX6_direction_0 rfl ?_
  refine V_bipush 6 dX6_direction_1 (by decide) ?_
  refine V_ishr dX6_direction_3 ?_
  cases hf
  exact V_iret rfl dX6_direction_4 ⟨rfl, rfl⟩
theorem k_X6_direction {l : Launch} {G : Gv} {d : Nat} {w0 : va_W} {q : Int32} {x0 : Int32} (hd : 0 ≤ d) (hf : f_X6_direction x0 = some q) : K l G yX6_direction cX6_direction 1 (some .int) d 0 0 [.int x0] w0 (pD (some (.int q)) w0) := K_intro (by decide) (Nat.le_of_ble_eq_true rfl) (v_X6_direction hd hf)
def f_X6_square (x0 : Int32) : Option Int32 := some (x0 &&& (63))
set_option maxHeartbeats 4000000 in
set_option maxRecDepth 100000 in
theorem v_X6_square {l : Launch} {G : Gv} {d : Nat} {av0 : List Value} {w1 : va_W} {w0 : va_W} {q : Int32} {x0 : Int32} (hd : 0 ≤ d) (hf : f_X6_square x0 = some q) : VV l G yX6_square cX6_square 1 (some .int) d 0 0 av0 w1 (pD (some (.int q)) w0) 0 0 w0 0 [(0, .int x0)] [] := by
  unfold f_X6_square at hf
  refine V_iload_n 0 rfl dX6_square_0 rfl ?_
  refine V_bipush 63 dX6_square_1 (by decide) ?_
  refine V_iand dX6_square_3 ?_
  cases hf
  exact V_iret rfl dX6_square_4 ⟨rfl, rfl⟩
theorem k_X6_square {l : Launch} {G : Gv} {d : Nat} {w0 : va_W} {q : Int32} {x0 : Int32} (hd : 0 ≤ d) (hf : f_X6_square x0 = some q) : K l G yX6_square cX6_square 1 (some .int) d 0 0 [.int x0] w0 (pD (some (.int q)) w0) := K_intro (by decide) (Nat.le_of_ble_eq_true rfl) (v_X6_square hd hf)
def f_X6_row (x0 : Int32) : Option Int32 := some ((x0 >>> ((3) &&& 31)) &&& (7))
set_option maxHeartbeats 4000000 in
set_option maxRecDepth 100000 in
theorem v_X6_row {l : Launch} {G : Gv} {d : Nat} {av0 : List Value} {w1 : va_W} {w0 : va_W} {q : Int32} {x0 : Int32} (hd : 0 ≤ d) (hf : f_X6_row x0 = some q) : VV l G yX6_row cX6_row 1 (some .int) d 0 0 av0 w1 (pD (some (.int q)) w0) 0 0 w0 0 [(0, .int x0)] [] := by
  unfold f_X6_row at hf
  refine V_iload_n 0 rfl dX6_row_0 rfl ?_
  refine V_iconst 3 dX6_row_1 (by decide) ?_
  refine V_ishr dX6_row_2 ?_
  refine V_bipush 7 dX6_row_3 (by decide) ?_
  refine V_iand dX6_row_5 ?_
  cases hf
  exact V_iret rfl dX6_row_6 ⟨rfl, rfl⟩
theorem k_X6_row {l : Launch} {G : Gv} {d : Nat} {w0 : va_W} {q : Int32} {x0 : Int32} (hd : 0 ≤ d) (hf : f_X6_row x0 = some q) : K l G yX6_row cX6_row 1 (some .int) d 0 0 [.int x0] w0 (pD (some (.int q)) w0) := K_intro (by decide) (Nat.le_of_ble_eq_true rfl) (v_X6_row hd hf)
def f_X6_column (x0 : Int32) : Option Int32 := some (x0 &&& (7))
set_option maxHeartbeats 4000000 in
set_option maxRecDepth 100000 in
theorem v_X6_column {l : Launch} {G : Gv} {d : Nat} {av0 : List Value} {w1 : va_W} {w0 : va_W} {q : Int32} {x0 : Int32} (hd : 0 ≤ d) (hf : f_X6_column x0 = some q) : VV l G yX6_column cX6_column 1 (some .int) d 0 0 av0 w1 (pD (some (.int q)) w0) 0 0 w0 0 [(0, .int x0)] [] := by
  unfold f_X6_column at hf
  refine V_iload_n 0 rfl dX6_column_0 rfl ?_
  refine V_bipush 7 dX6_column_1 (by decide) ?_
  refine V_iand dX6_column_3 ?_
  cases hf
  exact V_iret rfl dX6_column_4 ⟨rfl, rfl⟩
theorem k_X6_column {l : Launch} {G : Gv} {d : Nat} {w0 : va_W} {q : Int32} {x0 : Int32} (hd : 0 ≤ d) (hf : f_X6_column x0 = some q) : K l G yX6_column cX6_column 1 (some .int) d 0 0 [.int x0] w0 (pD (some (.int q)) w0) := K_intro (by decide) (Nat.le_of_ble_eq_true rfl) (v_X6_column hd hf)
def f_X6_step (x0 : Int32) : Option Int32 := if (64) ≤ x0 then (some (8)) else (some (1))
set_option maxHeartbeats 4000000 in
set_option maxRecDepth 100000 in
theorem v_X6_step {l : Launch} {G : Gv} {d : Nat} {av0 : List Value} {w1 : va_W} {w0 : va_W} {q : Int32} {x0 : Int32} (hd : 0 ≤ d) (hf : f_X6_step x0 = some q) : VV l G yX6_step cX6_step 1 (some .int) d 0 0 av0 w1 (pD (some (.int q)) w0) 0 0 w0 0 [(0, .int x0)] [] := by
  unfold f_X6_step at hf
  refine V_iload_n 0 rfl dX6_step_0 rfl ?_
  refine V_bipush 64 dX6_step_1 (by decide) ?_
  refine V_icmp_ge 10 dX6_step_3 (by decide) (fun c1 => ?_) (fun c1 => ?_)
  · replace hf := (if_pos c1).symm.trans hf
    refine V_bipush 8 dX6_step_10 (by decide) ?_
    cases hf
    exact V_iret rfl dX6_step_12 ⟨rfl, rfl⟩
  · replace hf := (if_neg c1).symm.trans hf
    refine V_iconst 1 dX6_step_6 (by decide) ?_
    refine V_goto 12 dX6_step_7 (by decide) ?_
    cases hf
    exact V_iret rfl dX6_step_12 ⟨rfl, rfl⟩
theorem k_X6_step {l : Launch} {G : Gv} {d : Nat} {w0 : va_W} {q : Int32} {x0 : Int32} (hd : 0 ≤ d) (hf : f_X6_step x0 = some q) : K l G yX6_step cX6_step 1 (some .int) d 0 0 [.int x0] w0 (pD (some (.int q)) w0) := K_intro (by decide) (Nat.le_of_ble_eq_true rfl) (v_X6_step hd hf)
def f_X6_crossStep (x0 : Int32) : Option Int32 := if (64) ≤ x0 then (some (1)) else (some (8))
set_option maxHeartbeats 4000000 in
set_option maxRecDepth 100000 in
theorem v_X6_crossStep {l : Launch} {G : Gv} {d : Nat} {av0 : List Value} {w1 : va_W} {w0 : va_W} {q : Int32} {x0 : Int32} (hd : 0 ≤ d) (hf : f_X6_crossStep x0 = some q) : VV l G yX6_crossStep cX6_crossStep 1 (some .int) d 0 0 av0 w1 (pD (some (.int q)) w0) 0 0 w0 0 [(0, .int x0)] [] := by
  unfold f_X6_crossStep at hf
  refine V_iload_n 0 rfl dX6_crossStep_0 rfl ?_
  refine V_bipush 64 dX6_crossStep_1 (by decide) ?_
  refine V_icmp_ge 11 dX6_crossStep_3 (by decide) (fun c1 => ?_) (fun c1 => ?_)
  · replace hf := (if_pos c1).symm.trans hf
    refine V_iconst 1 dX6_crossStep_11 (by decide) ?_
    cases hf
    exact V_iret rfl dX6_crossStep_12 ⟨rfl, rfl⟩
  · replace hf := (if_neg c1).symm.trans hf
    refine V_bipush 8 dX6_crossStep_6 (by decide) ?_
    refine V_goto 12 dX6_crossStep_8 (by decide) ?_
    cases hf
    exact V_iret rfl dX6_crossStep_12 ⟨rfl, rfl⟩
theorem k_X6_crossStep {l : Launch} {G : Gv} {d : Nat} {w0 : va_W} {q : Int32} {x0 : Int32} (hd : 0 ≤ d) (hf : f_X6_crossStep x0 = some q) : K l G yX6_crossStep cX6_crossStep 1 (some .int) d 0 0 [.int x0] w0 (pD (some (.int q)) w0) := K_intro (by decide) (Nat.le_of_ble_eq_true rfl) (v_X6_crossStep hd hf)
def f_X6_isOnBoard (x0 : Int32) : Option Bool := bno (f_X6_row x0) fun r1 => if (7) ≤ r1 then (some false) else (bno (f_X6_column x0) fun r2 => if (7) ≤ r2 then (some false) else (some true))
set_option maxHeartbeats 4000000 in
set_option maxRecDepth 100000 in
theorem v_X6_isOnBoard {l : Launch} {G : Gv} {d : Nat} {av0 : List Value} {w1 : va_W} {w0 : va_W} {q : Bool} {x0 : Int32} (hd : 1 ≤ d) (hf : f_X6_isOnBoard x0 = some q) : VV l G yX6_isOnBoard cX6_isOnBoard 1 (some .boolean) d 0 0 av0 w1 (pD (some (.int (b2i q))) w0) 0 0 w0 0 [(0, .int x0)] [] := by
  unfold f_X6_isOnBoard at hf
  refine V_iload_n 0 rfl dX6_isOnBoard_0 rfl ?_
  obtain ⟨r1, hr1, hf⟩ := bno_some hf
  refine V_cS (As := [.int x0]) (rest := []) (k_X6_row (d := 0) (Nat.le_refl _) hr1) LB_X6_row lk_X6_11 (by omega) dX6_isOnBoard_1 rfl rfl (Nat.le_of_ble_eq_true rfl) (Nat.le_refl _) (Nat.le_refl _) [.int r1] rfl ?_
  refine V_bipush 7 dX6_isOnBoard_4 (by decide) ?_
  refine V_icmp_ge 22 dX6_isOnBoard_6 (by decide) (fun c1 => ?_) (fun c1 => ?_)
  · replace hf := (if_pos c1).symm.trans hf
    refine V_iconst 0 dX6_isOnBoard_22 (by decide) ?_
    cases hf
    exact V_zret (ty := .boolean) rfl rfl dX6_isOnBoard_23 ⟨rfl, rfl⟩
  · replace hf := (if_neg c1).symm.trans hf
    refine V_iload_n 0 rfl dX6_isOnBoard_9 rfl ?_
    obtain ⟨r2, hr2, hf⟩ := bno_some hf
    refine V_cS (As := [.int x0]) (rest := []) (k_X6_column (d := 0) (Nat.le_refl _) hr2) LB_X6_column lk_X6_15 (by omega) dX6_isOnBoard_10 rfl rfl (Nat.le_of_ble_eq_true rfl) (Nat.le_refl _) (Nat.le_refl _) [.int r2] rfl ?_
    refine V_bipush 7 dX6_isOnBoard_13 (by decide) ?_
    refine V_icmp_ge 22 dX6_isOnBoard_15 (by decide) (fun c2 => ?_) (fun c2 => ?_)
    · replace hf := (if_pos c2).symm.trans hf
      refine V_iconst 0 dX6_isOnBoard_22 (by decide) ?_
      cases hf
      exact V_zret (ty := .boolean) rfl rfl dX6_isOnBoard_23 ⟨rfl, rfl⟩
    · replace hf := (if_neg c2).symm.trans hf
      refine V_iconst 1 dX6_isOnBoard_18 (by decide) ?_
      refine V_goto 23 dX6_isOnBoard_19 (by decide) ?_
      cases hf
      exact V_zret (ty := .boolean) rfl rfl dX6_isOnBoard_23 ⟨rfl, rfl⟩
theorem k_X6_isOnBoard {l : Launch} {G : Gv} {d : Nat} {w0 : va_W} {q : Bool} {x0 : Int32} (hd : 1 ≤ d) (hf : f_X6_isOnBoard x0 = some q) : K l G yX6_isOnBoard cX6_isOnBoard 1 (some .boolean) d 0 0 [.int x0] w0 (pD (some (.int (b2i q))) w0) := K_intro (by decide) (Nat.le_of_ble_eq_true rfl) (v_X6_isOnBoard hd hf)
def f_X6_room (x0 : Int32) : Option Int32 := if (64) ≤ x0 then (bno (f_X6_row x0) fun r1 => some ((7) - r1)) else (bno (f_X6_column x0) fun r2 => some ((7) - r2))
set_option maxHeartbeats 4000000 in
set_option maxRecDepth 100000 in
theorem v_X6_room {l : Launch} {G : Gv} {d : Nat} {av0 : List Value} {w1 : va_W} {w0 : va_W} {q : Int32} {x0 : Int32} (hd : 1 ≤ d) (hf : f_X6_room x0 = some q) : VV l G yX6_room cX6_room 1 (some .int) d 0 0 av0 w1 (pD (some (.int q)) w0) 0 0 w0 0 [(0, .int x0)] [] := by
  unfold f_X6_room at hf
  refine V_bipush 7 dX6_room_0 (by decide) ?_
  refine V_iload_n 0 rfl dX6_room_2 rfl ?_
  refine V_bipush 64 dX6_room_3 (by decide) ?_
  refine V_icmp_ge 15 dX6_room_5 (by decide) (fun c1 => ?_) (fun c1 => ?_)
  · replace hf := (if_pos c1).symm.trans hf
    refine V_iload_n 0 rfl dX6_room_15 rfl ?_
    obtain ⟨r1, hr1, hf⟩ := bno_some hf
    refine V_cS (As := [.int x0]) (rest := [.int (7)]) (k_X6_row (d := 0) (Nat.le_refl _) hr1) LB_X6_row lk_X6_11 (by omega) dX6_room_16 rfl rfl (Nat.le_of_ble_eq_true rfl) (Nat.le_refl _) (Nat.le_refl _) [.int r1, .int (7)] rfl ?_
    refine V_isub dX6_room_19 ?_
    cases hf
    exact V_iret rfl dX6_room_20 ⟨rfl, rfl⟩
  · replace hf := (if_neg c1).symm.trans hf
    refine V_iload_n 0 rfl dX6_room_8 rfl ?_
    obtain ⟨r2, hr2, hf⟩ := bno_some hf
    refine V_cS (As := [.int x0]) (rest := [.int (7)]) (k_X6_column (d := 0) (Nat.le_refl _) hr2) LB_X6_column lk_X6_15 (by omega) dX6_room_9 rfl rfl (Nat.le_of_ble_eq_true rfl) (Nat.le_refl _) (Nat.le_refl _) [.int r2, .int (7)] rfl ?_
    refine V_goto 19 dX6_room_12 (by decide) ?_
    refine V_isub dX6_room_19 ?_
    cases hf
    exact V_iret rfl dX6_room_20 ⟨rfl, rfl⟩
theorem k_X6_room {l : Launch} {G : Gv} {d : Nat} {w0 : va_W} {q : Int32} {x0 : Int32} (hd : 1 ≤ d) (hf : f_X6_room x0 = some q) : K l G yX6_room cX6_room 1 (some .int) d 0 0 [.int x0] w0 (pD (some (.int q)) w0) := K_intro (by decide) (Nat.le_of_ble_eq_true rfl) (v_X6_room hd hf)
def f_X6_squares_26 (x0 : Int32) (s0 : Int64) : Option Int64 := some (lshl s0 (x0 &&& (63)))
set_option maxHeartbeats 4000000 in
set_option maxRecDepth 100000 in
theorem v_X6_squares_26 {l : Launch} {G : Gv} {d : Nat} {av0 : List Value} {w1 : va_W} {w0 : va_W} {q : Int64} {x0 : Int32} {s0 : Int64} (hd : 0 ≤ d) (hf : f_X6_squares_26 x0 s0 = some q) : VV l G yX6_squares cX6_squares 4 (some .long) d 0 0 av0 w1 (pD (some (.long q)) w0) 0 0 w0 26 [(0, .int x0)] [.long s0] := by
  unfold f_X6_squares_26 at hf
  refine V_lstore_n [(0, .int x0), (2, .long s0)] [1, 0] dX6_squares_26 rfl (by decide) rfl ?_
  refine V_lload_n 1 rfl dX6_squares_27 rfl ?_
  refine V_iload_n 0 rfl dX6_squares_28 rfl ?_
  refine V_bipush 63 dX6_squares_29 (by decide) ?_
  refine V_iand dX6_squares_31 ?_
  refine V_lshl dX6_squares_32 ?_
  cases hf
  exact V_lret rfl dX6_squares_33 ⟨rfl, rfl⟩
def f_X6_squares (x0 : Int32) (x1 : Int32) : Option Int64 := if (64) ≤ x0 then (f_X6_squares_26 x0 ((72340172838076673) &&& ((lshl (1) ((8) * x1)) - (1)))) else (f_X6_squares_26 x0 ((lshl (1) x1) - (1)))
set_option maxHeartbeats 4000000 in
set_option maxRecDepth 100000 in
theorem v_X6_squares {l : Launch} {G : Gv} {d : Nat} {av0 : List Value} {w1 : va_W} {w0 : va_W} {q : Int64} {x0 : Int32} {x1 : Int32} (hd : 0 ≤ d) (hf : f_X6_squares x0 x1 = some q) : VV l G yX6_squares cX6_squares 4 (some .long) d 0 0 av0 w1 (pD (some (.long q)) w0) 0 0 w0 0 [(0, .int x0), (1, .int x1)] [] := by
  unfold f_X6_squares at hf
  refine V_iload_n 0 rfl dX6_squares_0 rfl ?_
  refine V_bipush 64 dX6_squares_1 (by decide) ?_
  refine V_icmp_ge 14 dX6_squares_3 (by decide) (fun c1 => ?_) (fun c1 => ?_)
  · replace hf := (if_pos c1).symm.trans hf
    refine V_ldc2 (72340172838076673) kc_X6_18 dX6_squares_14 ?_
    refine V_lconst 1 dX6_squares_17 (by decide) ?_
    refine V_bipush 8 dX6_squares_18 (by decide) ?_
    refine V_iload_n 1 rfl dX6_squares_20 rfl ?_
    refine V_imul dX6_squares_21 ?_
    refine V_lshl dX6_squares_22 ?_
    refine V_lconst 1 dX6_squares_23 (by decide) ?_
    refine V_lsub dX6_squares_24 ?_
    refine V_land dX6_squares_25 ?_
    refine V_lv [(0, .int x0)] [0] rfl ?_
    exact v_X6_squares_26 hd hf
  · replace hf := (if_neg c1).symm.trans hf
    refine V_lconst 1 dX6_squares_6 (by decide) ?_
    refine V_iload_n 1 rfl dX6_squares_7 rfl ?_
    refine V_lshl dX6_squares_8 ?_
    refine V_lconst 1 dX6_squares_9 (by decide) ?_
    refine V_lsub dX6_squares_10 ?_
    refine V_goto 26 dX6_squares_11 (by decide) ?_
    refine V_lv [(0, .int x0)] [0] rfl ?_
    exact v_X6_squares_26 hd hf
theorem k_X6_squares {l : Launch} {G : Gv} {d : Nat} {w0 : va_W} {q : Int64} {x0 : Int32} {x1 : Int32} (hd : 0 ≤ d) (hf : f_X6_squares x0 x1 = some q) : K l G yX6_squares cX6_squares 4 (some .long) d 0 0 [.int x0, .int x1] w0 (pD (some (.long q)) w0) := K_intro (by decide) (Nat.le_of_ble_eq_true rfl) (v_X6_squares hd hf)
