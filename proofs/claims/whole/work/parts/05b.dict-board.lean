theorem kc_X0_32 : Cond.constantLong RX0 32 (-1) ∈ tblG := tin 178 (by decide +kernel) (by decide +kernel)
theorem kc_X0_34 : Cond.constantLong RX0 34 (134217728) ∈ tblG := tin 172 (by decide +kernel) (by decide +kernel)
theorem kc_X0_36 : Cond.constantLong RX0 36 (35887507618889599) ∈ tblG := tin 173 (by decide +kernel) (by decide +kernel)
theorem fl_X0_11 : Cond.fieldLink RX0 11 RX0 "letters" "[I" ∈ tblG := tin 55 (by decide +kernel) (by decide +kernel)
theorem fl_X0_17 : Cond.fieldLink RX0 17 RX0 "premiums" "[I" ∈ tblG := tin 56 (by decide +kernel) (by decide +kernel)
theorem fl_X0_20 : Cond.fieldLink RX0 20 RX0 "occupied" "J" ∈ tblG := tin 57 (by decide +kernel) (by decide +kernel)
theorem fl_X1_11 : Cond.fieldLink RX1 11 RX1 "words" "[I" ∈ tblG := tin 41 (by decide +kernel) (by decide +kernel)
theorem fl_X1_15 : Cond.fieldLink RX1 15 RX1 "count" "I" ∈ tblG := tin 42 (by decide +kernel) (by decide +kernel)
theorem LB_X0_hasTile : LB yX0_hasTile cX0_hasTile 2 (some .boolean) 1 := ⟨tin 230 (by decide +kernel) (by decide +kernel), tin 4 (by decide +kernel) (by decide +kernel), by decide, by decide, by decide, by decide +kernel⟩
theorem lk_X0_24 : Cond.methodLink RX0 24 yX0_hasTile ∈ tblG ∧ Cond.instanceMethod yX0_hasTile ∈ tblG ∧ Cond.selects yX0_hasTile.cls yX0_hasTile yX0_hasTile ∈ tblG := ⟨tin 227 (by decide +kernel) (by decide +kernel), tin 228 (by decide +kernel) (by decide +kernel), tin 229 (by decide +kernel) (by decide +kernel)⟩
theorem LB_X0_takeAway : LB yX0_takeAway cX0_takeAway 3 none 1 := ⟨tin 587 (by decide +kernel) (by decide +kernel), tin 4 (by decide +kernel) (by decide +kernel), by decide, by decide, by decide, by decide +kernel⟩
theorem lk_X0_28 : Cond.methodLink RX0 28 yX0_takeAway ∈ tblG ∧ Cond.instanceMethod yX0_takeAway ∈ tblG ∧ Cond.selects yX0_takeAway.cls yX0_takeAway yX0_takeAway ∈ tblG := ⟨tin 584 (by decide +kernel) (by decide +kernel), tin 585 (by decide +kernel) (by decide +kernel), tin 586 (by decide +kernel) (by decide +kernel)⟩
theorem LB_X0_emptyOf : LB yX0_emptyOf cX0_emptyOf 3 (some .long) 1 := ⟨tin 177 (by decide +kernel) (by decide +kernel), tin 4 (by decide +kernel) (by decide +kernel), by decide, by decide, by decide, by decide +kernel⟩
theorem lk_X0_38 : Cond.methodLink RX0 38 yX0_emptyOf ∈ tblG ∧ Cond.instanceMethod yX0_emptyOf ∈ tblG ∧ Cond.selects yX0_emptyOf.cls yX0_emptyOf yX0_emptyOf ∈ tblG := ⟨tin 174 (by decide +kernel) (by decide +kernel), tin 175 (by decide +kernel) (by decide +kernel), tin 176 (by decide +kernel) (by decide +kernel)⟩
theorem LB_X0_letter : LB yX0_letter cX0_letter 2 (some .int) 1 := ⟨tin 226 (by decide +kernel) (by decide +kernel), tin 4 (by decide +kernel) (by decide +kernel), by decide, by decide, by decide, by decide +kernel⟩
theorem lk_X0_44 : Cond.methodLink RX0 44 yX0_letter ∈ tblG ∧ Cond.instanceMethod yX0_letter ∈ tblG ∧ Cond.selects yX0_letter.cls yX0_letter yX0_letter ∈ tblG := ⟨tin 346 (by decide +kernel) (by decide +kernel), tin 224 (by decide +kernel) (by decide +kernel), tin 225 (by decide +kernel) (by decide +kernel)⟩
theorem LB_X8_append : LB yX8_append cX8_append 3 (some .int) 2 := ⟨tin 349 (by decide +kernel) (by decide +kernel), tin 13 (by decide +kernel) (by decide +kernel), by decide, by decide, by decide, by decide +kernel⟩
theorem lk_X0_48 : Cond.methodLink RX0 48 yX8_append ∈ tblG ∧ Cond.static yX8_append ∈ tblG := ⟨tin 347 (by decide +kernel) (by decide +kernel), tin 348 (by decide +kernel) (by decide +kernel)⟩
theorem LB_X1_isFull : LB yX1_isFull cX1_isFull 1 (some .boolean) 0 := ⟨tin 472 (by decide +kernel) (by decide +kernel), tin 3 (by decide +kernel) (by decide +kernel), by decide, by decide, by decide, by decide +kernel⟩
theorem lk_X1_21 : Cond.methodLink RX1 21 yX1_isFull ∈ tblG ∧ Cond.instanceMethod yX1_isFull ∈ tblG ∧ Cond.selects yX1_isFull.cls yX1_isFull yX1_isFull ∈ tblG := ⟨tin 504 (by decide +kernel) (by decide +kernel), tin 470 (by decide +kernel) (by decide +kernel), tin 471 (by decide +kernel) (by decide +kernel)⟩
theorem LB_X1_numberOf : LB yX1_numberOf cX1_numberOf 3 (some .int) 1 := ⟨tin 163 (by decide +kernel) (by decide +kernel), tin 3 (by decide +kernel) (by decide +kernel), by decide, by decide, by decide, by decide +kernel⟩
theorem lk_X1_25 : Cond.methodLink RX1 25 yX1_numberOf ∈ tblG ∧ Cond.instanceMethod yX1_numberOf ∈ tblG ∧ Cond.selects yX1_numberOf.cls yX1_numberOf yX1_numberOf ∈ tblG := ⟨tin 505 (by decide +kernel) (by decide +kernel), tin 161 (by decide +kernel) (by decide +kernel), tin 162 (by decide +kernel) (by decide +kernel)⟩
def f_X1_size (σ : St) : Option Int32 := some (gi σ 1)
set_option maxHeartbeats 4000000 in
set_option maxRecDepth 100000 in
theorem v_X1_size {l : Launch} {G : Gv} {ad : Nat → Nat} {d : Nat} {av0 : List Value} {w1 : va_W} {q : Int32} {σ : St} (hd : 0 ≤ d) (hf : f_X1_size σ = some q) : VV l G yX1_size cX1_size 1 (some .int) d 0 0 av0 w1 (pD (some (.int q)) (wC G ad σ)) 0 0 (wC G ad σ) 0 [(0, .ref (ad 2))] [] := by
  unfold f_X1_size at hf
  refine V_aload_n 0 rfl dX1_size_0 rfl ?_
  refine V_get (k := 1) RC_X1 fl_X1_15 rfl (by decide) dX1_size_1 2 rfl rfl ?_
  cases hf
  exact V_iret rfl dX1_size_4 ⟨rfl, rfl⟩
theorem k_X1_size {l : Launch} {G : Gv} {ad : Nat → Nat} {d : Nat} {σ : St} {q : Int32} (hd : 0 ≤ d) (hf : f_X1_size σ = some q) : K l G yX1_size cX1_size 1 (some .int) d 0 0 [.ref (ad 2)] (wC G ad σ) (pD (some (.int q)) (wC G ad σ)) := K_intro (by decide) (Nat.le_of_ble_eq_true rfl) (v_X1_size hd hf)
def f_X1_isFull (σ : St) : Option Bool := if (gi σ 1) < (30) then (some false) else (some true)
set_option maxHeartbeats 4000000 in
set_option maxRecDepth 100000 in
theorem v_X1_isFull {l : Launch} {G : Gv} {ad : Nat → Nat} {d : Nat} {av0 : List Value} {w1 : va_W} {q : Bool} {σ : St} (hd : 0 ≤ d) (hf : f_X1_isFull σ = some q) : VV l G yX1_isFull cX1_isFull 1 (some .boolean) d 0 0 av0 w1 (pD (some (.int (b2i q))) (wC G ad σ)) 0 0 (wC G ad σ) 0 [(0, .ref (ad 2))] [] := by
  unfold f_X1_isFull at hf
  refine V_aload_n 0 rfl dX1_isFull_0 rfl ?_
  refine V_get (k := 1) RC_X1 fl_X1_15 rfl (by decide) dX1_isFull_1 2 rfl rfl ?_
  refine V_bipush 30 dX1_isFull_4 (by decide) ?_
  refine V_icmp_lt 13 dX1_isFull_6 (by decide) (fun c1 => ?_) (fun c1 => ?_)
  · replace hf := (if_pos c1).symm.trans hf
    refine V_iconst 0 dX1_isFull_13 (by decide) ?_
    cases hf
    exact V_zret (ty := .boolean) rfl rfl dX1_isFull_14 ⟨rfl, rfl⟩
  · replace hf := (if_neg c1).symm.trans hf
    refine V_iconst 1 dX1_isFull_9 (by decide) ?_
    refine V_goto 14 dX1_isFull_10 (by decide) ?_
    cases hf
    exact V_zret (ty := .boolean) rfl rfl dX1_isFull_14 ⟨rfl, rfl⟩
theorem k_X1_isFull {l : Launch} {G : Gv} {ad : Nat → Nat} {d : Nat} {σ : St} {q : Bool} (hd : 0 ≤ d) (hf : f_X1_isFull σ = some q) : K l G yX1_isFull cX1_isFull 1 (some .boolean) d 0 0 [.ref (ad 2)] (wC G ad σ) (pD (some (.int (b2i q))) (wC G ad σ)) := K_intro (by decide) (Nat.le_of_ble_eq_true rfl) (v_X1_isFull hd hf)
def f_X1_word (σ : St) (x1 : Int32) : Option Int32 := if x1 < 0 then (some (0)) else (if (gi σ 1) ≤ x1 then (some (0)) else (ixo x1 30 (some (ga σ 0 (Int32.toNatClampNeg x1)))))
set_option maxHeartbeats 4000000 in
set_option maxRecDepth 100000 in
theorem v_X1_word {l : Launch} {G : Gv} {ad : Nat → Nat} {d : Nat} {av0 : List Value} {w1 : va_W} {q : Int32} {σ : St} {x1 : Int32} (hd : 0 ≤ d) (hf : f_X1_word σ x1 = some q) : VV l G yX1_word cX1_word 2 (some .int) d 0 0 av0 w1 (pD (some (.int q)) (wC G ad σ)) 0 0 (wC G ad σ) 0 [(0, .ref (ad 2)), (1, .int x1)] [] := by
  unfold f_X1_word at hf
  refine V_iload_n 1 rfl dX1_word_0 rfl ?_
  refine V_if_lt 21 dX1_word_1 (by decide) (fun c1 => ?_) (fun c1 => ?_)
  · replace hf := (if_pos c1).symm.trans hf
    refine V_iconst 0 dX1_word_21 (by decide) ?_
    cases hf
    exact V_iret rfl dX1_word_22 ⟨rfl, rfl⟩
  · replace hf := (if_neg c1).symm.trans hf
    refine V_iload_n 1 rfl dX1_word_4 rfl ?_
    refine V_aload_n 0 rfl dX1_word_5 rfl ?_
    refine V_get (k := 1) RC_X1 fl_X1_15 rfl (by decide) dX1_word_6 2 rfl rfl ?_
    refine V_icmp_ge 21 dX1_word_9 (by decide) (fun c2 => ?_) (fun c2 => ?_)
    · replace hf := (if_pos c2).symm.trans hf
      refine V_iconst 0 dX1_word_21 (by decide) ?_
      cases hf
      exact V_iret rfl dX1_word_22 ⟨rfl, rfl⟩
    · replace hf := (if_neg c2).symm.trans hf
      refine V_aload_n 0 rfl dX1_word_12 rfl ?_
      refine V_get (k := 0) RC_X1 fl_X1_11 rfl (by decide) dX1_word_13 2 rfl rfl ?_
      refine V_iload_n 1 rfl dX1_word_16 rfl ?_
      obtain ⟨hi, hf⟩ := ixo_some hf
      refine V_iaload dX1_word_17 3 rfl hi ?_
      refine V_goto 22 dX1_word_18 (by decide) ?_
      cases hf
      exact V_iret rfl dX1_word_22 ⟨rfl, rfl⟩
theorem k_X1_word {l : Launch} {G : Gv} {ad : Nat → Nat} {d : Nat} {σ : St} {q : Int32} {x1 : Int32} (hd : 0 ≤ d) (hf : f_X1_word σ x1 = some q) : K l G yX1_word cX1_word 2 (some .int) d 0 0 [.ref (ad 2), .int x1] (wC G ad σ) (pD (some (.int q)) (wC G ad σ)) := K_intro (by decide) (Nat.le_of_ble_eq_true rfl) (v_X1_word hd hf)
def f_X1_numberOf_2 (σ : St) : Nat → Int32 → Int32 → Option Int32
  | 0, _, _ => none
  | n + 1, x1, x2 => if (gi σ 1) ≤ x2 then (some (-1)) else (ixo x2 30 (if (ga σ 0 (Int32.toNatClampNeg x2)) = x1 then (some x2) else (f_X1_numberOf_2 σ n x1 (x2 + 1))))
set_option maxHeartbeats 4000000 in
set_option maxRecDepth 100000 in
theorem v_X1_numberOf_2 {l : Launch} {G : Gv} {ad : Nat → Nat} {d : Nat} {av0 : List Value} {w1 : va_W} {q : Int32} {σ : St} (hd : 0 ≤ d) : ∀ (n : Nat) (x1 : Int32) (x2 : Int32), f_X1_numberOf_2 σ n x1 x2 = some q → VV l G yX1_numberOf cX1_numberOf 3 (some .int) d 0 0 av0 w1 (pD (some (.int q)) (wC G ad σ)) 0 0 (wC G ad σ) 2 [(0, .ref (ad 2)), (1, .int x1), (2, .int x2)] [] := by
  intro n
  induction n with
  | zero =>
    intro x1 x2 hf
    cases hf
  | succ n ih =>
    intro x1 x2 hf
    rw [f_X1_numberOf_2] at hf
    refine V_iload_n 2 rfl dX1_numberOf_2 rfl ?_
    refine V_aload_n 0 rfl dX1_numberOf_3 rfl ?_
    refine V_get (k := 1) RC_X1 fl_X1_15 rfl (by decide) dX1_numberOf_4 2 rfl rfl ?_
    refine V_icmp_ge 28 dX1_numberOf_7 (by decide) (fun c1 => ?_) (fun c1 => ?_)
    · replace hf := (if_pos c1).symm.trans hf
      refine V_iconst (-1) dX1_numberOf_28 (by decide) ?_
      cases hf
      exact V_iret rfl dX1_numberOf_29 ⟨rfl, rfl⟩
    · replace hf := (if_neg c1).symm.trans hf
      refine V_aload_n 0 rfl dX1_numberOf_10 rfl ?_
      refine V_get (k := 0) RC_X1 fl_X1_11 rfl (by decide) dX1_numberOf_11 2 rfl rfl ?_
      refine V_iload_n 2 rfl dX1_numberOf_14 rfl ?_
      obtain ⟨hi, hf⟩ := ixo_some hf
      refine V_iaload dX1_numberOf_15 3 rfl hi ?_
      refine V_iload_n 1 rfl dX1_numberOf_16 rfl ?_
      refine V_icmp_ne 22 dX1_numberOf_17 (by decide) (fun c2 => ?_) (fun c2 => ?_)
      · replace hf := (if_neg c2).symm.trans hf
        refine V_iinc (1) 2 [(0, .ref (ad 2)), (1, .int x1), (2, .int (x2 + 1))] [1, 2, 0] dX1_numberOf_22 rfl (by decide) (by decide) rfl ?_
        refine V_goto 2 dX1_numberOf_25 (by decide) ?_
        exact ih _ _ hf
      · replace hf := (if_pos c2).symm.trans hf
        refine V_iload_n 2 rfl dX1_numberOf_20 rfl ?_
        cases hf
        exact V_iret rfl dX1_numberOf_21 ⟨rfl, rfl⟩
def f_X1_numberOf (σ : St) (x1 : Int32) : Option Int32 := f_X1_numberOf_2 σ FU x1 (0)
set_option maxHeartbeats 4000000 in
set_option maxRecDepth 100000 in
theorem v_X1_numberOf {l : Launch} {G : Gv} {ad : Nat → Nat} {d : Nat} {av0 : List Value} {w1 : va_W} {q : Int32} {σ : St} {x1 : Int32} (hd : 0 ≤ d) (hf : f_X1_numberOf σ x1 = some q) : VV l G yX1_numberOf cX1_numberOf 3 (some .int) d 0 0 av0 w1 (pD (some (.int q)) (wC G ad σ)) 0 0 (wC G ad σ) 0 [(0, .ref (ad 2)), (1, .int x1)] [] := by
  unfold f_X1_numberOf at hf
  refine V_iconst 0 dX1_numberOf_0 (by decide) ?_
  refine V_istore_n [(0, .ref (ad 2)), (1, .int x1), (2, .int (0))] [1, 2, 0] dX1_numberOf_1 rfl (by decide) rfl ?_
  exact v_X1_numberOf_2 hd _ _ _ hf
theorem k_X1_numberOf {l : Launch} {G : Gv} {ad : Nat → Nat} {d : Nat} {σ : St} {q : Int32} {x1 : Int32} (hd : 0 ≤ d) (hf : f_X1_numberOf σ x1 = some q) : K l G yX1_numberOf cX1_numberOf 3 (some .int) d 0 0 [.ref (ad 2), .int x1] (wC G ad σ) (pD (some (.int q)) (wC G ad σ)) := K_intro (by decide) (Nat.le_of_ble_eq_true rfl) (v_X1_numberOf hd hf)
def f_X1_add_58 (σ : St) (x1 : Int32) (x2 : Int32) : Option St := ixo x2 30 (lt (sa σ 0 (upd (ga σ 0) (Int32.toNatClampNeg x2) x1)) fun σ1 => lt (si σ1 1 ((gi σ1 1) + (1))) fun σ2 => some σ2)
set_option maxHeartbeats 4000000 in
set_option maxRecDepth 100000 in
theorem v_X1_add_58 {l : Launch} {G : Gv} {ad : Nat → Nat} {d : Nat} {av0 : List Value} {w1 : va_W} {q : St} {σ : St} {x1 : Int32} {x2 : Int32} (hd : 1 ≤ d) (hf : f_X1_add_58 σ x1 x2 = some q) : VV l G yX1_add cX1_add 3 none d 0 0 av0 w1 (pD none (wC G ad q)) 0 0 (wC G ad σ) 58 [(0, .ref (ad 2)), (1, .int x1), (2, .int x2)] [] := by
  unfold f_X1_add_58 at hf
  refine V_aload_n 0 rfl dX1_add_58 rfl ?_
  refine V_get (k := 0) RC_X1 fl_X1_11 rfl (by decide) dX1_add_59 2 rfl rfl ?_
  refine V_iload_n 2 rfl dX1_add_62 rfl ?_
  refine V_iload_n 1 rfl dX1_add_63 rfl ?_
  obtain ⟨hi, hf⟩ := ixo_some hf
  obtain ⟨σ1, eσ1, hf⟩ := lt_some hf
  refine V_iastore dX1_add_64 3 rfl hi (wC G ad σ1) (by rw [eσ1]; rfl) ?_
  refine V_aload_n 0 rfl dX1_add_65 rfl ?_
  refine V_dup rfl dX1_add_66 ?_
  refine V_get (k := 1) RC_X1 fl_X1_15 rfl (by decide) dX1_add_67 2 rfl rfl ?_
  refine V_iconst 1 dX1_add_70 (by decide) ?_
  refine V_iadd dX1_add_71 ?_
  obtain ⟨σ2, eσ2, hf⟩ := lt_some hf
  refine V_put (k := 1) RC_X1 fl_X1_15 rfl (by decide) rfl dX1_add_72 2 rfl (Nat.le_of_ble_eq_true rfl) rfl rfl (wC G ad σ2) (by rw [eσ2]; rfl) ?_
  cases hf
  exact V_vret rfl dX1_add_75 ⟨rfl, rfl⟩
def f_X1_add_22 : Nat → St → Int32 → Int32 → Option St
  | 0, _, _, _ => none
  | n + 1, σ, x1, x2 => if x2 ≤ 0 then (f_X1_add_58 σ x1 x2) else (ixo (x2 - (1)) 30 (if (ga σ 0 (Int32.toNatClampNeg (x2 - (1)))) ≤ x1 then (f_X1_add_58 σ x1 x2) else (ixo (x2 - (1)) 30 (ixo x2 30 (lt (sa σ 0 (upd (ga σ 0) (Int32.toNatClampNeg x2) (ga σ 0 (Int32.toNatClampNeg (x2 - (1)))))) fun σ1 => f_X1_add_22 n σ1 x1 (x2 + (-1)))))))
set_option maxHeartbeats 4000000 in
set_option maxRecDepth 100000 in
theorem v_X1_add_22 {l : Launch} {G : Gv} {ad : Nat → Nat} {d : Nat} {av0 : List Value} {w1 : va_W} {q : St} (hd : 1 ≤ d) : ∀ (n : Nat) (σ : St) (x1 : Int32) (x2 : Int32), f_X1_add_22 n σ x1 x2 = some q → VV l G yX1_add cX1_add 3 none d 0 0 av0 w1 (pD none (wC G ad q)) 0 0 (wC G ad σ) 22 [(0, .ref (ad 2)), (1, .int x1), (2, .int x2)] [] := by
  intro n
  induction n with
  | zero =>
    intro σ x1 x2 hf
    cases hf
  | succ n ih =>
    intro σ x1 x2 hf
    rw [f_X1_add_22] at hf
    refine V_iload_n 2 rfl dX1_add_22 rfl ?_
    refine V_if_le 58 dX1_add_23 (by decide) (fun c1 => ?_) (fun c1 => ?_)
    · replace hf := (if_pos c1).symm.trans hf
      exact v_X1_add_58 hd hf
    · replace hf := (if_neg c1).symm.trans hf
      refine V_aload_n 0 rfl dX1_add_26 rfl ?_
      refine V_get (k := 0) RC_X1 fl_X1_11 rfl (by decide) dX1_add_27 2 rfl rfl ?_
      refine V_iload_n 2 rfl dX1_add_30 rfl ?_
      refine V_iconst 1 dX1_add_31 (by decide) ?_
      refine V_isub dX1_add_32 ?_
      obtain ⟨hi, hf⟩ := ixo_some hf
      refine V_iaload dX1_add_33 3 rfl hi ?_
      refine V_iload_n 1 rfl dX1_add_34 rfl ?_
      refine V_icmp_le 58 dX1_add_35 (by decide) (fun c2 => ?_) (fun c2 => ?_)
      · replace hf := (if_pos c2).symm.trans hf
        exact v_X1_add_58 hd hf
      · replace hf := (if_neg c2).symm.trans hf
        refine V_aload_n 0 rfl dX1_add_38 rfl ?_
        refine V_get (k := 0) RC_X1 fl_X1_11 rfl (by decide) dX1_add_39 2 rfl rfl ?_
        refine V_iload_n 2 rfl dX1_add_42 rfl ?_
        refine V_aload_n 0 rfl dX1_add_43 rfl ?_
        refine V_get (k := 0) RC_X1 fl_X1_11 rfl (by decide) dX1_add_44 2 rfl rfl ?_
        refine V_iload_n 2 rfl dX1_add_47 rfl ?_
        refine V_iconst 1 dX1_add_48 (by decide) ?_
        refine V_isub dX1_add_49 ?_
        obtain ⟨hi, hf⟩ := ixo_some hf
        refine V_iaload dX1_add_50 3 rfl hi ?_
        obtain ⟨hi, hf⟩ := ixo_some hf
        obtain ⟨σ1, eσ1, hf⟩ := lt_some hf
        refine V_iastore dX1_add_51 3 rfl hi (wC G ad σ1) (by rw [eσ1]; rfl) ?_
        refine V_iinc (-1) 2 [(0, .ref (ad 2)), (1, .int x1), (2, .int (x2 + (-1)))] [1, 2, 0] dX1_add_52 rfl (by decide) (by decide) rfl ?_
        refine V_goto 22 dX1_add_55 (by decide) ?_
        exact ih _ _ _ hf
def f_X1_add (σ : St) (x1 : Int32) : Option St := bno (f_X1_isFull σ) fun r1 => if (b2i r1) = 0 then (bno (f_X1_numberOf σ x1) fun r2 => if r2 = (-1) then (f_X1_add_22 FU σ x1 (gi σ 1)) else (some σ)) else (some σ)
set_option maxHeartbeats 4000000 in
set_option maxRecDepth 100000 in
theorem v_X1_add {l : Launch} {G : Gv} {ad : Nat → Nat} {d : Nat} {av0 : List Value} {w1 : va_W} {q : St} {σ : St} {x1 : Int32} (hd : 1 ≤ d) (hf : f_X1_add σ x1 = some q) : VV l G yX1_add cX1_add 3 none d 0 0 av0 w1 (pD none (wC G ad q)) 0 0 (wC G ad σ) 0 [(0, .ref (ad 2)), (1, .int x1)] [] := by
  unfold f_X1_add at hf
  refine V_aload_n 0 rfl dX1_add_0 rfl ?_
  obtain ⟨r1, hr1, hf⟩ := bno_some hf
  refine V_cV (As := []) (rest := []) (k_X1_isFull (d := 0) (Nat.le_refl _) hr1) LB_X1_isFull lk_X1_21 (by omega) dX1_add_1 rfl rfl (Nat.le_of_ble_eq_true rfl) (Nat.le_refl _) (Nat.le_refl _) 2 rfl ⟨rfl, rfl⟩ [.int (b2i r1)] rfl ?_
  refine V_if_ne 16 dX1_add_4 (by decide) (fun c1 => ?_) (fun c1 => ?_)
  · replace hf := (if_neg c1).symm.trans hf
    cases hf
    exact V_vret rfl dX1_add_16 ⟨rfl, rfl⟩
  · replace hf := (if_pos c1).symm.trans hf
    refine V_aload_n 0 rfl dX1_add_7 rfl ?_
    refine V_iload_n 1 rfl dX1_add_8 rfl ?_
    obtain ⟨r2, hr2, hf⟩ := bno_some hf
    refine V_cV (As := [.int x1]) (rest := []) (k_X1_numberOf (d := 0) (Nat.le_refl _) hr2) LB_X1_numberOf lk_X1_25 (by omega) dX1_add_9 rfl rfl (Nat.le_of_ble_eq_true rfl) (Nat.le_refl _) (Nat.le_refl _) 2 rfl ⟨rfl, rfl⟩ [.int r2] rfl ?_
    refine V_iconst (-1) dX1_add_12 (by decide) ?_
    refine V_icmp_eq 17 dX1_add_13 (by decide) (fun c2 => ?_) (fun c2 => ?_)
    · replace hf := (if_pos c2).symm.trans hf
      refine V_aload_n 0 rfl dX1_add_17 rfl ?_
      refine V_get (k := 1) RC_X1 fl_X1_15 rfl (by decide) dX1_add_18 2 rfl rfl ?_
      refine V_istore_n [(0, .ref (ad 2)), (1, .int x1), (2, .int (gi σ 1))] [1, 2, 0] dX1_add_21 rfl (by decide) rfl ?_
      exact v_X1_add_22 hd _ _ _ _ hf
    · replace hf := (if_neg c2).symm.trans hf
      cases hf
      exact V_vret rfl dX1_add_16 ⟨rfl, rfl⟩
theorem k_X1_add {l : Launch} {G : Gv} {ad : Nat → Nat} {d : Nat} {σ : St} {q : St} {x1 : Int32} (hd : 1 ≤ d) (hf : f_X1_add σ x1 = some q) : K l G yX1_add cX1_add 3 none d 0 0 [.ref (ad 2), .int x1] (wC G ad σ) (pD none (wC G ad q)) := K_intro (by decide) (Nat.le_of_ble_eq_true rfl) (v_X1_add hd hf)
def f_X0_hasTile (σ : St) (x1 : Int32) : Option Bool := if x1 < 0 then (some false) else (if (64) ≤ x1 then (some false) else (if (lg_cmp ((lush (gl σ 0) x1) &&& (1)) (0)) = 0 then (some false) else (some true)))
set_option maxHeartbeats 4000000 in
set_option maxRecDepth 100000 in
theorem v_X0_hasTile {l : Launch} {G : Gv} {ad : Nat → Nat} {d : Nat} {av0 : List Value} {w1 : va_W} {q : Bool} {σ : St} {x1 : Int32} (hd : 0 ≤ d) (hf : f_X0_hasTile σ x1 = some q) : VV l G yX0_hasTile cX0_hasTile 2 (some .boolean) d 0 0 av0 w1 (pD (some (.int (b2i q))) (wC G ad σ)) 0 0 (wC G ad σ) 0 [(0, .ref (ad 4)), (1, .int x1)] [] := by
  unfold f_X0_hasTile at hf
  refine V_iload_n 1 rfl dX0_hasTile_0 rfl ?_
  refine V_if_lt 27 dX0_hasTile_1 (by decide) (fun c1 => ?_) (fun c1 => ?_)
  · replace hf := (if_pos c1).symm.trans hf
    refine V_iconst 0 dX0_hasTile_27 (by decide) ?_
    cases hf
    exact V_zret (ty := .boolean) rfl rfl dX0_hasTile_28 ⟨rfl, rfl⟩
  · replace hf := (if_neg c1).symm.trans hf
    refine V_iload_n 1 rfl dX0_hasTile_4 rfl ?_
    refine V_bipush 64 dX0_hasTile_5 (by decide) ?_
    refine V_icmp_ge 27 dX0_hasTile_7 (by decide) (fun c2 => ?_) (fun c2 => ?_)
    · replace hf := (if_pos c2).symm.trans hf
      refine V_iconst 0 dX0_hasTile_27 (by decide) ?_
      cases hf
      exact V_zret (ty := .boolean) rfl rfl dX0_hasTile_28 ⟨rfl, rfl⟩
    · replace hf := (if_neg c2).symm.trans hf
      refine V_aload_n 0 rfl dX0_hasTile_10 rfl ?_
      refine V_get (k := 2) RC_X0 fl_X0_20 rfl (by decide) dX0_hasTile_11 4 rfl rfl ?_
      refine V_iload_n 1 rfl dX0_hasTile_14 rfl ?_
      refine V_lushr dX0_hasTile_15 ?_
      refine V_lconst 1 dX0_hasTile_16 (by decide) ?_
      refine V_land dX0_hasTile_17 ?_
      refine V_lconst 0 dX0_hasTile_18 (by decide) ?_
      refine V_lcmp dX0_hasTile_19 ?_
      refine V_if_eq 27 dX0_hasTile_20 (by decide) (fun c3 => ?_) (fun c3 => ?_)
      · replace hf := (if_pos c3).symm.trans hf
        refine V_iconst 0 dX0_hasTile_27 (by decide) ?_
        cases hf
        exact V_zret (ty := .boolean) rfl rfl dX0_hasTile_28 ⟨rfl, rfl⟩
      · replace hf := (if_neg c3).symm.trans hf
        refine V_iconst 1 dX0_hasTile_23 (by decide) ?_
        refine V_goto 28 dX0_hasTile_24 (by decide) ?_
        cases hf
        exact V_zret (ty := .boolean) rfl rfl dX0_hasTile_28 ⟨rfl, rfl⟩
theorem k_X0_hasTile {l : Launch} {G : Gv} {ad : Nat → Nat} {d : Nat} {σ : St} {q : Bool} {x1 : Int32} (hd : 0 ≤ d) (hf : f_X0_hasTile σ x1 = some q) : K l G yX0_hasTile cX0_hasTile 2 (some .boolean) d 0 0 [.ref (ad 4), .int x1] (wC G ad σ) (pD (some (.int (b2i q))) (wC G ad σ)) := K_intro (by decide) (Nat.le_of_ble_eq_true rfl) (v_X0_hasTile hd hf)
def f_X0_letter (σ : St) (x1 : Int32) : Option Int32 := bno (f_X0_hasTile σ x1) fun r1 => if (b2i r1) = 0 then (some (-1)) else (ixo x1 64 (some (ga σ 1 (Int32.toNatClampNeg x1))))
set_option maxHeartbeats 4000000 in
set_option maxRecDepth 100000 in
theorem v_X0_letter {l : Launch} {G : Gv} {ad : Nat → Nat} {d : Nat} {av0 : List Value} {w1 : va_W} {q : Int32} {σ : St} {x1 : Int32} (hd : 1 ≤ d) (hf : f_X0_letter σ x1 = some q) : VV l G yX0_letter cX0_letter 2 (some .int) d 0 0 av0 w1 (pD (some (.int q)) (wC G ad σ)) 0 0 (wC G ad σ) 0 [(0, .ref (ad 4)), (1, .int x1)] [] := by
  unfold f_X0_letter at hf
  refine V_aload_n 0 rfl dX0_letter_0 rfl ?_
  refine V_iload_n 1 rfl dX0_letter_1 rfl ?_
  obtain ⟨r1, hr1, hf⟩ := bno_some hf
  refine V_cV (As := [.int x1]) (rest := []) (k_X0_hasTile (d := 0) (Nat.le_refl _) hr1) LB_X0_hasTile lk_X0_24 (by omega) dX0_letter_2 rfl rfl (Nat.le_of_ble_eq_true rfl) (Nat.le_refl _) (Nat.le_refl _) 4 rfl ⟨rfl, rfl⟩ [.int (b2i r1)] rfl ?_
  refine V_if_eq 17 dX0_letter_5 (by decide) (fun c1 => ?_) (fun c1 => ?_)
  · replace hf := (if_pos c1).symm.trans hf
    refine V_iconst (-1) dX0_letter_17 (by decide) ?_
    cases hf
    exact V_iret rfl dX0_letter_18 ⟨rfl, rfl⟩
  · replace hf := (if_neg c1).symm.trans hf
    refine V_aload_n 0 rfl dX0_letter_8 rfl ?_
    refine V_get (k := 0) RC_X0 fl_X0_11 rfl (by decide) dX0_letter_9 4 rfl rfl ?_
    refine V_iload_n 1 rfl dX0_letter_12 rfl ?_
    obtain ⟨hi, hf⟩ := ixo_some hf
    refine V_iaload dX0_letter_13 5 rfl hi ?_
    refine V_goto 18 dX0_letter_14 (by decide) ?_
    cases hf
    exact V_iret rfl dX0_letter_18 ⟨rfl, rfl⟩
theorem k_X0_letter {l : Launch} {G : Gv} {ad : Nat → Nat} {d : Nat} {σ : St} {q : Int32} {x1 : Int32} (hd : 1 ≤ d) (hf : f_X0_letter σ x1 = some q) : K l G yX0_letter cX0_letter 2 (some .int) d 0 0 [.ref (ad 4), .int x1] (wC G ad σ) (pD (some (.int q)) (wC G ad σ)) := K_intro (by decide) (Nat.le_of_ble_eq_true rfl) (v_X0_letter hd hf)
def f_X0_premium (σ : St) (x1 : Int32) : Option Int32 := if x1 < 0 then (some (0)) else (if (64) ≤ x1 then (some (0)) else (ixo x1 64 (some (ga σ 2 (Int32.toNatClampNeg x1)))))
set_option maxHeartbeats 4000000 in
set_option maxRecDepth 100000 in
theorem v_X0_premium {l : Launch} {G : Gv} {ad : Nat → Nat} {d : Nat} {av0 : List Value} {w1 : va_W} {q : Int32} {σ : St} {x1 : Int32} (hd : 0 ≤ d) (hf : f_X0_premium σ x1 = some q) : VV l G yX0_premium cX0_premium 2 (some .int) d 0 0 av0 w1 (pD (some (.int q)) (wC G ad σ)) 0 0 (wC G ad σ) 0 [(0, .ref (ad 4)), (1, .int x1)] [] := by
  unfold f_X0_premium at hf
  refine V_iload_n 1 rfl dX0_premium_0 rfl ?_
  refine V_if_lt 19 dX0_premium_1 (by decide) (fun c1 => ?_) (fun c1 => ?_)
  · replace hf := (if_pos c1).symm.trans hf
    refine V_iconst 0 dX0_premium_19 (by decide) ?_
    cases hf
    exact V_iret rfl dX0_premium_20 ⟨rfl, rfl⟩
  · replace hf := (if_neg c1).symm.trans hf
    refine V_iload_n 1 rfl dX0_premium_4 rfl ?_
    refine V_bipush 64 dX0_premium_5 (by decide) ?_
    refine V_icmp_ge 19 dX0_premium_7 (by decide) (fun c2 => ?_) (fun c2 => ?_)
    · replace hf := (if_pos c2).symm.trans hf
      refine V_iconst 0 dX0_premium_19 (by decide) ?_
      cases hf
      exact V_iret rfl dX0_premium_20 ⟨rfl, rfl⟩
    · replace hf := (if_neg c2).symm.trans hf
      refine V_aload_n 0 rfl dX0_premium_10 rfl ?_
      refine V_get (k := 1) RC_X0 fl_X0_17 rfl (by decide) dX0_premium_11 4 rfl rfl ?_
      refine V_iload_n 1 rfl dX0_premium_14 rfl ?_
      obtain ⟨hi, hf⟩ := ixo_some hf
      refine V_iaload dX0_premium_15 6 rfl hi ?_
      refine V_goto 20 dX0_premium_16 (by decide) ?_
      cases hf
      exact V_iret rfl dX0_premium_20 ⟨rfl, rfl⟩
theorem k_X0_premium {l : Launch} {G : Gv} {ad : Nat → Nat} {d : Nat} {σ : St} {q : Int32} {x1 : Int32} (hd : 0 ≤ d) (hf : f_X0_premium σ x1 = some q) : K l G yX0_premium cX0_premium 2 (some .int) d 0 0 [.ref (ad 4), .int x1] (wC G ad σ) (pD (some (.int q)) (wC G ad σ)) := K_intro (by decide) (Nat.le_of_ble_eq_true rfl) (v_X0_premium hd hf)
def f_X0_changePremium (σ : St) (x1 : Int32) (x2 : Int32) : Option St := if x1 < 0 then (some σ) else (if (64) ≤ x1 then (some σ) else (ixo x1 64 (lt (sa σ 2 (upd (ga σ 2) (Int32.toNatClampNeg x1) x2)) fun σ1 => some σ1)))
set_option maxHeartbeats 4000000 in
set_option maxRecDepth 100000 in
theorem v_X0_changePremium {l : Launch} {G : Gv} {ad : Nat → Nat} {d : Nat} {av0 : List Value} {w1 : va_W} {q : St} {σ : St} {x1 : Int32} {x2 : Int32} (hd : 0 ≤ d) (hf : f_X0_changePremium σ x1 x2 = some q) : VV l G yX0_changePremium cX0_changePremium 3 none d 0 0 av0 w1 (pD none (wC G ad q)) 0 0 (wC G ad σ) 0 [(0, .ref (ad 4)), (1, .int x1), (2, .int x2)] [] := by
  unfold f_X0_changePremium at hf
  refine V_iload_n 1 rfl dX0_changePremium_0 rfl ?_
  refine V_if_lt 17 dX0_changePremium_1 (by decide) (fun c1 => ?_) (fun c1 => ?_)
  · replace hf := (if_pos c1).symm.trans hf
    cases hf
    exact V_vret rfl dX0_changePremium_17 ⟨rfl, rfl⟩
  · replace hf := (if_neg c1).symm.trans hf
    refine V_iload_n 1 rfl dX0_changePremium_4 rfl ?_
    refine V_bipush 64 dX0_changePremium_5 (by decide) ?_
    refine V_icmp_ge 17 dX0_changePremium_7 (by decide) (fun c2 => ?_) (fun c2 => ?_)
    · replace hf := (if_pos c2).symm.trans hf
      cases hf
      exact V_vret rfl dX0_changePremium_17 ⟨rfl, rfl⟩
    · replace hf := (if_neg c2).symm.trans hf
      refine V_aload_n 0 rfl dX0_changePremium_10 rfl ?_
      refine V_get (k := 1) RC_X0 fl_X0_17 rfl (by decide) dX0_changePremium_11 4 rfl rfl ?_
      refine V_iload_n 1 rfl dX0_changePremium_14 rfl ?_
      refine V_iload_n 2 rfl dX0_changePremium_15 rfl ?_
      obtain ⟨hi, hf⟩ := ixo_some hf
      obtain ⟨σ1, eσ1, hf⟩ := lt_some hf
      refine V_iastore dX0_changePremium_16 6 rfl hi (wC G ad σ1) (by rw [eσ1]; rfl) ?_
      cases hf
      exact V_vret rfl dX0_changePremium_17 ⟨rfl, rfl⟩
theorem k_X0_changePremium {l : Launch} {G : Gv} {ad : Nat → Nat} {d : Nat} {σ : St} {q : St} {x1 : Int32} {x2 : Int32} (hd : 0 ≤ d) (hf : f_X0_changePremium σ x1 x2 = some q) : K l G yX0_changePremium cX0_changePremium 3 none d 0 0 [.ref (ad 4), .int x1, .int x2] (wC G ad σ) (pD none (wC G ad q)) := K_intro (by decide) (Nat.le_of_ble_eq_true rfl) (v_X0_changePremium hd hf)
def f_X0_takeAway (σ : St) (x1 : Int64) : Option St := lt (sl σ 0 ((gl σ 0) &&& (x1 ^^^ (-1)))) fun σ1 => some σ1
set_option maxHeartbeats 4000000 in
set_option maxRecDepth 100000 in
theorem v_X0_takeAway {l : Launch} {G : Gv} {ad : Nat → Nat} {d : Nat} {av0 : List Value} {w1 : va_W} {q : St} {σ : St} {x1 : Int64} (hd : 0 ≤ d) (hf : f_X0_takeAway σ x1 = some q) : VV l G yX0_takeAway cX0_takeAway 3 none d 0 0 av0 w1 (pD none (wC G ad q)) 0 0 (wC G ad σ) 0 [(0, .ref (ad 4)), (1, .long x1)] [] := by
  unfold f_X0_takeAway at hf
  refine V_aload_n 0 rfl dX0_takeAway_0 rfl ?_
  refine V_dup rfl dX0_takeAway_1 ?_
  refine V_get (k := 2) RC_X0 fl_X0_20 rfl (by decide) dX0_takeAway_2 4 rfl rfl ?_
  refine V_lload_n 1 rfl dX0_takeAway_5 rfl ?_
  refine V_ldc2 (-1) kc_X0_32 dX0_takeAway_6 ?_
  refine V_lxor dX0_takeAway_9 ?_
  refine V_land dX0_takeAway_10 ?_
  obtain ⟨σ1, eσ1, hf⟩ := lt_some hf
  refine V_put (k := 2) RC_X0 fl_X0_20 rfl (by decide) rfl dX0_takeAway_11 4 rfl (Nat.le_of_ble_eq_true rfl) rfl rfl (wC G ad σ1) (by rw [eσ1]; rfl) ?_
  cases hf
  exact V_vret rfl dX0_takeAway_14 ⟨rfl, rfl⟩
theorem k_X0_takeAway {l : Launch} {G : Gv} {ad : Nat → Nat} {d : Nat} {σ : St} {q : St} {x1 : Int64} (hd : 0 ≤ d) (hf : f_X0_takeAway σ x1 = some q) : K l G yX0_takeAway cX0_takeAway 3 none d 0 0 [.ref (ad 4), .long x1] (wC G ad σ) (pD none (wC G ad q)) := K_intro (by decide) (Nat.le_of_ble_eq_true rfl) (v_X0_takeAway hd hf)
def f_X0_put (σ : St) (x1 : Int32) (x2 : Int32) : Option St := if x1 < 0 then (some σ) else (if x1 < (64) then (if x2 = (-1) then (bno (f_X0_takeAway σ (lshl (1) x1)) fun r1 => some r1) else (ixo x1 64 (lt (sa σ 1 (upd (ga σ 1) (Int32.toNatClampNeg x1) x2)) fun σ1 => lt (sl σ1 0 ((gl σ1 0) ||| (lshl (1) x1))) fun σ2 => some σ2))) else (some σ))
set_option maxHeartbeats 4000000 in
set_option maxRecDepth 100000 in
theorem v_X0_put {l : Launch} {G : Gv} {ad : Nat → Nat} {d : Nat} {av0 : List Value} {w1 : va_W} {q : St} {σ : St} {x1 : Int32} {x2 : Int32} (hd : 1 ≤ d) (hf : f_X0_put σ x1 x2 = some q) : VV l G yX0_put cX0_put 3 none d 0 0 av0 w1 (pD none (wC G ad q)) 0 0 (wC G ad σ) 0 [(0, .ref (ad 4)), (1, .int x1), (2, .int x2)] [] := by
  unfold f_X0_put at hf
  refine V_iload_n 1 rfl dX0_put_0 rfl ?_
  refine V_if_lt 10 dX0_put_1 (by decide) (fun c1 => ?_) (fun c1 => ?_)
  · replace hf := (if_pos c1).symm.trans hf
    cases hf
    exact V_vret rfl dX0_put_10 ⟨rfl, rfl⟩
  · replace hf := (if_neg c1).symm.trans hf
    refine V_iload_n 1 rfl dX0_put_4 rfl ?_
    refine V_bipush 64 dX0_put_5 (by decide) ?_
    refine V_icmp_lt 11 dX0_put_7 (by decide) (fun c2 => ?_) (fun c2 => ?_)
    · replace hf := (if_pos c2).symm.trans hf
      refine V_iload_n 2 rfl dX0_put_11 rfl ?_
      refine V_iconst (-1) dX0_put_12 (by decide) ?_
      refine V_icmp_ne 26 dX0_put_13 (by decide) (fun c3 => ?_) (fun c3 => ?_)
      · replace hf := (if_neg c3).symm.trans hf
        refine V_aload_n 0 rfl dX0_put_26 rfl ?_
        refine V_get (k := 0) RC_X0 fl_X0_11 rfl (by decide) dX0_put_27 4 rfl rfl ?_
        refine V_iload_n 1 rfl dX0_put_30 rfl ?_
        refine V_iload_n 2 rfl dX0_put_31 rfl ?_
        obtain ⟨hi, hf⟩ := ixo_some hf
        obtain ⟨σ1, eσ1, hf⟩ := lt_some hf
        refine V_iastore dX0_put_32 5 rfl hi (wC G ad σ1) (by rw [eσ1]; rfl) ?_
        refine V_aload_n 0 rfl dX0_put_33 rfl ?_
        refine V_dup rfl dX0_put_34 ?_
        refine V_get (k := 2) RC_X0 fl_X0_20 rfl (by decide) dX0_put_35 4 rfl rfl ?_
        refine V_lconst 1 dX0_put_38 (by decide) ?_
        refine V_iload_n 1 rfl dX0_put_39 rfl ?_
        refine V_lshl dX0_put_40 ?_
        refine V_lor dX0_put_41 ?_
        obtain ⟨σ2, eσ2, hf⟩ := lt_some hf
        refine V_put (k := 2) RC_X0 fl_X0_20 rfl (by decide) rfl dX0_put_42 4 rfl (Nat.le_of_ble_eq_true rfl) rfl rfl (wC G ad σ2) (by rw [eσ2]; rfl) ?_
        cases hf
        exact V_vret rfl dX0_put_45 ⟨rfl, rfl⟩
      · replace hf := (if_pos c3).symm.trans hf
        refine V_aload_n 0 rfl dX0_put_16 rfl ?_
        refine V_lconst 1 dX0_put_17 (by decide) ?_
        refine V_iload_n 1 rfl dX0_put_18 rfl ?_
        refine V_lshl dX0_put_19 ?_
        obtain ⟨r1, hr1, hf⟩ := bno_some hf
        refine V_cV (As := [.long (lshl (1) x1)]) (rest := []) (k_X0_takeAway (d := 0) (Nat.le_refl _) hr1) LB_X0_takeAway lk_X0_28 (by omega) dX0_put_20 rfl rfl (Nat.le_of_ble_eq_true rfl) (Nat.le_refl _) (Nat.le_refl _) 4 rfl ⟨rfl, rfl⟩ [] rfl ?_
        refine V_goto 45 dX0_put_23 (by decide) ?_
        cases hf
        exact V_vret rfl dX0_put_45 ⟨rfl, rfl⟩
    · replace hf := (if_neg c2).symm.trans hf
      cases hf
      exact V_vret rfl dX0_put_10 ⟨rfl, rfl⟩
theorem k_X0_put {l : Launch} {G : Gv} {ad : Nat → Nat} {d : Nat} {σ : St} {q : St} {x1 : Int32} {x2 : Int32} (hd : 1 ≤ d) (hf : f_X0_put σ x1 x2 = some q) : K l G yX0_put cX0_put 3 none d 0 0 [.ref (ad 4), .int x1, .int x2] (wC G ad σ) (pD none (wC G ad q)) := K_intro (by decide) (Nat.le_of_ble_eq_true rfl) (v_X0_put hd hf)
def f_X0_emptyOf (σ : St) (x1 : Int64) : Option Int64 := some (x1 &&& ((gl σ 0) ^^^ (-1)))
set_option maxHeartbeats 4000000 in
set_option maxRecDepth 100000 in
theorem v_X0_emptyOf {l : Launch} {G : Gv} {ad : Nat → Nat} {d : Nat} {av0 : List Value} {w1 : va_W} {q : Int64} {σ : St} {x1 : Int64} (hd : 0 ≤ d) (hf : f_X0_emptyOf σ x1 = some q) : VV l G yX0_emptyOf cX0_emptyOf 3 (some .long) d 0 0 av0 w1 (pD (some (.long q)) (wC G ad σ)) 0 0 (wC G ad σ) 0 [(0, .ref (ad 4)), (1, .long x1)] [] := by
  unfold f_X0_emptyOf at hf
  refine V_lload_n 1 rfl dX0_emptyOf_0 rfl ?_
  refine V_aload_n 0 rfl dX0_emptyOf_1 rfl ?_
  refine V_get (k := 2) RC_X0 fl_X0_20 rfl (by decide) dX0_emptyOf_2 4 rfl rfl ?_
  refine V_ldc2 (-1) kc_X0_32 dX0_emptyOf_5 ?_
  refine V_lxor dX0_emptyOf_8 ?_
  refine V_land dX0_emptyOf_9 ?_
  cases hf
  exact V_lret rfl dX0_emptyOf_10 ⟨rfl, rfl⟩
theorem k_X0_emptyOf {l : Launch} {G : Gv} {ad : Nat → Nat} {d : Nat} {σ : St} {q : Int64} {x1 : Int64} (hd : 0 ≤ d) (hf : f_X0_emptyOf σ x1 = some q) : K l G yX0_emptyOf cX0_emptyOf 3 (some .long) d 0 0 [.ref (ad 4), .long x1] (wC G ad σ) (pD (some (.long q)) (wC G ad σ)) := K_intro (by decide) (Nat.le_of_ble_eq_true rfl) (v_X0_emptyOf hd hf)
def f_X0_connects (σ : St) (x1 : Int64) (x3 : Int32) : Option Bool := if (lg_cmp (gl σ 0) (0)) = 0 then (if (lg_cmp (x1 &&& (134217728)) (0)) = 0 then (some false) else (some true)) else (lt (((gl σ 0) ||| (lshl (gl σ 0) x3)) ||| (lush (gl σ 0) x3)) fun t1 => if (lg_cmp (x1 &&& t1) (0)) = 0 then (some false) else (some true))
set_option maxHeartbeats 4000000 in
set_option maxRecDepth 100000 in
theorem v_X0_connects {l : Launch} {G : Gv} {ad : Nat → Nat} {d : Nat} {av0 : List Value} {w1 : va_W} {q : Bool} {σ : St} {x1 : Int64} {x3 : Int32} (hd : 0 ≤ d) (hf : f_X0_connects σ x1 x3 = some q) : VV l G yX0_connects cX0_connects 6 (some .boolean) d 0 0 av0 w1 (pD (some (.int (b2i q))) (wC G ad σ)) 0 0 (wC G ad σ) 0 [(0, .ref (ad 4)), (1, .long x1), (3, .int x3)] [] := by
  unfold f_X0_connects at hf
  refine V_aload_n 0 rfl dX0_connects_0 rfl ?_
  refine V_get (k := 2) RC_X0 fl_X0_20 rfl (by decide) dX0_connects_1 4 rfl rfl ?_
  refine V_lconst 0 dX0_connects_4 (by decide) ?_
  refine V_lcmp dX0_connects_5 ?_
  refine V_if_ne 25 dX0_connects_6 (by decide) (fun c1 => ?_) (fun c1 => ?_)
  · replace hf := (if_neg c1).symm.trans hf
    refine V_aload_n 0 rfl dX0_connects_25 rfl ?_
    refine V_get (k := 2) RC_X0 fl_X0_20 rfl (by decide) dX0_connects_26 4 rfl rfl ?_
    refine V_aload_n 0 rfl dX0_connects_29 rfl ?_
    refine V_get (k := 2) RC_X0 fl_X0_20 rfl (by decide) dX0_connects_30 4 rfl rfl ?_
    refine V_iload_n 2 rfl dX0_connects_33 rfl ?_
    refine V_lshl dX0_connects_34 ?_
    refine V_lor dX0_connects_35 ?_
    refine V_aload_n 0 rfl dX0_connects_36 rfl ?_
    refine V_get (k := 2) RC_X0 fl_X0_20 rfl (by decide) dX0_connects_37 4 rfl rfl ?_
    refine V_iload_n 2 rfl dX0_connects_40 rfl ?_
    refine V_lushr dX0_connects_41 ?_
    refine V_lor dX0_connects_42 ?_
    obtain ⟨t1, et1, hf⟩ := lt_some hf
    refine V_topl et1 ?_
    refine V_lstore [(0, .ref (ad 4)), (1, .long x1), (3, .int x3), (4, .long t1)] [1, 2, 3, 0] dX0_connects_43 (by decide) rfl ?_
    refine V_lload_n 1 rfl dX0_connects_45 rfl ?_
    refine V_lload 3 rfl dX0_connects_46 ?_
    refine V_land dX0_connects_48 ?_
    refine V_lconst 0 dX0_connects_49 (by decide) ?_
    refine V_lcmp dX0_connects_50 ?_
    refine V_if_eq 58 dX0_connects_51 (by decide) (fun c2 => ?_) (fun c2 => ?_)
    · replace hf := (if_pos c2).symm.trans hf
      refine V_iconst 0 dX0_connects_58 (by decide) ?_
      cases hf
      exact V_zret (ty := .boolean) rfl rfl dX0_connects_59 ⟨rfl, rfl⟩
    · replace hf := (if_neg c2).symm.trans hf
      refine V_iconst 1 dX0_connects_54 (by decide) ?_
      refine V_goto 59 dX0_connects_55 (by decide) ?_
      cases hf
      exact V_zret (ty := .boolean) rfl rfl dX0_connects_59 ⟨rfl, rfl⟩
  · replace hf := (if_pos c1).symm.trans hf
    refine V_lload_n 1 rfl dX0_connects_9 rfl ?_
    refine V_ldc2 (134217728) kc_X0_34 dX0_connects_10 ?_
    refine V_land dX0_connects_13 ?_
    refine V_lconst 0 dX0_connects_14 (by decide) ?_
    refine V_lcmp dX0_connects_15 ?_
    refine V_if_eq 23 dX0_connects_16 (by decide) (fun c3 => ?_) (fun c3 => ?_)
    · replace hf := (if_pos c3).symm.trans hf
      refine V_iconst 0 dX0_connects_23 (by decide) ?_
      cases hf
      exact V_zret (ty := .boolean) rfl rfl dX0_connects_24 ⟨rfl, rfl⟩
    · replace hf := (if_neg c3).symm.trans hf
      refine V_iconst 1 dX0_connects_19 (by decide) ?_
      refine V_goto 24 dX0_connects_20 (by decide) ?_
      cases hf
      exact V_zret (ty := .boolean) rfl rfl dX0_connects_24 ⟨rfl, rfl⟩
theorem k_X0_connects {l : Launch} {G : Gv} {ad : Nat → Nat} {d : Nat} {σ : St} {q : Bool} {x1 : Int64} {x3 : Int32} (hd : 0 ≤ d) (hf : f_X0_connects σ x1 x3 = some q) : K l G yX0_connects cX0_connects 6 (some .boolean) d 0 0 [.ref (ad 4), .long x1, .int x3] (wC G ad σ) (pD (some (.int (b2i q))) (wC G ad σ)) := K_intro (by decide) (Nat.le_of_ble_eq_true rfl) (v_X0_connects hd hf)
def f_X0_anchorSquares (σ : St) : Option Int64 := if (lg_cmp (gl σ 0) (0)) = 0 then (some (134217728)) else (lt ((lshl (gl σ 0) (1)) ||| (lush (gl σ 0) (1))) fun t1 => lt ((lshl (gl σ 0) (8)) ||| (lush (gl σ 0) (8))) fun t2 => bno (f_X0_emptyOf σ ((t1 ||| t2) &&& (35887507618889599))) fun r1 => some r1)
set_option maxHeartbeats 4000000 in
set_option maxRecDepth 100000 in
theorem v_X0_anchorSquares {l : Launch} {G : Gv} {ad : Nat → Nat} {d : Nat} {av0 : List Value} {w1 : va_W} {q : Int64} {σ : St} (hd : 1 ≤ d) (hf : f_X0_anchorSquares σ = some q) : VV l G yX0_anchorSquares cX0_anchorSquares 5 (some .long) d 0 0 av0 w1 (pD (some (.long q)) (wC G ad σ)) 0 0 (wC G ad σ) 0 [(0, .ref (ad 4))] [] := by
  unfold f_X0_anchorSquares at hf
  refine V_aload_n 0 rfl dX0_anchorSquares_0 rfl ?_
  refine V_get (k := 2) RC_X0 fl_X0_20 rfl (by decide) dX0_anchorSquares_1 4 rfl rfl ?_
  refine V_lconst 0 dX0_anchorSquares_4 (by decide) ?_
  refine V_lcmp dX0_anchorSquares_5 ?_
  refine V_if_ne 13 dX0_anchorSquares_6 (by decide) (fun c1 => ?_) (fun c1 => ?_)
  · replace hf := (if_neg c1).symm.trans hf
    refine V_aload_n 0 rfl dX0_anchorSquares_13 rfl ?_
    refine V_get (k := 2) RC_X0 fl_X0_20 rfl (by decide) dX0_anchorSquares_14 4 rfl rfl ?_
    refine V_iconst 1 dX0_anchorSquares_17 (by decide) ?_
    refine V_lshl dX0_anchorSquares_18 ?_
    refine V_aload_n 0 rfl dX0_anchorSquares_19 rfl ?_
    refine V_get (k := 2) RC_X0 fl_X0_20 rfl (by decide) dX0_anchorSquares_20 4 rfl rfl ?_
    refine V_iconst 1 dX0_anchorSquares_23 (by decide) ?_
    refine V_lushr dX0_anchorSquares_24 ?_
    refine V_lor dX0_anchorSquares_25 ?_
    obtain ⟨t1, et1, hf⟩ := lt_some hf
    refine V_topl et1 ?_
    refine V_lstore_n [(0, .ref (ad 4)), (1, .long t1)] [1, 0] dX0_anchorSquares_26 rfl (by decide) rfl ?_
    refine V_aload_n 0 rfl dX0_anchorSquares_27 rfl ?_
    refine V_get (k := 2) RC_X0 fl_X0_20 rfl (by decide) dX0_anchorSquares_28 4 rfl rfl ?_
    refine V_bipush 8 dX0_anchorSquares_31 (by decide) ?_
    refine V_lshl dX0_anchorSquares_33 ?_
    refine V_aload_n 0 rfl dX0_anchorSquares_34 rfl ?_
    refine V_get (k := 2) RC_X0 fl_X0_20 rfl (by decide) dX0_anchorSquares_35 4 rfl rfl ?_
    refine V_bipush 8 dX0_anchorSquares_38 (by decide) ?_
    refine V_lushr dX0_anchorSquares_40 ?_
    refine V_lor dX0_anchorSquares_41 ?_
    obtain ⟨t2, et2, hf⟩ := lt_some hf
    refine V_topl et2 ?_
    refine V_lstore_n [(0, .ref (ad 4)), (1, .long t1), (3, .long t2)] [1, 2, 0] dX0_anchorSquares_42 rfl (by decide) rfl ?_
    refine V_aload_n 0 rfl dX0_anchorSquares_43 rfl ?_
    refine V_lload_n 1 rfl dX0_anchorSquares_44 rfl ?_
    refine V_lload_n 2 rfl dX0_anchorSquares_45 rfl ?_
    refine V_lor dX0_anchorSquares_46 ?_
    refine V_ldc2 (35887507618889599) kc_X0_36 dX0_anchorSquares_47 ?_
    refine V_land dX0_anchorSquares_50 ?_
    obtain ⟨r1, hr1, hf⟩ := bno_some hf
    refine V_cV (As := [.long ((t1 ||| t2) &&& (35887507618889599))]) (rest := []) (k_X0_emptyOf (d := 0) (Nat.le_refl _) hr1) LB_X0_emptyOf lk_X0_38 (by omega) dX0_anchorSquares_51 rfl rfl (Nat.le_of_ble_eq_true rfl) (Nat.le_refl _) (Nat.le_refl _) 4 rfl ⟨rfl, rfl⟩ [.long r1] rfl ?_
    cases hf
    exact V_lret rfl dX0_anchorSquares_54 ⟨rfl, rfl⟩
  · replace hf := (if_pos c1).symm.trans hf
    refine V_ldc2 (134217728) kc_X0_34 dX0_anchorSquares_9 ?_
    cases hf
    exact V_lret rfl dX0_anchorSquares_12 ⟨rfl, rfl⟩
theorem k_X0_anchorSquares {l : Launch} {G : Gv} {ad : Nat → Nat} {d : Nat} {σ : St} {q : Int64} (hd : 1 ≤ d) (hf : f_X0_anchorSquares σ = some q) : K l G yX0_anchorSquares cX0_anchorSquares 5 (some .long) d 0 0 [.ref (ad 4)] (wC G ad σ) (pD (some (.long q)) (wC G ad σ)) := K_intro (by decide) (Nat.le_of_ble_eq_true rfl) (v_X0_anchorSquares hd hf)
def f_X0_wordThrough_82 (bk42 : Int32 → Int32 → Int32 → Int32 → Int32 → Int32 → Option Int32) (σ : St) (x1 : Int32) (x2 : Int32) (x3 : Int32) (x4 : Int32) (x6 : Int32) (s0 : Int32) (s1 : Int32) : Option Int32 := bno (f_X8_append s0 s1) fun r1 => bk42 x1 x2 x3 (x4 + x3) r1 (x6 + 1)
set_option maxHeartbeats 4000000 in
set_option maxRecDepth 100000 in
theorem v_X0_wordThrough_82 {l : Launch} {G : Gv} {ad : Nat → Nat} {d : Nat} {av0 : List Value} {w1 : va_W} {q : Int32} {bk42 : Int32 → Int32 → Int32 → Int32 → Int32 → Int32 → Option Int32} {σ : St} {x1 : Int32} {x2 : Int32} {x3 : Int32} {x4 : Int32} {x6 : Int32} {s0 : Int32} {s1 : Int32} (hd : 2 ≤ d) (hb42 : ∀ (x1 : Int32) (x2 : Int32) (x3 : Int32) (x4 : Int32) (x5 : Int32) (x6 : Int32), bk42 x1 x2 x3 x4 x5 x6 = some q → VV l G yX0_wordThrough cX0_wordThrough 7 (some .int) d 0 0 av0 w1 (pD (some (.int q)) (wC G ad σ)) 0 0 (wC G ad σ) 42 [(0, .ref (ad 4)), (1, .int x1), (2, .int x2), (3, .int x3), (4, .int x4), (5, .int x5), (6, .int x6)] []) (hf : f_X0_wordThrough_82 bk42 σ x1 x2 x3 x4 x6 s0 s1 = some q) : VV l G yX0_wordThrough cX0_wordThrough 7 (some .int) d 0 0 av0 w1 (pD (some (.int q)) (wC G ad σ)) 0 0 (wC G ad σ) 82 [(0, .ref (ad 4)), (1, .int x1), (2, .int x2), (3, .int x3), (4, .int x4), (6, .int x6)] [.int s1, .int s0] := by
  unfold f_X0_wordThrough_82 at hf
  obtain ⟨r1, hr1, hf⟩ := bno_some hf
  refine V_cS (As := [.int s0, .int s1]) (rest := []) (k_X8_append (d := 0) (Nat.le_refl _) hr1) LB_X8_append lk_X0_48 (by omega) dX0_wordThrough_82 rfl rfl (Nat.le_of_ble_eq_true rfl) (Nat.le_refl _) (Nat.le_refl _) [.int r1] rfl ?_
  refine V_istore [(0, .ref (ad 4)), (1, .int x1), (2, .int x2), (3, .int x3), (4, .int x4), (5, .int r1), (6, .int x6)] [1, 2, 3, 4, 5, 0, 6] dX0_wordThrough_85 (by decide) rfl ?_
  refine V_iload 4 rfl dX0_wordThrough_87 ?_
  refine V_iload_n 3 rfl dX0_wordThrough_89 rfl ?_
  refine V_iadd dX0_wordThrough_90 ?_
  refine V_istore [(0, .ref (ad 4)), (1, .int x1), (2, .int x2), (3, .int x3), (4, .int (x4 + x3)), (5, .int r1), (6, .int x6)] [1, 2, 3, 4, 0, 5, 6] dX0_wordThrough_91 (by decide) rfl ?_
  refine V_iinc (1) 6 [(0, .ref (ad 4)), (1, .int x1), (2, .int x2), (3, .int x3), (4, .int (x4 + x3)), (5, .int r1), (6, .int (x6 + 1))] [1, 2, 3, 4, 5, 6, 0] dX0_wordThrough_93 rfl (by decide) (by decide) rfl ?_
  refine V_goto 42 dX0_wordThrough_96 (by decide) ?_
  exact hb42 _ _ _ _ _ _ hf
def f_X0_wordThrough_64 (bk42 : Int32 → Int32 → Int32 → Int32 → Int32 → Int32 → Option Int32) (σ : St) (x1 : Int32) (x2 : Int32) (x3 : Int32) (x4 : Int32) (x5 : Int32) (x6 : Int32) : Option Int32 := if x4 = x1 then (f_X0_wordThrough_82 bk42 σ x1 x2 x3 x4 x6 x5 x2) else (bno (f_X0_letter σ x4) fun r1 => f_X0_wordThrough_82 bk42 σ x1 x2 x3 x4 x6 x5 r1)
set_option maxHeartbeats 4000000 in
set_option maxRecDepth 100000 in
theorem v_X0_wordThrough_64 {l : Launch} {G : Gv} {ad : Nat → Nat} {d : Nat} {av0 : List Value} {w1 : va_W} {q : Int32} {bk42 : Int32 → Int32 → Int32 → Int32 → Int32 → Int32 → Option Int32} {σ : St} {x1 : Int32} {x2 : Int32} {x3 : Int32} {x4 : Int32} {x5 : Int32} {x6 : Int32} (hd : 2 ≤ d) (hb42 : ∀ (x1 : Int32) (x2 : Int32) (x3 : Int32) (x4 : Int32) (x5 : Int32) (x6 : Int32), bk42 x1 x2 x3 x4 x5 x6 = some q → VV l G yX0_wordThrough cX0_wordThrough 7 (some .int) d 0 0 av0 w1 (pD (some (.int q)) (wC G ad σ)) 0 0 (wC G ad σ) 42 [(0, .ref (ad 4)), (1, .int x1), (2, .int x2), (3, .int x3), (4, .int x4), (5, .int x5), (6, .int x6)] []) (hf : f_X0_wordThrough_64 bk42 σ x1 x2 x3 x4 x5 x6 = some q) : VV l G yX0_wordThrough cX0_wordThrough 7 (some .int) d 0 0 av0 w1 (pD (some (.int q)) (wC G ad σ)) 0 0 (wC G ad σ) 64 [(0, .ref (ad 4)), (1, .int x1), (2, .int x2), (3, .int x3), (4, .int x4), (5, .int x5), (6, .int x6)] [] := by
  unfold f_X0_wordThrough_64 at hf
  refine V_iload 5 rfl dX0_wordThrough_64 ?_
  refine V_iload 4 rfl dX0_wordThrough_66 ?_
  refine V_iload_n 1 rfl dX0_wordThrough_68 rfl ?_
  refine V_icmp_ne 76 dX0_wordThrough_69 (by decide) (fun c1 => ?_) (fun c1 => ?_)
  · replace hf := (if_neg c1).symm.trans hf
    refine V_aload_n 0 rfl dX0_wordThrough_76 rfl ?_
    refine V_iload 4 rfl dX0_wordThrough_77 ?_
    obtain ⟨r1, hr1, hf⟩ := bno_some hf
    refine V_cV (As := [.int x4]) (rest := [.int x5]) (k_X0_letter (d := 1) (Nat.le_refl _) hr1) LB_X0_letter lk_X0_44 (by omega) dX0_wordThrough_79 rfl rfl (Nat.le_of_ble_eq_true rfl) (Nat.le_refl _) (Nat.le_refl _) 4 rfl ⟨rfl, rfl⟩ [.int r1, .int x5] rfl ?_
    refine V_lv [(0, .ref (ad 4)), (1, .int x1), (2, .int x2), (3, .int x3), (4, .int x4), (6, .int x6)] [0, 1, 2, 3, 4, 6] rfl ?_
    exact v_X0_wordThrough_82 hd hb42 hf
  · replace hf := (if_pos c1).symm.trans hf
    refine V_iload_n 2 rfl dX0_wordThrough_72 rfl ?_
    refine V_goto 82 dX0_wordThrough_73 (by decide) ?_
    refine V_lv [(0, .ref (ad 4)), (1, .int x1), (2, .int x2), (3, .int x3), (4, .int x4), (6, .int x6)] [0, 1, 2, 3, 4, 6] rfl ?_
    exact v_X0_wordThrough_82 hd hb42 hf
def f_X0_wordThrough_42 (σ : St) : Nat → Int32 → Int32 → Int32 → Int32 → Int32 → Int32 → Option Int32
  | 0, _, _, _, _, _, _ => none
  | n + 1, x1, x2, x3, x4, x5, x6 => if (7) ≤ x6 then (some x5) else (if x4 = x1 then (f_X0_wordThrough_64 (f_X0_wordThrough_42 σ n) σ x1 x2 x3 x4 x5 x6) else (bno (f_X0_hasTile σ x4) fun r1 => if (b2i r1) = 0 then (some x5) else (f_X0_wordThrough_64 (f_X0_wordThrough_42 σ n) σ x1 x2 x3 x4 x5 x6)))
set_option maxHeartbeats 4000000 in
set_option maxRecDepth 100000 in
theorem v_X0_wordThrough_42 {l : Launch} {G : Gv} {ad : Nat → Nat} {d : Nat} {av0 : List Value} {w1 : va_W} {q : Int32} {σ : St} (hd : 2 ≤ d) : ∀ (n : Nat) (x1 : Int32) (x2 : Int32) (x3 : Int32) (x4 : Int32) (x5 : Int32) (x6 : Int32), f_X0_wordThrough_42 σ n x1 x2 x3 x4 x5 x6 = some q → VV l G yX0_wordThrough cX0_wordThrough 7 (some .int) d 0 0 av0 w1 (pD (some (.int q)) (wC G ad σ)) 0 0 (wC G ad σ) 42 [(0, .ref (ad 4)), (1, .int x1), (2, .int x2), (3, .int x3), (4, .int x4), (5, .int x5), (6, .int x6)] [] := by
  intro n
  induction n with
  | zero =>
    intro x1 x2 x3 x4 x5 x6 hf
    cases hf
  | succ n ih =>
    intro x1 x2 x3 x4 x5 x6 hf
    rw [f_X0_wordThrough_42] at hf
    refine V_iload 6 rfl dX0_wordThrough_42 ?_
    refine V_bipush 7 dX0_wordThrough_44 (by decide) ?_
    refine V_icmp_ge 99 dX0_wordThrough_46 (by decide) (fun c1 => ?_) (fun c1 => ?_)
    · replace hf := (if_pos c1).symm.trans hf
      refine V_iload 5 rfl dX0_wordThrough_99 ?_
      cases hf
      exact V_iret rfl dX0_wordThrough_101 ⟨rfl, rfl⟩
    · replace hf := (if_neg c1).symm.trans hf
      refine V_iload 4 rfl dX0_wordThrough_49 ?_
      refine V_iload_n 1 rfl dX0_wordThrough_51 rfl ?_
      refine V_icmp_eq 64 dX0_wordThrough_52 (by decide) (fun c2 => ?_) (fun c2 => ?_)
      · replace hf := (if_pos c2).symm.trans hf
        exact v_X0_wordThrough_64 hd ih hf
      · replace hf := (if_neg c2).symm.trans hf
        refine V_aload_n 0 rfl dX0_wordThrough_55 rfl ?_
        refine V_iload 4 rfl dX0_wordThrough_56 ?_
        obtain ⟨r1, hr1, hf⟩ := bno_some hf
        refine V_cV (As := [.int x4]) (rest := []) (k_X0_hasTile (d := 0) (Nat.le_refl _) hr1) LB_X0_hasTile lk_X0_24 (by omega) dX0_wordThrough_58 rfl rfl (Nat.le_of_ble_eq_true rfl) (Nat.le_refl _) (Nat.le_refl _) 4 rfl ⟨rfl, rfl⟩ [.int (b2i r1)] rfl ?_
        refine V_if_eq 99 dX0_wordThrough_61 (by decide) (fun c3 => ?_) (fun c3 => ?_)
        · replace hf := (if_pos c3).symm.trans hf
          refine V_iload 5 rfl dX0_wordThrough_99 ?_
          cases hf
          exact V_iret rfl dX0_wordThrough_101 ⟨rfl, rfl⟩
        · replace hf := (if_neg c3).symm.trans hf
          exact v_X0_wordThrough_64 hd ih hf
def f_X0_wordThrough_36 (σ : St) (x1 : Int32) (x2 : Int32) (x3 : Int32) (x4 : Int32) : Option Int32 := f_X0_wordThrough_42 σ FU x1 x2 x3 x4 (0) (0)
set_option maxHeartbeats 4000000 in
set_option maxRecDepth 100000 in
theorem v_X0_wordThrough_36 {l : Launch} {G : Gv} {ad : Nat → Nat} {d : Nat} {av0 : List Value} {w1 : va_W} {q : Int32} {σ : St} {x1 : Int32} {x2 : Int32} {x3 : Int32} {x4 : Int32} (hd : 2 ≤ d) (hf : f_X0_wordThrough_36 σ x1 x2 x3 x4 = some q) : VV l G yX0_wordThrough cX0_wordThrough 7 (some .int) d 0 0 av0 w1 (pD (some (.int q)) (wC G ad σ)) 0 0 (wC G ad σ) 36 [(0, .ref (ad 4)), (1, .int x1), (2, .int x2), (3, .int x3), (4, .int x4)] [] := by
  unfold f_X0_wordThrough_36 at hf
  refine V_iconst 0 dX0_wordThrough_36 (by decide) ?_
  refine V_istore [(0, .ref (ad 4)), (1, .int x1), (2, .int x2), (3, .int x3), (4, .int x4), (5, .int (0))] [1, 2, 3, 4, 5, 0] dX0_wordThrough_37 (by decide) rfl ?_
  refine V_iconst 0 dX0_wordThrough_39 (by decide) ?_
  refine V_istore [(0, .ref (ad 4)), (1, .int x1), (2, .int x2), (3, .int x3), (4, .int x4), (5, .int (0)), (6, .int (0))] [1, 2, 3, 4, 5, 6, 0] dX0_wordThrough_40 (by decide) rfl ?_
  exact v_X0_wordThrough_42 hd _ _ _ _ _ _ _ hf
def f_X0_wordThrough_6 (σ : St) : Nat → Int32 → Int32 → Int32 → Int32 → Int32 → Option Int32
  | 0, _, _, _, _, _ => none
  | n + 1, x1, x2, x3, x4, x5 => if (7) ≤ x5 then (f_X0_wordThrough_36 σ x1 x2 x3 x4) else (bno (f_X0_hasTile σ (x4 - x3)) fun r1 => if (b2i r1) = 0 then (f_X0_wordThrough_36 σ x1 x2 x3 x4) else (f_X0_wordThrough_6 σ n x1 x2 x3 (x4 - x3) (x5 + 1)))
set_option maxHeartbeats 4000000 in
set_option maxRecDepth 100000 in
theorem v_X0_wordThrough_6 {l : Launch} {G : Gv} {ad : Nat → Nat} {d : Nat} {av0 : List Value} {w1 : va_W} {q : Int32} {σ : St} (hd : 2 ≤ d) : ∀ (n : Nat) (x1 : Int32) (x2 : Int32) (x3 : Int32) (x4 : Int32) (x5 : Int32), f_X0_wordThrough_6 σ n x1 x2 x3 x4 x5 = some q → VV l G yX0_wordThrough cX0_wordThrough 7 (some .int) d 0 0 av0 w1 (pD (some (.int q)) (wC G ad σ)) 0 0 (wC G ad σ) 6 [(0, .ref (ad 4)), (1, .int x1), (2, .int x2), (3, .int x3), (4, .int x4), (5, .int x5)] [] := by
  intro n
  induction n with
  | zero =>
    intro x1 x2 x3 x4 x5 hf
    cases hf
  | succ n ih =>
    intro x1 x2 x3 x4 x5 hf
    rw [f_X0_wordThrough_6] at hf
    refine V_iload 5 rfl dX0_wordThrough_6 ?_
    refine V_bipush 7 dX0_wordThrough_8 (by decide) ?_
    refine V_icmp_ge 36 dX0_wordThrough_10 (by decide) (fun c1 => ?_) (fun c1 => ?_)
    · replace hf := (if_pos c1).symm.trans hf
      refine V_lv [(0, .ref (ad 4)), (1, .int x1), (2, .int x2), (3, .int x3), (4, .int x4)] [0, 1, 2, 3, 4] rfl ?_
      exact v_X0_wordThrough_36 hd hf
    · replace hf := (if_neg c1).symm.trans hf
      refine V_aload_n 0 rfl dX0_wordThrough_13 rfl ?_
      refine V_iload 4 rfl dX0_wordThrough_14 ?_
      refine V_iload_n 3 rfl dX0_wordThrough_16 rfl ?_
      refine V_isub dX0_wordThrough_17 ?_
      obtain ⟨r1, hr1, hf⟩ := bno_some hf
      refine V_cV (As := [.int (x4 - x3)]) (rest := []) (k_X0_hasTile (d := 0) (Nat.le_refl _) hr1) LB_X0_hasTile lk_X0_24 (by omega) dX0_wordThrough_18 rfl rfl (Nat.le_of_ble_eq_true rfl) (Nat.le_refl _) (Nat.le_refl _) 4 rfl ⟨rfl, rfl⟩ [.int (b2i r1)] rfl ?_
      refine V_if_eq 36 dX0_wordThrough_21 (by decide) (fun c2 => ?_) (fun c2 => ?_)
      · replace hf := (if_pos c2).symm.trans hf
        refine V_lv [(0, .ref (ad 4)), (1, .int x1), (2, .int x2), (3, .int x3), (4, .int x4)] [0, 1, 2, 3, 4] rfl ?_
        exact v_X0_wordThrough_36 hd hf
      · replace hf := (if_neg c2).symm.trans hf
        refine V_iload 4 rfl dX0_wordThrough_24 ?_
        refine V_iload_n 3 rfl dX0_wordThrough_26 rfl ?_
        refine V_isub dX0_wordThrough_27 ?_
        refine V_istore [(0, .ref (ad 4)), (1, .int x1), (2, .int x2), (3, .int x3), (4, .int (x4 - x3)), (5, .int x5)] [1, 2, 3, 4, 0, 5] dX0_wordThrough_28 (by decide) rfl ?_
        refine V_iinc (1) 5 [(0, .ref (ad 4)), (1, .int x1), (2, .int x2), (3, .int x3), (4, .int (x4 - x3)), (5, .int (x5 + 1))] [1, 2, 3, 4, 5, 0] dX0_wordThrough_30 rfl (by decide) (by decide) rfl ?_
        refine V_goto 6 dX0_wordThrough_33 (by decide) ?_
        exact ih _ _ _ _ _ hf
def f_X0_wordThrough (σ : St) (x1 : Int32) (x2 : Int32) (x3 : Int32) : Option Int32 := f_X0_wordThrough_6 σ FU x1 x2 x3 x1 (0)
set_option maxHeartbeats 4000000 in
set_option maxRecDepth 100000 in
theorem v_X0_wordThrough {l : Launch} {G : Gv} {ad : Nat → Nat} {d : Nat} {av0 : List Value} {w1 : va_W} {q : Int32} {σ : St} {x1 : Int32} {x2 : Int32} {x3 : Int32} (hd : 2 ≤ d) (hf : f_X0_wordThrough σ x1 x2 x3 = some q) : VV l G yX0_wordThrough cX0_wordThrough 7 (some .int) d 0 0 av0 w1 (pD (some (.int q)) (wC G ad σ)) 0 0 (wC G ad σ) 0 [(0, .ref (ad 4)), (1, .int x1), (2, .int x2), (3, .int x3)] [] := by
  unfold f_X0_wordThrough at hf
  refine V_iload_n 1 rfl dX0_wordThrough_0 rfl ?_
  refine V_istore [(0, .ref (ad 4)), (1, .int x1), (2, .int x2), (3, .int x3), (4, .int x1)] [1, 2, 3, 4, 0] dX0_wordThrough_1 (by decide) rfl ?_
  refine V_iconst 0 dX0_wordThrough_3 (by decide) ?_
  refine V_istore [(0, .ref (ad 4)), (1, .int x1), (2, .int x2), (3, .int x3), (4, .int x1), (5, .int (0))] [1, 2, 3, 4, 5, 0] dX0_wordThrough_4 (by decide) rfl ?_
  exact v_X0_wordThrough_6 hd _ _ _ _ _ _ hf
theorem k_X0_wordThrough {l : Launch} {G : Gv} {ad : Nat → Nat} {d : Nat} {σ : St} {q : Int32} {x1 : Int32} {x2 : Int32} {x3 : Int32} (hd : 2 ≤ d) (hf : f_X0_wordThrough σ x1 x2 x3 = some q) : K l G yX0_wordThrough cX0_wordThrough 7 (some .int) d 0 0 [.ref (ad 4), .int x1, .int x2, .int x3] (wC G ad σ) (pD (some (.int q)) (wC G ad σ)) := K_intro (by decide) (Nat.le_of_ble_eq_true rfl) (v_X0_wordThrough hd hf)
