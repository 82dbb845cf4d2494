theorem kc_X10_105 : Cond.constantLong RX10 105 (4) ∈ tblG := tin 959 (by decide +kernel) (by decide +kernel)
theorem kc_X10_59 : Cond.constantLong RX10 59 (7) ∈ tblG := tin 908 (by decide +kernel) (by decide +kernel)
theorem kc_X10_65 : Cond.constantLong RX10 65 (6) ∈ tblG := tin 958 (by decide +kernel) (by decide +kernel)
theorem kc_X10_95 : Cond.constantLong RX10 95 (10) ∈ tblG := tin 948 (by decide +kernel) (by decide +kernel)
theorem kc_X10_97 : Cond.constantLong RX10 97 (-20) ∈ tblG := tin 949 (by decide +kernel) (by decide +kernel)
theorem kc_X10_99 : Cond.constantLong RX10 99 (20) ∈ tblG := tin 950 (by decide +kernel) (by decide +kernel)
theorem fl_X10_13 : Cond.fieldLink RX10 13 RX10 "saved" "[I" ∈ tblG := tin 822 (by decide +kernel) (by decide +kernel)
theorem fl_X10_16 : Cond.fieldLink RX10 16 RX10 "text" "[I" ∈ tblG := tin 825 (by decide +kernel) (by decide +kernel)
theorem fl_X10_19 : Cond.fieldLink RX10 19 RX10 "word" "[I" ∈ tblG := tin 827 (by decide +kernel) (by decide +kernel)
theorem fl_X10_52 : Cond.fieldLink RX10 52 RX10 "thrown" "I" ∈ tblG := tin 824 (by decide +kernel) (by decide +kernel)
theorem fl_X10_56 : Cond.fieldLink RX10 56 RX10 "savedMany" "I" ∈ tblG := tin 823 (by decide +kernel) (by decide +kernel)
theorem fl_X10_7 : Cond.fieldLink RX10 7 RX10 "all" "[I" ∈ tblG := tin 821 (by decide +kernel) (by decide +kernel)
theorem fl_X10_71 : Cond.fieldLink RX10 71 RX10 "textLong" "I" ∈ tblG := tin 826 (by decide +kernel) (by decide +kernel)
theorem fl_X10_78 : Cond.fieldLink RX10 78 RX10 "wordLong" "I" ∈ tblG := tin 828 (by decide +kernel) (by decide +kernel)
theorem LB_X10_isSquare : LB yX10_isSquare cX10_isSquare 2 (some .boolean) 2 := ⟨tin 957 (by decide +kernel) (by decide +kernel), tin 8 (by decide +kernel) (by decide +kernel), by decide, by decide, by decide, by decide +kernel⟩
theorem lk_X10_101 : Cond.methodLink RX10 101 yX10_isSquare ∈ tblG ∧ Cond.static yX10_isSquare ∈ tblG := ⟨tin 955 (by decide +kernel) (by decide +kernel), tin 956 (by decide +kernel) (by decide +kernel)⟩
theorem LB_X10_isPlayer : LB yX10_isPlayer cX10_isPlayer 1 (some .boolean) 1 := ⟨tin 966 (by decide +kernel) (by decide +kernel), tin 8 (by decide +kernel) (by decide +kernel), by decide, by decide, by decide, by decide +kernel⟩
theorem lk_X10_107 : Cond.methodLink RX10 107 yX10_isPlayer ∈ tblG ∧ Cond.static yX10_isPlayer ∈ tblG := ⟨tin 964 (by decide +kernel) (by decide +kernel), tin 965 (by decide +kernel) (by decide +kernel)⟩
theorem LB_X10_in : LB yX10_in cX10_in 6 (some .boolean) 3 := ⟨tin 911 (by decide +kernel) (by decide +kernel), tin 8 (by decide +kernel) (by decide +kernel), by decide, by decide, by decide, by decide +kernel⟩
theorem lk_X10_61 : Cond.methodLink RX10 61 yX10_in ∈ tblG ∧ Cond.static yX10_in ∈ tblG := ⟨tin 909 (by decide +kernel) (by decide +kernel), tin 910 (by decide +kernel) (by decide +kernel)⟩
theorem LB_X10_isLetter : LB yX10_isLetter cX10_isLetter 1 (some .boolean) 1 := ⟨tin 907 (by decide +kernel) (by decide +kernel), tin 8 (by decide +kernel) (by decide +kernel), by decide, by decide, by decide, by decide +kernel⟩
theorem lk_X10_67 : Cond.methodLink RX10 67 yX10_isLetter ∈ tblG ∧ Cond.static yX10_isLetter ∈ tblG := ⟨tin 905 (by decide +kernel) (by decide +kernel), tin 906 (by decide +kernel) (by decide +kernel)⟩
theorem LB_X10_goes : LB yX10_goes cX10_goes 4 (some .boolean) 3 := ⟨tin 915 (by decide +kernel) (by decide +kernel), tin 8 (by decide +kernel) (by decide +kernel), by decide, by decide, by decide, by decide +kernel⟩
theorem lk_X10_74 : Cond.methodLink RX10 74 yX10_goes ∈ tblG ∧ Cond.instanceMethod yX10_goes ∈ tblG ∧ Cond.selects yX10_goes.cls yX10_goes yX10_goes ∈ tblG := ⟨tin 912 (by decide +kernel) (by decide +kernel), tin 914 (by decide +kernel) (by decide +kernel), tsel (q := (yX10_goes, 25)) (List.mem_of_getElem? (i := 20) (by decide +kernel))⟩
theorem LB_X10_against : LB yX10_against cX10_against 5 (some .int) 1 := ⟨tin 939 (by decide +kernel) (by decide +kernel), tin 8 (by decide +kernel) (by decide +kernel), by decide, by decide, by decide, by decide +kernel⟩
theorem lk_X10_81 : Cond.methodLink RX10 81 yX10_against ∈ tblG ∧ Cond.instanceMethod yX10_against ∈ tblG ∧ Cond.selects yX10_against.cls yX10_against yX10_against ∈ tblG := ⟨tin 936 (by decide +kernel) (by decide +kernel), tin 938 (by decide +kernel) (by decide +kernel), tsel (q := (yX10_against, 25)) (List.mem_of_getElem? (i := 24) (by decide +kernel))⟩
theorem LB_X10_save : LB yX10_save cX10_save 2 none 0 := ⟨tin 927 (by decide +kernel) (by decide +kernel), tin 8 (by decide +kernel) (by decide +kernel), by decide, by decide, by decide, by decide +kernel⟩
theorem lk_X10_85 : Cond.methodLink RX10 85 yX10_save ∈ tblG ∧ Cond.instanceMethod yX10_save ∈ tblG ∧ Cond.selects yX10_save.cls yX10_save yX10_save ∈ tblG := ⟨tin 924 (by decide +kernel) (by decide +kernel), tin 926 (by decide +kernel) (by decide +kernel), tsel (q := (yX10_save, 25)) (List.mem_of_getElem? (i := 21) (by decide +kernel))⟩
theorem LB_X10_takesText : LB yX10_takesText cX10_takesText 2 none 0 := ⟨tin 931 (by decide +kernel) (by decide +kernel), tin 8 (by decide +kernel) (by decide +kernel), by decide, by decide, by decide, by decide +kernel⟩
theorem lk_X10_88 : Cond.methodLink RX10 88 yX10_takesText ∈ tblG ∧ Cond.instanceMethod yX10_takesText ∈ tblG ∧ Cond.selects yX10_takesText.cls yX10_takesText yX10_takesText ∈ tblG := ⟨tin 928 (by decide +kernel) (by decide +kernel), tin 930 (by decide +kernel) (by decide +kernel), tsel (q := (yX10_takesText, 25)) (List.mem_of_getElem? (i := 22) (by decide +kernel))⟩
theorem LB_X10_foundAt : LB yX10_foundAt cX10_foundAt 2 (some .int) 0 := ⟨tin 935 (by decide +kernel) (by decide +kernel), tin 8 (by decide +kernel) (by decide +kernel), by decide, by decide, by decide, by decide +kernel⟩
theorem lk_X10_91 : Cond.methodLink RX10 91 yX10_foundAt ∈ tblG ∧ Cond.instanceMethod yX10_foundAt ∈ tblG ∧ Cond.selects yX10_foundAt.cls yX10_foundAt yX10_foundAt ∈ tblG := ⟨tin 932 (by decide +kernel) (by decide +kernel), tin 934 (by decide +kernel) (by decide +kernel), tsel (q := (yX10_foundAt, 25)) (List.mem_of_getElem? (i := 23) (by decide +kernel))⟩
def f_X10_thrown (σ : St) : Option Int32 := some (gi σ 3)
set_option maxHeartbeats 4000000 in
set_option maxRecDepth 100000 in
theorem v_X10_thrown {l : Launch} {G : Gv} {ad : Nat → Nat} {d : Nat} {av0 : List Value} {w1 : va_W} {q : Int32} {σ : St} (hd : 0 ≤ d) (hf : f_X10_thrown σ = some q) : VV l G yX10_thrown cX10_thrown 1 (some .int) d 0 0 av0 w1 (pD (some (.int q)) (wM G ad σ)) 0 0 (wM G ad σ) 0 [(0, .ref (ad 0))] [] := by
  unfold f_X10_thrown at hf
  refine V_aload_n 0 rfl dX10_thrown_0 rfl ?_
  refine V_get (k := 3) RC_X10 fl_X10_52 rfl (by decide) dX10_thrown_1 0 rfl rfl ?_
  cases hf
  exact V_iret rfl dX10_thrown_4 ⟨rfl, rfl⟩
theorem k_X10_thrown {l : Launch} {G : Gv} {ad : Nat → Nat} {d : Nat} {σ : St} {q : Int32} (hd : 0 ≤ d) (hf : f_X10_thrown σ = some q) : K l G yX10_thrown cX10_thrown 1 (some .int) d 0 0 [.ref (ad 0)] (wM G ad σ) (pD (some (.int q)) (wM G ad σ)) := K_intro (by decide) (Nat.le_of_ble_eq_true rfl) (v_X10_thrown hd hf)
def f_X10_in (x0 : Int64) (x2 : Int64) (x4 : Int64) : Option Bool := if (lg_cmp x0 x2) < 0 then (some false) else (if 0 < (lg_cmp x0 x4) then (some false) else (some true))
set_option maxHeartbeats 4000000 in
set_option maxRecDepth 100000 in
theorem v_X10_in {l : Launch} {G : Gv} {d : Nat} {av0 : List Value} {w1 : va_W} {w0 : va_W} {q : Bool} {x0 : Int64} {x2 : Int64} {x4 : Int64} (hd : 0 ≤ d) (hf : f_X10_in x0 x2 x4 = some q) : VV l G yX10_in cX10_in 6 (some .boolean) d 0 0 av0 w1 (pD (some (.int (b2i q))) w0) 0 0 w0 0 [(0, .long x0), (2, .long x2), (4, .long x4)] [] := by
  unfold f_X10_in at hf
  refine V_lload_n 0 rfl dX10_in_0 rfl ?_
  refine V_lload_n 1 rfl dX10_in_1 rfl ?_
  refine V_lcmp dX10_in_2 ?_
  refine V_if_lt 17 dX10_in_3 (by decide) (fun c1 => ?_) (fun c1 => ?_)
  · replace hf := (if_pos c1).symm.trans hf
    refine V_iconst 0 dX10_in_17 (by decide) ?_
    cases hf
    exact V_zret (ty := .boolean) rfl rfl dX10_in_18 ⟨rfl, rfl⟩
  · replace hf := (if_neg c1).symm.trans hf
    refine V_lload_n 0 rfl dX10_in_6 rfl ?_
    refine V_lload 2 rfl dX10_in_7 ?_
    refine V_lcmp dX10_in_9 ?_
    refine V_if_gt 17 dX10_in_10 (by decide) (fun c2 => ?_) (fun c2 => ?_)
    · replace hf := (if_pos c2).symm.trans hf
      refine V_iconst 0 dX10_in_17 (by decide) ?_
      cases hf
      exact V_zret (ty := .boolean) rfl rfl dX10_in_18 ⟨rfl, rfl⟩
    · replace hf := (if_neg c2).symm.trans hf
      refine V_iconst 1 dX10_in_13 (by decide) ?_
      refine V_goto 18 dX10_in_14 (by decide) ?_
      cases hf
      exact V_zret (ty := .boolean) rfl rfl dX10_in_18 ⟨rfl, rfl⟩
theorem k_X10_in {l : Launch} {G : Gv} {d : Nat} {w0 : va_W} {q : Bool} {x0 : Int64} {x2 : Int64} {x4 : Int64} (hd : 0 ≤ d) (hf : f_X10_in x0 x2 x4 = some q) : K l G yX10_in cX10_in 6 (some .boolean) d 0 0 [.long x0, .long x2, .long x4] w0 (pD (some (.int (b2i q))) w0) := K_intro (by decide) (Nat.le_of_ble_eq_true rfl) (v_X10_in hd hf)
def f_X10_goes_26 (σ : St) (s1 : Int32) : Option (Bool × St) := lt (si σ 3 s1) fun σ1 => if (gi σ1 3) = 0 then (some (true, σ1)) else (some (false, σ1))
set_option maxHeartbeats 4000000 in
set_option maxRecDepth 100000 in
theorem v_X10_goes_26 {l : Launch} {G : Gv} {ad : Nat → Nat} {d : Nat} {av0 : List Value} {w1 : va_W} {q : (Bool × St)} {σ : St} {s1 : Int32} (hd : 0 ≤ d) (hf : f_X10_goes_26 σ s1 = some q) : VV l G yX10_goes cX10_goes 4 (some .boolean) d 0 0 av0 w1 (pD (some (.int (b2i q.1))) (wM G ad q.2)) 0 0 (wM G ad σ) 26 [(0, .ref (ad 0))] [.int s1, .ref (ad 0)] := by
  unfold f_X10_goes_26 at hf
  obtain ⟨σ1, eσ1, hf⟩ := lt_some hf
  refine V_put (k := 3) RC_X10 fl_X10_52 rfl (by decide) rfl dX10_goes_26 0 rfl (Nat.le_of_ble_eq_true rfl) rfl rfl (wM G ad σ1) (by rw [eσ1]; rfl) ?_
  refine V_aload_n 0 rfl dX10_goes_29 rfl ?_
  refine V_get (k := 3) RC_X10 fl_X10_52 rfl (by decide) dX10_goes_30 0 rfl rfl ?_
  refine V_if_ne 40 dX10_goes_33 (by decide) (fun c1 => ?_) (fun c1 => ?_)
  · replace hf := (if_neg c1).symm.trans hf
    refine V_iconst 0 dX10_goes_40 (by decide) ?_
    cases hf
    exact V_zret (ty := .boolean) rfl rfl dX10_goes_41 ⟨rfl, rfl⟩
  · replace hf := (if_pos c1).symm.trans hf
    refine V_iconst 1 dX10_goes_36 (by decide) ?_
    refine V_goto 41 dX10_goes_37 (by decide) ?_
    cases hf
    exact V_zret (ty := .boolean) rfl rfl dX10_goes_41 ⟨rfl, rfl⟩
def f_X10_goes (σ : St) (x1 : Int32) (x2 : Int32) (x3 : Int32) : Option (Bool × St) := if x1 = 0 then (f_X10_goes_26 σ (1)) else (if x2 = 0 then (f_X10_goes_26 σ (2)) else (if x3 = 0 then (f_X10_goes_26 σ (3)) else (f_X10_goes_26 σ (0))))
set_option maxHeartbeats 4000000 in
set_option maxRecDepth 100000 in
theorem v_X10_goes {l : Launch} {G : Gv} {ad : Nat → Nat} {d : Nat} {av0 : List Value} {w1 : va_W} {q : (Bool × St)} {σ : St} {x1 : Int32} {x2 : Int32} {x3 : Int32} (hd : 0 ≤ d) (hf : f_X10_goes σ x1 x2 x3 = some q) : VV l G yX10_goes cX10_goes 4 (some .boolean) d 0 0 av0 w1 (pD (some (.int (b2i q.1))) (wM G ad q.2)) 0 0 (wM G ad σ) 0 [(0, .ref (ad 0)), (1, .int x1), (2, .int x2), (3, .int x3)] [] := by
  unfold f_X10_goes at hf
  refine V_aload_n 0 rfl dX10_goes_0 rfl ?_
  refine V_iload_n 1 rfl dX10_goes_1 rfl ?_
  refine V_if_ne 9 dX10_goes_2 (by decide) (fun c1 => ?_) (fun c1 => ?_)
  · replace hf := (if_neg c1).symm.trans hf
    refine V_iload_n 2 rfl dX10_goes_9 rfl ?_
    refine V_if_ne 17 dX10_goes_10 (by decide) (fun c2 => ?_) (fun c2 => ?_)
    · replace hf := (if_neg c2).symm.trans hf
      refine V_iload_n 3 rfl dX10_goes_17 rfl ?_
      refine V_if_ne 25 dX10_goes_18 (by decide) (fun c3 => ?_) (fun c3 => ?_)
      · replace hf := (if_neg c3).symm.trans hf
        refine V_iconst 0 dX10_goes_25 (by decide) ?_
        refine V_lv [(0, .ref (ad 0))] [0] rfl ?_
        exact v_X10_goes_26 hd hf
      · replace hf := (if_pos c3).symm.trans hf
        refine V_iconst 3 dX10_goes_21 (by decide) ?_
        refine V_goto 26 dX10_goes_22 (by decide) ?_
        refine V_lv [(0, .ref (ad 0))] [0] rfl ?_
        exact v_X10_goes_26 hd hf
    · replace hf := (if_pos c2).symm.trans hf
      refine V_iconst 2 dX10_goes_13 (by decide) ?_
      refine V_goto 26 dX10_goes_14 (by decide) ?_
      refine V_lv [(0, .ref (ad 0))] [0] rfl ?_
      exact v_X10_goes_26 hd hf
  · replace hf := (if_pos c1).symm.trans hf
    refine V_iconst 1 dX10_goes_5 (by decide) ?_
    refine V_goto 26 dX10_goes_6 (by decide) ?_
    refine V_lv [(0, .ref (ad 0))] [0] rfl ?_
    exact v_X10_goes_26 hd hf
theorem k_X10_goes {l : Launch} {G : Gv} {ad : Nat → Nat} {d : Nat} {σ : St} {q : (Bool × St)} {x1 : Int32} {x2 : Int32} {x3 : Int32} (hd : 0 ≤ d) (hf : f_X10_goes σ x1 x2 x3 = some q) : K l G yX10_goes cX10_goes 4 (some .boolean) d 0 0 [.ref (ad 0), .int x1, .int x2, .int x3] (wM G ad σ) (pD (some (.int (b2i q.1))) (wM G ad q.2)) := K_intro (by decide) (Nat.le_of_ble_eq_true rfl) (v_X10_goes hd hf)
def f_X10_save_51 : Nat → St → Int32 → Option St
  | 0, _, _ => none
  | n + 1, σ, x1 => if (373) ≤ x1 then (lt (si σ 2 ((gi σ 2) + (1))) fun σ1 => some σ1) else (ixo x1 373 (ixo (((373) * (gi σ 2)) + x1) 1492 (lt (sa σ 1 (upd (ga σ 1) (Int32.toNatClampNeg (((373) * (gi σ 2)) + x1)) (ga σ 0 (Int32.toNatClampNeg x1)))) fun σ2 => f_X10_save_51 n σ2 (x1 + 1))))
set_option maxHeartbeats 4000000 in
set_option maxRecDepth 100000 in
theorem v_X10_save_51 {l : Launch} {G : Gv} {ad : Nat → Nat} {d : Nat} {av0 : List Value} {w1 : va_W} {q : St} (hd : 0 ≤ d) : ∀ (n : Nat) (σ : St) (x1 : Int32), f_X10_save_51 n σ x1 = some q → VV l G yX10_save cX10_save 2 none d 0 0 av0 w1 (pD none (wM G ad q)) 0 0 (wM G ad σ) 51 [(0, .ref (ad 0)), (1, .int x1)] [] := by
  intro n
  induction n with
  | zero =>
    intro σ x1 hf
    cases hf
  | succ n ih =>
    intro σ x1 hf
    rw [f_X10_save_51] at hf
    refine V_iload_n 1 rfl dX10_save_51 rfl ?_
    refine V_sipush 373 dX10_save_52 (by decide) ?_
    refine V_icmp_ge 85 dX10_save_55 (by decide) (fun c1 => ?_) (fun c1 => ?_)
    · replace hf := (if_pos c1).symm.trans hf
      refine V_aload_n 0 rfl dX10_save_85 rfl ?_
      refine V_dup rfl dX10_save_86 ?_
      refine V_get (k := 2) RC_X10 fl_X10_56 rfl (by decide) dX10_save_87 0 rfl rfl ?_
      refine V_iconst 1 dX10_save_90 (by decide) ?_
      refine V_iadd dX10_save_91 ?_
      obtain ⟨σ1, eσ1, hf⟩ := lt_some hf
      refine V_put (k := 2) RC_X10 fl_X10_56 rfl (by decide) rfl dX10_save_92 0 rfl (Nat.le_of_ble_eq_true rfl) rfl rfl (wM G ad σ1) (by rw [eσ1]; rfl) ?_
      cases hf
      exact V_vret rfl dX10_save_95 ⟨rfl, rfl⟩
    · replace hf := (if_neg c1).symm.trans hf
      refine V_aload_n 0 rfl dX10_save_58 rfl ?_
      refine V_get (k := 1) RC_X10 fl_X10_13 rfl (by decide) dX10_save_59 0 rfl rfl ?_
      refine V_sipush 373 dX10_save_62 (by decide) ?_
      refine V_aload_n 0 rfl dX10_save_65 rfl ?_
      refine V_get (k := 2) RC_X10 fl_X10_56 rfl (by decide) dX10_save_66 0 rfl rfl ?_
      refine V_imul dX10_save_69 ?_
      refine V_iload_n 1 rfl dX10_save_70 rfl ?_
      refine V_iadd dX10_save_71 ?_
      refine V_aload_n 0 rfl dX10_save_72 rfl ?_
      refine V_get (k := 0) RC_X10 fl_X10_7 rfl (by decide) dX10_save_73 0 rfl rfl ?_
      refine V_iload_n 1 rfl dX10_save_76 rfl ?_
      obtain ⟨hi, hf⟩ := ixo_some hf
      refine V_iaload dX10_save_77 1 rfl hi ?_
      obtain ⟨hi, hf⟩ := ixo_some hf
      obtain ⟨σ2, eσ2, hf⟩ := lt_some hf
      refine V_iastore dX10_save_78 2 rfl hi (wM G ad σ2) (by rw [eσ2]; rfl) ?_
      refine V_iinc (1) 1 [(0, .ref (ad 0)), (1, .int (x1 + 1))] [1, 0] dX10_save_79 rfl (by decide) (by decide) rfl ?_
      refine V_goto 51 dX10_save_82 (by decide) ?_
      exact ih _ _ hf
def f_X10_save_49 (σ : St) : Option St := f_X10_save_51 FU σ (0)
set_option maxHeartbeats 4000000 in
set_option maxRecDepth 100000 in
theorem v_X10_save_49 {l : Launch} {G : Gv} {ad : Nat → Nat} {d : Nat} {av0 : List Value} {w1 : va_W} {q : St} {σ : St} (hd : 0 ≤ d) (hf : f_X10_save_49 σ = some q) : VV l G yX10_save cX10_save 2 none d 0 0 av0 w1 (pD none (wM G ad q)) 0 0 (wM G ad σ) 49 [(0, .ref (ad 0))] [] := by
  unfold f_X10_save_49 at hf
  refine V_iconst 0 dX10_save_49 (by decide) ?_
  refine V_istore_n [(0, .ref (ad 0)), (1, .int (0))] [1, 0] dX10_save_50 rfl (by decide) rfl ?_
  exact v_X10_save_51 hd _ _ _ hf
def f_X10_save_10 : Nat → St → Int32 → Option St
  | 0, _, _ => none
  | n + 1, σ, x1 => if (1119) ≤ x1 then (lt (si σ 2 ((gi σ 2) - (1))) fun σ1 => f_X10_save_49 σ1) else (ixo (x1 + (373)) 1492 (ixo x1 1492 (lt (sa σ 1 (upd (ga σ 1) (Int32.toNatClampNeg x1) (ga σ 1 (Int32.toNatClampNeg (x1 + (373)))))) fun σ2 => f_X10_save_10 n σ2 (x1 + 1))))
set_option maxHeartbeats 4000000 in
set_option maxRecDepth 100000 in
theorem v_X10_save_10 {l : Launch} {G : Gv} {ad : Nat → Nat} {d : Nat} {av0 : List Value} {w1 : va_W} {q : St} (hd : 0 ≤ d) : ∀ (n : Nat) (σ : St) (x1 : Int32), f_X10_save_10 n σ x1 = some q → VV l G yX10_save cX10_save 2 none d 0 0 av0 w1 (pD none (wM G ad q)) 0 0 (wM G ad σ) 10 [(0, .ref (ad 0)), (1, .int x1)] [] := by
  intro n
  induction n with
  | zero =>
    intro σ x1 hf
    cases hf
  | succ n ih =>
    intro σ x1 hf
    rw [f_X10_save_10] at hf
    refine V_iload_n 1 rfl dX10_save_10 rfl ?_
    refine V_sipush 1119 dX10_save_11 (by decide) ?_
    refine V_icmp_ge 39 dX10_save_14 (by decide) (fun c1 => ?_) (fun c1 => ?_)
    · replace hf := (if_pos c1).symm.trans hf
      refine V_aload_n 0 rfl dX10_save_39 rfl ?_
      refine V_dup rfl dX10_save_40 ?_
      refine V_get (k := 2) RC_X10 fl_X10_56 rfl (by decide) dX10_save_41 0 rfl rfl ?_
      refine V_iconst 1 dX10_save_44 (by decide) ?_
      refine V_isub dX10_save_45 ?_
      obtain ⟨σ1, eσ1, hf⟩ := lt_some hf
      refine V_put (k := 2) RC_X10 fl_X10_56 rfl (by decide) rfl dX10_save_46 0 rfl (Nat.le_of_ble_eq_true rfl) rfl rfl (wM G ad σ1) (by rw [eσ1]; rfl) ?_
      refine V_lv [(0, .ref (ad 0))] [0] rfl ?_
      exact v_X10_save_49 hd hf
    · replace hf := (if_neg c1).symm.trans hf
      refine V_aload_n 0 rfl dX10_save_17 rfl ?_
      refine V_get (k := 1) RC_X10 fl_X10_13 rfl (by decide) dX10_save_18 0 rfl rfl ?_
      refine V_iload_n 1 rfl dX10_save_21 rfl ?_
      refine V_aload_n 0 rfl dX10_save_22 rfl ?_
      refine V_get (k := 1) RC_X10 fl_X10_13 rfl (by decide) dX10_save_23 0 rfl rfl ?_
      refine V_iload_n 1 rfl dX10_save_26 rfl ?_
      refine V_sipush 373 dX10_save_27 (by decide) ?_
      refine V_iadd dX10_save_30 ?_
      obtain ⟨hi, hf⟩ := ixo_some hf
      refine V_iaload dX10_save_31 2 rfl hi ?_
      obtain ⟨hi, hf⟩ := ixo_some hf
      obtain ⟨σ2, eσ2, hf⟩ := lt_some hf
      refine V_iastore dX10_save_32 2 rfl hi (wM G ad σ2) (by rw [eσ2]; rfl) ?_
      refine V_iinc (1) 1 [(0, .ref (ad 0)), (1, .int (x1 + 1))] [1, 0] dX10_save_33 rfl (by decide) (by decide) rfl ?_
      refine V_goto 10 dX10_save_36 (by decide) ?_
      exact ih _ _ hf
def f_X10_save (σ : St) : Option St := if (gi σ 2) = (4) then (f_X10_save_10 FU σ (0)) else (f_X10_save_49 σ)
set_option maxHeartbeats 4000000 in
set_option maxRecDepth 100000 in
theorem v_X10_save {l : Launch} {G : Gv} {ad : Nat → Nat} {d : Nat} {av0 : List Value} {w1 : va_W} {q : St} {σ : St} (hd : 0 ≤ d) (hf : f_X10_save σ = some q) : VV l G yX10_save cX10_save 2 none d 0 0 av0 w1 (pD none (wM G ad q)) 0 0 (wM G ad σ) 0 [(0, .ref (ad 0))] [] := by
  unfold f_X10_save at hf
  refine V_aload_n 0 rfl dX10_save_0 rfl ?_
  refine V_get (k := 2) RC_X10 fl_X10_56 rfl (by decide) dX10_save_1 0 rfl rfl ?_
  refine V_iconst 4 dX10_save_4 (by decide) ?_
  refine V_icmp_ne 49 dX10_save_5 (by decide) (fun c1 => ?_) (fun c1 => ?_)
  · replace hf := (if_neg c1).symm.trans hf
    exact v_X10_save_49 hd hf
  · replace hf := (if_pos c1).symm.trans hf
    refine V_iconst 0 dX10_save_8 (by decide) ?_
    refine V_istore_n [(0, .ref (ad 0)), (1, .int (0))] [1, 0] dX10_save_9 rfl (by decide) rfl ?_
    exact v_X10_save_10 hd _ _ _ hf
theorem k_X10_save {l : Launch} {G : Gv} {ad : Nat → Nat} {d : Nat} {σ : St} {q : St} (hd : 0 ≤ d) (hf : f_X10_save σ = some q) : K l G yX10_save cX10_save 2 none d 0 0 [.ref (ad 0)] (wM G ad σ) (pD none (wM G ad q)) := K_intro (by decide) (Nat.le_of_ble_eq_true rfl) (v_X10_save hd hf)
def f_X10_isLetter (x0 : Int32) : Option Bool := bno (f_X10_in (Int32.toInt64 x0) (0) (7)) fun r1 => some r1
set_option maxHeartbeats 4000000 in
set_option maxRecDepth 100000 in
theorem v_X10_isLetter {l : Launch} {G : Gv} {d : Nat} {av0 : List Value} {w1 : va_W} {w0 : va_W} {q : Bool} {x0 : Int32} (hd : 1 ≤ d) (hf : f_X10_isLetter x0 = some q) : VV l G yX10_isLetter cX10_isLetter 1 (some .boolean) d 0 0 av0 w1 (pD (some (.int (b2i q))) w0) 0 0 w0 0 [(0, .int x0)] [] := by
  unfold f_X10_isLetter at hf
  refine V_iload_n 0 rfl dX10_isLetter_0 rfl ?_
  refine V_i2l dX10_isLetter_1 ?_
  refine V_lconst 0 dX10_isLetter_2 (by decide) ?_
  refine V_ldc2 (7) kc_X10_59 dX10_isLetter_3 ?_
  obtain ⟨r1, hr1, hf⟩ := bno_some hf
  refine V_cS (As := [.long (Int32.toInt64 x0), .long (0), .long (7)]) (rest := []) (k_X10_in (d := 0) (Nat.le_refl _) hr1) LB_X10_in lk_X10_61 (by omega) dX10_isLetter_6 rfl rfl (Nat.le_of_ble_eq_true rfl) (Nat.le_refl _) (Nat.le_refl _) [.int (b2i r1)] rfl ?_
  cases hf
  exact V_zret (ty := .boolean) rfl (narrow_b2i _) dX10_isLetter_9 ⟨rfl, rfl⟩
theorem k_X10_isLetter {l : Launch} {G : Gv} {d : Nat} {w0 : va_W} {q : Bool} {x0 : Int32} (hd : 1 ≤ d) (hf : f_X10_isLetter x0 = some q) : K l G yX10_isLetter cX10_isLetter 1 (some .boolean) d 0 0 [.int x0] w0 (pD (some (.int (b2i q))) w0) := K_intro (by decide) (Nat.le_of_ble_eq_true rfl) (v_X10_isLetter hd hf)
def f_X10_isSquare (x0 : Int32) (x1 : Int32) : Option Bool := bno (f_X10_in (Int32.toInt64 x0) (0) (6)) fun r1 => if (b2i r1) = 0 then (some false) else (bno (f_X10_in (Int32.toInt64 x1) (0) (6)) fun r2 => if (b2i r2) = 0 then (some false) else (some true))
set_option maxHeartbeats 4000000 in
set_option maxRecDepth 100000 in
theorem v_X10_isSquare {l : Launch} {G : Gv} {d : Nat} {av0 : List Value} {w1 : va_W} {w0 : va_W} {q : Bool} {x0 : Int32} {x1 : Int32} (hd : 1 ≤ d) (hf : f_X10_isSquare x0 x1 = some q) : VV l G yX10_isSquare cX10_isSquare 2 (some .boolean) d 0 0 av0 w1 (pD (some (.int (b2i q))) w0) 0 0 w0 0 [(0, .int x0), (1, .int x1)] [] := by
  unfold f_X10_isSquare at hf
  refine V_iload_n 0 rfl dX10_isSquare_0 rfl ?_
  refine V_i2l dX10_isSquare_1 ?_
  refine V_lconst 0 dX10_isSquare_2 (by decide) ?_
  refine V_ldc2 (6) kc_X10_65 dX10_isSquare_3 ?_
  obtain ⟨r1, hr1, hf⟩ := bno_some hf
  refine V_cS (As := [.long (Int32.toInt64 x0), .long (0), .long (6)]) (rest := []) (k_X10_in (d := 0) (Nat.le_refl _) hr1) LB_X10_in lk_X10_61 (by omega) dX10_isSquare_6 rfl rfl (Nat.le_of_ble_eq_true rfl) (Nat.le_refl _) (Nat.le_refl _) [.int (b2i r1)] rfl ?_
  refine V_if_eq 28 dX10_isSquare_9 (by decide) (fun c1 => ?_) (fun c1 => ?_)
  · replace hf := (if_pos c1).symm.trans hf
    refine V_iconst 0 dX10_isSquare_28 (by decide) ?_
    cases hf
    exact V_zret (ty := .boolean) rfl rfl dX10_isSquare_29 ⟨rfl, rfl⟩
  · replace hf := (if_neg c1).symm.trans hf
    refine V_iload_n 1 rfl dX10_isSquare_12 rfl ?_
    refine V_i2l dX10_isSquare_13 ?_
    refine V_lconst 0 dX10_isSquare_14 (by decide) ?_
    refine V_ldc2 (6) kc_X10_65 dX10_isSquare_15 ?_
    obtain ⟨r2, hr2, hf⟩ := bno_some hf
    refine V_cS (As := [.long (Int32.toInt64 x1), .long (0), .long (6)]) (rest := []) (k_X10_in (d := 0) (Nat.le_refl _) hr2) LB_X10_in lk_X10_61 (by omega) dX10_isSquare_18 rfl rfl (Nat.le_of_ble_eq_true rfl) (Nat.le_refl _) (Nat.le_refl _) [.int (b2i r2)] rfl ?_
    refine V_if_eq 28 dX10_isSquare_21 (by decide) (fun c2 => ?_) (fun c2 => ?_)
    · replace hf := (if_pos c2).symm.trans hf
      refine V_iconst 0 dX10_isSquare_28 (by decide) ?_
      cases hf
      exact V_zret (ty := .boolean) rfl rfl dX10_isSquare_29 ⟨rfl, rfl⟩
    · replace hf := (if_neg c2).symm.trans hf
      refine V_iconst 1 dX10_isSquare_24 (by decide) ?_
      refine V_goto 29 dX10_isSquare_25 (by decide) ?_
      cases hf
      exact V_zret (ty := .boolean) rfl rfl dX10_isSquare_29 ⟨rfl, rfl⟩
theorem k_X10_isSquare {l : Launch} {G : Gv} {d : Nat} {w0 : va_W} {q : Bool} {x0 : Int32} {x1 : Int32} (hd : 1 ≤ d) (hf : f_X10_isSquare x0 x1 = some q) : K l G yX10_isSquare cX10_isSquare 2 (some .boolean) d 0 0 [.int x0, .int x1] w0 (pD (some (.int (b2i q))) w0) := K_intro (by decide) (Nat.le_of_ble_eq_true rfl) (v_X10_isSquare hd hf)
def f_X10_isPlayer (x0 : Int32) : Option Bool := bno (f_X10_in (Int32.toInt64 x0) (0) (1)) fun r1 => some r1
set_option maxHeartbeats 4000000 in
set_option maxRecDepth 100000 in
theorem v_X10_isPlayer {l : Launch} {G : Gv} {d : Nat} {av0 : List Value} {w1 : va_W} {w0 : va_W} {q : Bool} {x0 : Int32} (hd : 1 ≤ d) (hf : f_X10_isPlayer x0 = some q) : VV l G yX10_isPlayer cX10_isPlayer 1 (some .boolean) d 0 0 av0 w1 (pD (some (.int (b2i q))) w0) 0 0 w0 0 [(0, .int x0)] [] := by
  unfold f_X10_isPlayer at hf
  refine V_iload_n 0 rfl dX10_isPlayer_0 rfl ?_
  refine V_i2l dX10_isPlayer_1 ?_
  refine V_lconst 0 dX10_isPlayer_2 (by decide) ?_
  refine V_lconst 1 dX10_isPlayer_3 (by decide) ?_
  obtain ⟨r1, hr1, hf⟩ := bno_some hf
  refine V_cS (As := [.long (Int32.toInt64 x0), .long (0), .long (1)]) (rest := []) (k_X10_in (d := 0) (Nat.le_refl _) hr1) LB_X10_in lk_X10_61 (by omega) dX10_isPlayer_4 rfl rfl (Nat.le_of_ble_eq_true rfl) (Nat.le_refl _) (Nat.le_refl _) [.int (b2i r1)] rfl ?_
  cases hf
  exact V_zret (ty := .boolean) rfl (narrow_b2i _) dX10_isPlayer_7 ⟨rfl, rfl⟩
theorem k_X10_isPlayer {l : Launch} {G : Gv} {d : Nat} {w0 : va_W} {q : Bool} {x0 : Int32} (hd : 1 ≤ d) (hf : f_X10_isPlayer x0 = some q) : K l G yX10_isPlayer cX10_isPlayer 1 (some .boolean) d 0 0 [.int x0] w0 (pD (some (.int (b2i q))) w0) := K_intro (by decide) (Nat.le_of_ble_eq_true rfl) (v_X10_isPlayer hd hf)
def f_X10_type_19 (σ : St) (x1 : Int32) (s1 : Int32) (s2 : Int32) : Option (Int32 × St) := bno (f_X10_goes σ s1 s2 (1)) fun r1 => if (b2i r1.1) = 0 then (some ((0), r1.2)) else (ixo (gi r1.2 5) 7 (lt (sa r1.2 4 (upd (ga r1.2 4) (Int32.toNatClampNeg (gi r1.2 5)) x1)) fun σ1 => lt (si σ1 5 ((gi σ1 5) + (1))) fun σ2 => some ((gi σ2 5), σ2)))
set_option maxHeartbeats 4000000 in
set_option maxRecDepth 100000 in
theorem v_X10_type_19 {l : Launch} {G : Gv} {ad : Nat → Nat} {d : Nat} {av0 : List Value} {w1 : va_W} {q : (Int32 × St)} {σ : St} {x1 : Int32} {s1 : Int32} {s2 : Int32} (hd : 2 ≤ d) (hf : f_X10_type_19 σ x1 s1 s2 = some q) : VV l G yX10_type cX10_type 2 (some .int) d 0 0 av0 w1 (pD (some (.int q.1)) (wM G ad q.2)) 0 0 (wM G ad σ) 19 [(0, .ref (ad 0)), (1, .int x1)] [.int s2, .int s1, .ref (ad 0)] := by
  unfold f_X10_type_19 at hf
  refine V_iconst 1 dX10_type_19 (by decide) ?_
  obtain ⟨r1, hr1, hf⟩ := bno_some hf
  refine V_cV (As := [.int s1, .int s2, .int (1)]) (rest := []) (k_X10_goes (d := 0) (Nat.le_refl _) hr1) LB_X10_goes lk_X10_74 (by omega) dX10_type_20 rfl rfl (Nat.le_of_ble_eq_true rfl) (Nat.le_refl _) (Nat.le_refl _) 0 rfl ⟨rfl, rfl⟩ [.int (b2i r1.1)] rfl ?_
  refine V_if_ne 28 dX10_type_23 (by decide) (fun c1 => ?_) (fun c1 => ?_)
  · replace hf := (if_neg c1).symm.trans hf
    refine V_aload_n 0 rfl dX10_type_28 rfl ?_
    refine V_get (k := 4) RC_X10 fl_X10_16 rfl (by decide) dX10_type_29 0 rfl rfl ?_
    refine V_aload_n 0 rfl dX10_type_32 rfl ?_
    refine V_get (k := 5) RC_X10 fl_X10_71 rfl (by decide) dX10_type_33 0 rfl rfl ?_
    refine V_iload_n 1 rfl dX10_type_36 rfl ?_
    obtain ⟨hi, hf⟩ := ixo_some hf
    obtain ⟨σ1, eσ1, hf⟩ := lt_some hf
    refine V_iastore dX10_type_37 3 rfl hi (wM G ad σ1) (by rw [eσ1]; rfl) ?_
    refine V_aload_n 0 rfl dX10_type_38 rfl ?_
    refine V_dup rfl dX10_type_39 ?_
    refine V_get (k := 5) RC_X10 fl_X10_71 rfl (by decide) dX10_type_40 0 rfl rfl ?_
    refine V_iconst 1 dX10_type_43 (by decide) ?_
    refine V_iadd dX10_type_44 ?_
    obtain ⟨σ2, eσ2, hf⟩ := lt_some hf
    refine V_put (k := 5) RC_X10 fl_X10_71 rfl (by decide) rfl dX10_type_45 0 rfl (Nat.le_of_ble_eq_true rfl) rfl rfl (wM G ad σ2) (by rw [eσ2]; rfl) ?_
    refine V_aload_n 0 rfl dX10_type_48 rfl ?_
    refine V_get (k := 5) RC_X10 fl_X10_71 rfl (by decide) dX10_type_49 0 rfl rfl ?_
    cases hf
    exact V_iret rfl dX10_type_52 ⟨rfl, rfl⟩
  · replace hf := (if_pos c1).symm.trans hf
    refine V_iconst 0 dX10_type_26 (by decide) ?_
    cases hf
    exact V_iret rfl dX10_type_27 ⟨rfl, rfl⟩
def f_X10_type (σ : St) (x1 : Int32) : Option (Int32 × St) := bno (f_X10_isLetter x1) fun r1 => if (7) ≤ (gi σ 5) then (f_X10_type_19 σ x1 (b2i r1) (0)) else (f_X10_type_19 σ x1 (b2i r1) (1))
set_option maxHeartbeats 4000000 in
set_option maxRecDepth 100000 in
theorem v_X10_type {l : Launch} {G : Gv} {ad : Nat → Nat} {d : Nat} {av0 : List Value} {w1 : va_W} {q : (Int32 × St)} {σ : St} {x1 : Int32} (hd : 2 ≤ d) (hf : f_X10_type σ x1 = some q) : VV l G yX10_type cX10_type 2 (some .int) d 0 0 av0 w1 (pD (some (.int q.1)) (wM G ad q.2)) 0 0 (wM G ad σ) 0 [(0, .ref (ad 0)), (1, .int x1)] [] := by
  unfold f_X10_type at hf
  refine V_aload_n 0 rfl dX10_type_0 rfl ?_
  refine V_iload_n 1 rfl dX10_type_1 rfl ?_
  obtain ⟨r1, hr1, hf⟩ := bno_some hf
  refine V_cS (As := [.int x1]) (rest := [.ref (ad 0)]) (k_X10_isLetter (d := 1) (Nat.le_refl _) hr1) LB_X10_isLetter lk_X10_67 (by omega) dX10_type_2 rfl rfl (Nat.le_of_ble_eq_true rfl) (Nat.le_refl _) (Nat.le_refl _) [.int (b2i r1), .ref (ad 0)] rfl ?_
  refine V_aload_n 0 rfl dX10_type_5 rfl ?_
  refine V_get (k := 5) RC_X10 fl_X10_71 rfl (by decide) dX10_type_6 0 rfl rfl ?_
  refine V_bipush 7 dX10_type_9 (by decide) ?_
  refine V_icmp_ge 18 dX10_type_11 (by decide) (fun c1 => ?_) (fun c1 => ?_)
  · replace hf := (if_pos c1).symm.trans hf
    refine V_iconst 0 dX10_type_18 (by decide) ?_
    exact v_X10_type_19 hd hf
  · replace hf := (if_neg c1).symm.trans hf
    refine V_iconst 1 dX10_type_14 (by decide) ?_
    refine V_goto 19 dX10_type_15 (by decide) ?_
    exact v_X10_type_19 hd hf
theorem k_X10_type {l : Launch} {G : Gv} {ad : Nat → Nat} {d : Nat} {σ : St} {q : (Int32 × St)} {x1 : Int32} (hd : 2 ≤ d) (hf : f_X10_type σ x1 = some q) : K l G yX10_type cX10_type 2 (some .int) d 0 0 [.ref (ad 0), .int x1] (wM G ad σ) (pD (some (.int q.1)) (wM G ad q.2)) := K_intro (by decide) (Nat.le_of_ble_eq_true rfl) (v_X10_type hd hf)
def f_X10_clearText (σ : St) : Option (Int32 × St) := lt (si σ 3 (0)) fun σ1 => lt (si σ1 5 (0)) fun σ2 => some ((gi σ1 5), σ2)
set_option maxHeartbeats 4000000 in
set_option maxRecDepth 100000 in
theorem v_X10_clearText {l : Launch} {G : Gv} {ad : Nat → Nat} {d : Nat} {av0 : List Value} {w1 : va_W} {q : (Int32 × St)} {σ : St} (hd : 0 ≤ d) (hf : f_X10_clearText σ = some q) : VV l G yX10_clearText cX10_clearText 2 (some .int) d 0 0 av0 w1 (pD (some (.int q.1)) (wM G ad q.2)) 0 0 (wM G ad σ) 0 [(0, .ref (ad 0))] [] := by
  unfold f_X10_clearText at hf
  refine V_aload_n 0 rfl dX10_clearText_0 rfl ?_
  refine V_iconst 0 dX10_clearText_1 (by decide) ?_
  obtain ⟨σ1, eσ1, hf⟩ := lt_some hf
  refine V_put (k := 3) RC_X10 fl_X10_52 rfl (by decide) rfl dX10_clearText_2 0 rfl (Nat.le_of_ble_eq_true rfl) rfl rfl (wM G ad σ1) (by rw [eσ1]; rfl) ?_
  refine V_aload_n 0 rfl dX10_clearText_5 rfl ?_
  refine V_get (k := 5) RC_X10 fl_X10_71 rfl (by decide) dX10_clearText_6 0 rfl rfl ?_
  refine V_istore_n [(0, .ref (ad 0)), (1, .int (gi σ1 5))] [1, 0] dX10_clearText_9 rfl (by decide) rfl ?_
  refine V_aload_n 0 rfl dX10_clearText_10 rfl ?_
  refine V_iconst 0 dX10_clearText_11 (by decide) ?_
  obtain ⟨σ2, eσ2, hf⟩ := lt_some hf
  refine V_put (k := 5) RC_X10 fl_X10_71 rfl (by decide) rfl dX10_clearText_12 0 rfl (Nat.le_of_ble_eq_true rfl) rfl rfl (wM G ad σ2) (by rw [eσ2]; rfl) ?_
  refine V_iload_n 1 rfl dX10_clearText_15 rfl ?_
  cases hf
  exact V_iret rfl dX10_clearText_16 ⟨rfl, rfl⟩
theorem k_X10_clearText {l : Launch} {G : Gv} {ad : Nat → Nat} {d : Nat} {σ : St} {q : (Int32 × St)} (hd : 0 ≤ d) (hf : f_X10_clearText σ = some q) : K l G yX10_clearText cX10_clearText 2 (some .int) d 0 0 [.ref (ad 0)] (wM G ad σ) (pD (some (.int q.1)) (wM G ad q.2)) := K_intro (by decide) (Nat.le_of_ble_eq_true rfl) (v_X10_clearText hd hf)
def f_X10_takesText_10 : Nat → St → Int32 → Option St
  | 0, _, _ => none
  | n + 1, σ, x1 => if (gi σ 5) ≤ x1 then (some σ) else (ixo x1 7 (ixo x1 7 (lt (sa σ 6 (upd (ga σ 6) (Int32.toNatClampNeg x1) (ga σ 4 (Int32.toNatClampNeg x1)))) fun σ1 => f_X10_takesText_10 n σ1 (x1 + 1))))
set_option maxHeartbeats 4000000 in
set_option maxRecDepth 100000 in
theorem v_X10_takesText_10 {l : Launch} {G : Gv} {ad : Nat → Nat} {d : Nat} {av0 : List Value} {w1 : va_W} {q : St} (hd : 0 ≤ d) : ∀ (n : Nat) (σ : St) (x1 : Int32), f_X10_takesText_10 n σ x1 = some q → VV l G yX10_takesText cX10_takesText 2 none d 0 0 av0 w1 (pD none (wM G ad q)) 0 0 (wM G ad σ) 10 [(0, .ref (ad 0)), (1, .int x1)] [] := by
  intro n
  induction n with
  | zero =>
    intro σ x1 hf
    cases hf
  | succ n ih =>
    intro σ x1 hf
    rw [f_X10_takesText_10] at hf
    refine V_iload_n 1 rfl dX10_takesText_10 rfl ?_
    refine V_aload_n 0 rfl dX10_takesText_11 rfl ?_
    refine V_get (k := 5) RC_X10 fl_X10_71 rfl (by decide) dX10_takesText_12 0 rfl rfl ?_
    refine V_icmp_ge 36 dX10_takesText_15 (by decide) (fun c1 => ?_) (fun c1 => ?_)
    · replace hf := (if_pos c1).symm.trans hf
      cases hf
      exact V_vret rfl dX10_takesText_36 ⟨rfl, rfl⟩
    · replace hf := (if_neg c1).symm.trans hf
      refine V_aload_n 0 rfl dX10_takesText_18 rfl ?_
      refine V_get (k := 6) RC_X10 fl_X10_19 rfl (by decide) dX10_takesText_19 0 rfl rfl ?_
      refine V_iload_n 1 rfl dX10_takesText_22 rfl ?_
      refine V_aload_n 0 rfl dX10_takesText_23 rfl ?_
      refine V_get (k := 4) RC_X10 fl_X10_16 rfl (by decide) dX10_takesText_24 0 rfl rfl ?_
      refine V_iload_n 1 rfl dX10_takesText_27 rfl ?_
      obtain ⟨hi, hf⟩ := ixo_some hf
      refine V_iaload dX10_takesText_28 3 rfl hi ?_
      obtain ⟨hi, hf⟩ := ixo_some hf
      obtain ⟨σ1, eσ1, hf⟩ := lt_some hf
      refine V_iastore dX10_takesText_29 4 rfl hi (wM G ad σ1) (by rw [eσ1]; rfl) ?_
      refine V_iinc (1) 1 [(0, .ref (ad 0)), (1, .int (x1 + 1))] [1, 0] dX10_takesText_30 rfl (by decide) (by decide) rfl ?_
      refine V_goto 10 dX10_takesText_33 (by decide) ?_
      exact ih _ _ hf
def f_X10_takesText (σ : St) : Option St := lt (si σ 7 (gi σ 5)) fun σ1 => f_X10_takesText_10 FU σ1 (0)
set_option maxHeartbeats 4000000 in
set_option maxRecDepth 100000 in
theorem v_X10_takesText {l : Launch} {G : Gv} {ad : Nat → Nat} {d : Nat} {av0 : List Value} {w1 : va_W} {q : St} {σ : St} (hd : 0 ≤ d) (hf : f_X10_takesText σ = some q) : VV l G yX10_takesText cX10_takesText 2 none d 0 0 av0 w1 (pD none (wM G ad q)) 0 0 (wM G ad σ) 0 [(0, .ref (ad 0))] [] := by
  unfold f_X10_takesText at hf
  refine V_aload_n 0 rfl dX10_takesText_0 rfl ?_
  refine V_aload_n 0 rfl dX10_takesText_1 rfl ?_
  refine V_get (k := 5) RC_X10 fl_X10_71 rfl (by decide) dX10_takesText_2 0 rfl rfl ?_
  obtain ⟨σ1, eσ1, hf⟩ := lt_some hf
  refine V_put (k := 7) RC_X10 fl_X10_78 rfl (by decide) rfl dX10_takesText_5 0 rfl (Nat.le_of_ble_eq_true rfl) rfl rfl (wM G ad σ1) (by rw [eσ1]; rfl) ?_
  refine V_iconst 0 dX10_takesText_8 (by decide) ?_
  refine V_istore_n [(0, .ref (ad 0)), (1, .int (0))] [1, 0] dX10_takesText_9 rfl (by decide) rfl ?_
  exact v_X10_takesText_10 hd _ _ _ hf
theorem k_X10_takesText {l : Launch} {G : Gv} {ad : Nat → Nat} {d : Nat} {σ : St} {q : St} (hd : 0 ≤ d) (hf : f_X10_takesText σ = some q) : K l G yX10_takesText cX10_takesText 2 none d 0 0 [.ref (ad 0)] (wM G ad σ) (pD none (wM G ad q)) := K_intro (by decide) (Nat.le_of_ble_eq_true rfl) (v_X10_takesText hd hf)
def f_X10_takesWord_18 : Nat → St → Int32 → Int32 → Option St
  | 0, _, _, _ => none
  | n + 1, σ, x1, x2 => if (gi σ 7) ≤ x2 then (some σ) else (ixo ((((17) + ((8) * x1)) + (1)) + x2) 373 (ixo x2 7 (lt (sa σ 6 (upd (ga σ 6) (Int32.toNatClampNeg x2) (ga σ 0 (Int32.toNatClampNeg ((((17) + ((8) * x1)) + (1)) + x2))))) fun σ1 => f_X10_takesWord_18 n σ1 x1 (x2 + 1))))
set_option maxHeartbeats 4000000 in
set_option maxRecDepth 100000 in
theorem v_X10_takesWord_18 {l : Launch} {G : Gv} {ad : Nat → Nat} {d : Nat} {av0 : List Value} {w1 : va_W} {q : St} (hd : 0 ≤ d) : ∀ (n : Nat) (σ : St) (x1 : Int32) (x2 : Int32), f_X10_takesWord_18 n σ x1 x2 = some q → VV l G yX10_takesWord cX10_takesWord 3 none d 0 0 av0 w1 (pD none (wM G ad q)) 0 0 (wM G ad σ) 18 [(0, .ref (ad 0)), (1, .int x1), (2, .int x2)] [] := by
  intro n
  induction n with
  | zero =>
    intro σ x1 x2 hf
    cases hf
  | succ n ih =>
    intro σ x1 x2 hf
    rw [f_X10_takesWord_18] at hf
    refine V_iload_n 2 rfl dX10_takesWord_18 rfl ?_
    refine V_aload_n 0 rfl dX10_takesWord_19 rfl ?_
    refine V_get (k := 7) RC_X10 fl_X10_78 rfl (by decide) dX10_takesWord_20 0 rfl rfl ?_
    refine V_icmp_ge 54 dX10_takesWord_23 (by decide) (fun c1 => ?_) (fun c1 => ?_)
    · replace hf := (if_pos c1).symm.trans hf
      cases hf
      exact V_vret rfl dX10_takesWord_54 ⟨rfl, rfl⟩
    · replace hf := (if_neg c1).symm.trans hf
      refine V_aload_n 0 rfl dX10_takesWord_26 rfl ?_
      refine V_get (k := 6) RC_X10 fl_X10_19 rfl (by decide) dX10_takesWord_27 0 rfl rfl ?_
      refine V_iload_n 2 rfl dX10_takesWord_30 rfl ?_
      refine V_aload_n 0 rfl dX10_takesWord_31 rfl ?_
      refine V_get (k := 0) RC_X10 fl_X10_7 rfl (by decide) dX10_takesWord_32 0 rfl rfl ?_
      refine V_bipush 17 dX10_takesWord_35 (by decide) ?_
      refine V_bipush 8 dX10_takesWord_37 (by decide) ?_
      refine V_iload_n 1 rfl dX10_takesWord_39 rfl ?_
      refine V_imul dX10_takesWord_40 ?_
      refine V_iadd dX10_takesWord_41 ?_
      refine V_iconst 1 dX10_takesWord_42 (by decide) ?_
      refine V_iadd dX10_takesWord_43 ?_
      refine V_iload_n 2 rfl dX10_takesWord_44 rfl ?_
      refine V_iadd dX10_takesWord_45 ?_
      obtain ⟨hi, hf⟩ := ixo_some hf
      refine V_iaload dX10_takesWord_46 1 rfl hi ?_
      obtain ⟨hi, hf⟩ := ixo_some hf
      obtain ⟨σ1, eσ1, hf⟩ := lt_some hf
      refine V_iastore dX10_takesWord_47 4 rfl hi (wM G ad σ1) (by rw [eσ1]; rfl) ?_
      refine V_iinc (1) 2 [(0, .ref (ad 0)), (1, .int x1), (2, .int (x2 + 1))] [1, 2, 0] dX10_takesWord_48 rfl (by decide) (by decide) rfl ?_
      refine V_goto 18 dX10_takesWord_51 (by decide) ?_
      exact ih _ _ _ hf
def f_X10_takesWord (σ : St) (x1 : Int32) : Option St := ixo ((17) + ((8) * x1)) 373 (lt (si σ 7 (ga σ 0 (Int32.toNatClampNeg ((17) + ((8) * x1))))) fun σ1 => f_X10_takesWord_18 FU σ1 x1 (0))
set_option maxHeartbeats 4000000 in
set_option maxRecDepth 100000 in
theorem v_X10_takesWord {l : Launch} {G : Gv} {ad : Nat → Nat} {d : Nat} {av0 : List Value} {w1 : va_W} {q : St} {σ : St} {x1 : Int32} (hd : 0 ≤ d) (hf : f_X10_takesWord σ x1 = some q) : VV l G yX10_takesWord cX10_takesWord 3 none d 0 0 av0 w1 (pD none (wM G ad q)) 0 0 (wM G ad σ) 0 [(0, .ref (ad 0)), (1, .int x1)] [] := by
  unfold f_X10_takesWord at hf
  refine V_aload_n 0 rfl dX10_takesWord_0 rfl ?_
  refine V_aload_n 0 rfl dX10_takesWord_1 rfl ?_
  refine V_get (k := 0) RC_X10 fl_X10_7 rfl (by decide) dX10_takesWord_2 0 rfl rfl ?_
  refine V_bipush 17 dX10_takesWord_5 (by decide) ?_
  refine V_bipush 8 dX10_takesWord_7 (by decide) ?_
  refine V_iload_n 1 rfl dX10_takesWord_9 rfl ?_
  refine V_imul dX10_takesWord_10 ?_
  refine V_iadd dX10_takesWord_11 ?_
  obtain ⟨hi, hf⟩ := ixo_some hf
  refine V_iaload dX10_takesWord_12 1 rfl hi ?_
  obtain ⟨σ1, eσ1, hf⟩ := lt_some hf
  refine V_put (k := 7) RC_X10 fl_X10_78 rfl (by decide) rfl dX10_takesWord_13 0 rfl (Nat.le_of_ble_eq_true rfl) rfl rfl (wM G ad σ1) (by rw [eσ1]; rfl) ?_
  refine V_iconst 0 dX10_takesWord_16 (by decide) ?_
  refine V_istore_n [(0, .ref (ad 0)), (1, .int x1), (2, .int (0))] [1, 2, 0] dX10_takesWord_17 rfl (by decide) rfl ?_
  exact v_X10_takesWord_18 hd _ _ _ _ hf
theorem k_X10_takesWord {l : Launch} {G : Gv} {ad : Nat → Nat} {d : Nat} {σ : St} {q : St} {x1 : Int32} (hd : 0 ≤ d) (hf : f_X10_takesWord σ x1 = some q) : K l G yX10_takesWord cX10_takesWord 3 none d 0 0 [.ref (ad 0), .int x1] (wM G ad σ) (pD none (wM G ad q)) := K_intro (by decide) (Nat.le_of_ble_eq_true rfl) (v_X10_takesWord hd hf)
def f_X10_against_15 (σ : St) : Nat → Int32 → Int32 → Int32 → Option Int32
  | 0, _, _, _ => none
  | n + 1, x1, x2, x3 => if x2 ≤ x3 then (some (x2 - (gi σ 7))) else (if (gi σ 7) ≤ x3 then (some (x2 - (gi σ 7))) else (ixo ((((17) + ((8) * x1)) + (1)) + x3) 373 (ixo x3 7 (lt ((ga σ 0 (Int32.toNatClampNeg ((((17) + ((8) * x1)) + (1)) + x3))) - (ga σ 6 (Int32.toNatClampNeg x3))) fun t1 => if t1 = 0 then (f_X10_against_15 σ n x1 x2 (x3 + 1)) else (some t1)))))
set_option maxHeartbeats 4000000 in
set_option maxRecDepth 100000 in
theorem v_X10_against_15 {l : Launch} {G : Gv} {ad : Nat → Nat} {d : Nat} {av0 : List Value} {w1 : va_W} {q : Int32} {σ : St} (hd : 0 ≤ d) : ∀ (n : Nat) (x1 : Int32) (x2 : Int32) (x3 : Int32), f_X10_against_15 σ n x1 x2 x3 = some q → VV l G yX10_against cX10_against 5 (some .int) d 0 0 av0 w1 (pD (some (.int q)) (wM G ad σ)) 0 0 (wM G ad σ) 15 [(0, .ref (ad 0)), (1, .int x1), (2, .int x2), (3, .int x3)] [] := by
  intro n
  induction n with
  | zero =>
    intro x1 x2 x3 hf
    cases hf
  | succ n ih =>
    intro x1 x2 x3 hf
    rw [f_X10_against_15] at hf
    refine V_iload_n 3 rfl dX10_against_15 rfl ?_
    refine V_iload_n 2 rfl dX10_against_16 rfl ?_
    refine V_icmp_ge 67 dX10_against_17 (by decide) (fun c1 => ?_) (fun c1 => ?_)
    · replace hf := (if_pos c1).symm.trans hf
      refine V_iload_n 2 rfl dX10_against_67 rfl ?_
      refine V_aload_n 0 rfl dX10_against_68 rfl ?_
      refine V_get (k := 7) RC_X10 fl_X10_78 rfl (by decide) dX10_against_69 0 rfl rfl ?_
      refine V_isub dX10_against_72 ?_
      cases hf
      exact V_iret rfl dX10_against_73 ⟨rfl, rfl⟩
    · replace hf := (if_neg c1).symm.trans hf
      refine V_iload_n 3 rfl dX10_against_20 rfl ?_
      refine V_aload_n 0 rfl dX10_against_21 rfl ?_
      refine V_get (k := 7) RC_X10 fl_X10_78 rfl (by decide) dX10_against_22 0 rfl rfl ?_
      refine V_icmp_ge 67 dX10_against_25 (by decide) (fun c2 => ?_) (fun c2 => ?_)
      · replace hf := (if_pos c2).symm.trans hf
        refine V_iload_n 2 rfl dX10_against_67 rfl ?_
        refine V_aload_n 0 rfl dX10_against_68 rfl ?_
        refine V_get (k := 7) RC_X10 fl_X10_78 rfl (by decide) dX10_against_69 0 rfl rfl ?_
        refine V_isub dX10_against_72 ?_
        cases hf
        exact V_iret rfl dX10_against_73 ⟨rfl, rfl⟩
      · replace hf := (if_neg c2).symm.trans hf
        refine V_aload_n 0 rfl dX10_against_28 rfl ?_
        refine V_get (k := 0) RC_X10 fl_X10_7 rfl (by decide) dX10_against_29 0 rfl rfl ?_
        refine V_bipush 17 dX10_against_32 (by decide) ?_
        refine V_bipush 8 dX10_against_34 (by decide) ?_
        refine V_iload_n 1 rfl dX10_against_36 rfl ?_
        refine V_imul dX10_against_37 ?_
        refine V_iadd dX10_against_38 ?_
        refine V_iconst 1 dX10_against_39 (by decide) ?_
        refine V_iadd dX10_against_40 ?_
        refine V_iload_n 3 rfl dX10_against_41 rfl ?_
        refine V_iadd dX10_against_42 ?_
        obtain ⟨hi, hf⟩ := ixo_some hf
        refine V_iaload dX10_against_43 1 rfl hi ?_
        refine V_aload_n 0 rfl dX10_against_44 rfl ?_
        refine V_get (k := 6) RC_X10 fl_X10_19 rfl (by decide) dX10_against_45 0 rfl rfl ?_
        refine V_iload_n 3 rfl dX10_against_48 rfl ?_
        obtain ⟨hi, hf⟩ := ixo_some hf
        refine V_iaload dX10_against_49 4 rfl hi ?_
        refine V_isub dX10_against_50 ?_
        obtain ⟨t1, et1, hf⟩ := lt_some hf
        refine V_topi et1 ?_
        refine V_istore [(0, .ref (ad 0)), (1, .int x1), (2, .int x2), (3, .int x3), (4, .int t1)] [1, 2, 3, 4, 0] dX10_against_51 (by decide) rfl ?_
        refine V_iload 4 rfl dX10_against_53 ?_
        refine V_if_eq 61 dX10_against_55 (by decide) (fun c3 => ?_) (fun c3 => ?_)
        · replace hf := (if_pos c3).symm.trans hf
          refine V_iinc (1) 3 [(0, .ref (ad 0)), (1, .int x1), (2, .int x2), (3, .int (x3 + 1)), (4, .int t1)] [1, 2, 3, 0, 4] dX10_against_61 rfl (by decide) (by decide) rfl ?_
          refine V_goto 15 dX10_against_64 (by decide) ?_
          refine V_lv [(0, .ref (ad 0)), (1, .int x1), (2, .int x2), (3, .int (x3 + 1))] [0, 1, 2, 3] rfl ?_
          exact ih _ _ _ hf
        · replace hf := (if_neg c3).symm.trans hf
          refine V_iload 4 rfl dX10_against_58 ?_
          cases hf
          exact V_iret rfl dX10_against_60 ⟨rfl, rfl⟩
def f_X10_against (σ : St) (x1 : Int32) : Option Int32 := ixo ((17) + ((8) * x1)) 373 (lt (ga σ 0 (Int32.toNatClampNeg ((17) + ((8) * x1)))) fun t1 => f_X10_against_15 σ FU x1 t1 (0))
set_option maxHeartbeats 4000000 in
set_option maxRecDepth 100000 in
theorem v_X10_against {l : Launch} {G : Gv} {ad : Nat → Nat} {d : Nat} {av0 : List Value} {w1 : va_W} {q : Int32} {σ : St} {x1 : Int32} (hd : 0 ≤ d) (hf : f_X10_against σ x1 = some q) : VV l G yX10_against cX10_against 5 (some .int) d 0 0 av0 w1 (pD (some (.int q)) (wM G ad σ)) 0 0 (wM G ad σ) 0 [(0, .ref (ad 0)), (1, .int x1)] [] := by
  unfold f_X10_against at hf
  refine V_aload_n 0 rfl dX10_against_0 rfl ?_
  refine V_get (k := 0) RC_X10 fl_X10_7 rfl (by decide) dX10_against_1 0 rfl rfl ?_
  refine V_bipush 17 dX10_against_4 (by decide) ?_
  refine V_bipush 8 dX10_against_6 (by decide) ?_
  refine V_iload_n 1 rfl dX10_against_8 rfl ?_
  refine V_imul dX10_against_9 ?_
  refine V_iadd dX10_against_10 ?_
  obtain ⟨hi, hf⟩ := ixo_some hf
  refine V_iaload dX10_against_11 1 rfl hi ?_
  obtain ⟨t1, et1, hf⟩ := lt_some hf
  refine V_topi et1 ?_
  refine V_istore_n [(0, .ref (ad 0)), (1, .int x1), (2, .int t1)] [1, 2, 0] dX10_against_12 rfl (by decide) rfl ?_
  refine V_iconst 0 dX10_against_13 (by decide) ?_
  refine V_istore_n [(0, .ref (ad 0)), (1, .int x1), (2, .int t1), (3, .int (0))] [1, 2, 3, 0] dX10_against_14 rfl (by decide) rfl ?_
  exact v_X10_against_15 hd _ _ _ _ hf
theorem k_X10_against {l : Launch} {G : Gv} {ad : Nat → Nat} {d : Nat} {σ : St} {q : Int32} {x1 : Int32} (hd : 0 ≤ d) (hf : f_X10_against σ x1 = some q) : K l G yX10_against cX10_against 5 (some .int) d 0 0 [.ref (ad 0), .int x1] (wM G ad σ) (pD (some (.int q)) (wM G ad σ)) := K_intro (by decide) (Nat.le_of_ble_eq_true rfl) (v_X10_against hd hf)
def f_X10_foundAt_2 (σ : St) : Nat → Int32 → Option Int32
  | 0, _ => none
  | n + 1, x1 => ixo (16) 373 (if (ga σ 0 (Int32.toNatClampNeg (16))) ≤ x1 then (some (-1)) else (bno (f_X10_against σ x1) fun r1 => if r1 = 0 then (some x1) else (f_X10_foundAt_2 σ n (x1 + 1))))
set_option maxHeartbeats 4000000 in
set_option maxRecDepth 100000 in
theorem v_X10_foundAt_2 {l : Launch} {G : Gv} {ad : Nat → Nat} {d : Nat} {av0 : List Value} {w1 : va_W} {q : Int32} {σ : St} (hd : 1 ≤ d) : ∀ (n : Nat) (x1 : Int32), f_X10_foundAt_2 σ n x1 = some q → VV l G yX10_foundAt cX10_foundAt 2 (some .int) d 0 0 av0 w1 (pD (some (.int q)) (wM G ad σ)) 0 0 (wM G ad σ) 2 [(0, .ref (ad 0)), (1, .int x1)] [] := by
  intro n
  induction n with
  | zero =>
    intro x1 hf
    cases hf
  | succ n ih =>
    intro x1 hf
    rw [f_X10_foundAt_2] at hf
    refine V_iload_n 1 rfl dX10_foundAt_2 rfl ?_
    refine V_aload_n 0 rfl dX10_foundAt_3 rfl ?_
    refine V_get (k := 0) RC_X10 fl_X10_7 rfl (by decide) dX10_foundAt_4 0 rfl rfl ?_
    refine V_bipush 16 dX10_foundAt_7 (by decide) ?_
    obtain ⟨hi, hf⟩ := ixo_some hf
    refine V_iaload dX10_foundAt_9 1 rfl hi ?_
    refine V_icmp_ge 29 dX10_foundAt_10 (by decide) (fun c1 => ?_) (fun c1 => ?_)
    · replace hf := (if_pos c1).symm.trans hf
      refine V_iconst (-1) dX10_foundAt_29 (by decide) ?_
      cases hf
      exact V_iret rfl dX10_foundAt_30 ⟨rfl, rfl⟩
    · replace hf := (if_neg c1).symm.trans hf
      refine V_aload_n 0 rfl dX10_foundAt_13 rfl ?_
      refine V_iload_n 1 rfl dX10_foundAt_14 rfl ?_
      obtain ⟨r1, hr1, hf⟩ := bno_some hf
      refine V_cV (As := [.int x1]) (rest := []) (k_X10_against (d := 0) (Nat.le_refl _) hr1) LB_X10_against lk_X10_81 (by omega) dX10_foundAt_15 rfl rfl (Nat.le_of_ble_eq_true rfl) (Nat.le_refl _) (Nat.le_refl _) 0 rfl ⟨rfl, rfl⟩ [.int r1] rfl ?_
      refine V_if_ne 23 dX10_foundAt_18 (by decide) (fun c2 => ?_) (fun c2 => ?_)
      · replace hf := (if_neg c2).symm.trans hf
        refine V_iinc (1) 1 [(0, .ref (ad 0)), (1, .int (x1 + 1))] [1, 0] dX10_foundAt_23 rfl (by decide) (by decide) rfl ?_
        refine V_goto 2 dX10_foundAt_26 (by decide) ?_
        exact ih _ hf
      · replace hf := (if_pos c2).symm.trans hf
        refine V_iload_n 1 rfl dX10_foundAt_21 rfl ?_
        cases hf
        exact V_iret rfl dX10_foundAt_22 ⟨rfl, rfl⟩
def f_X10_foundAt (σ : St) : Option Int32 := f_X10_foundAt_2 σ FU (0)
set_option maxHeartbeats 4000000 in
set_option maxRecDepth 100000 in
theorem v_X10_foundAt {l : Launch} {G : Gv} {ad : Nat → Nat} {d : Nat} {av0 : List Value} {w1 : va_W} {q : Int32} {σ : St} (hd : 1 ≤ d) (hf : f_X10_foundAt σ = some q) : VV l G yX10_foundAt cX10_foundAt 2 (some .int) d 0 0 av0 w1 (pD (some (.int q)) (wM G ad σ)) 0 0 (wM G ad σ) 0 [(0, .ref (ad 0))] [] := by
  unfold f_X10_foundAt at hf
  refine V_iconst 0 dX10_foundAt_0 (by decide) ?_
  refine V_istore_n [(0, .ref (ad 0)), (1, .int (0))] [1, 0] dX10_foundAt_1 rfl (by decide) rfl ?_
  exact v_X10_foundAt_2 hd _ _ hf
theorem k_X10_foundAt {l : Launch} {G : Gv} {ad : Nat → Nat} {d : Nat} {σ : St} {q : Int32} (hd : 1 ≤ d) (hf : f_X10_foundAt σ = some q) : K l G yX10_foundAt cX10_foundAt 2 (some .int) d 0 0 [.ref (ad 0)] (wM G ad σ) (pD (some (.int q)) (wM G ad σ)) := K_intro (by decide) (Nat.le_of_ble_eq_true rfl) (v_X10_foundAt hd hf)
def f_X10_addWord_201 (bk162 : St → Int32 → Int32 → Option (Int32 × St)) (σ : St) (x1 : Int32) (x2 : Int32) (s1 : Int32) (s2 : Int32) : Option (Int32 × St) := ixo s1 373 (lt (sa σ 0 (upd (ga σ 0) (Int32.toNatClampNeg s1) s2)) fun σ1 => bk162 σ1 x1 (x2 + 1))
set_option maxHeartbeats 4000000 in
set_option maxRecDepth 100000 in
theorem v_X10_addWord_201 {l : Launch} {G : Gv} {ad : Nat → Nat} {d : Nat} {av0 : List Value} {w1 : va_W} {q : (Int32 × St)} {bk162 : St → Int32 → Int32 → Option (Int32 × St)} {σ : St} {x1 : Int32} {x2 : Int32} {s1 : Int32} {s2 : Int32} (hd : 2 ≤ d) (hb162 : ∀ (σ : St) (x1 : Int32) (x2 : Int32), bk162 σ x1 x2 = some q → VV l G yX10_addWord cX10_addWord 3 (some .int) d 0 0 av0 w1 (pD (some (.int q.1)) (wM G ad q.2)) 0 0 (wM G ad σ) 162 [(0, .ref (ad 0)), (1, .int x1), (2, .int x2)] []) (hf : f_X10_addWord_201 bk162 σ x1 x2 s1 s2 = some q) : VV l G yX10_addWord cX10_addWord 3 (some .int) d 0 0 av0 w1 (pD (some (.int q.1)) (wM G ad q.2)) 0 0 (wM G ad σ) 201 [(0, .ref (ad 0)), (1, .int x1), (2, .int x2)] [.int s2, .int s1, .ref (ad 1)] := by
  unfold f_X10_addWord_201 at hf
  obtain ⟨hi, hf⟩ := ixo_some hf
  obtain ⟨σ1, eσ1, hf⟩ := lt_some hf
  refine V_iastore dX10_addWord_201 1 rfl hi (wM G ad σ1) (by rw [eσ1]; rfl) ?_
  refine V_iinc (1) 2 [(0, .ref (ad 0)), (1, .int x1), (2, .int (x2 + 1))] [1, 2, 0] dX10_addWord_202 rfl (by decide) (by decide) rfl ?_
  refine V_goto 162 dX10_addWord_205 (by decide) ?_
  exact hb162 _ _ _ hf
def f_X10_addWord_162 : Nat → St → Int32 → Int32 → Option (Int32 × St)
  | 0, _, _, _ => none
  | n + 1, σ, x1, x2 => if (7) ≤ x2 then (ixo (16) 373 (ixo (16) 373 (lt (sa σ 0 (upd (ga σ 0) (Int32.toNatClampNeg (16)) ((ga σ 0 (Int32.toNatClampNeg (16))) + (1)))) fun σ1 => ixo (16) 373 (some ((ga σ1 0 (Int32.toNatClampNeg (16))), σ1))))) else (if (gi σ 7) ≤ x2 then (f_X10_addWord_201 (f_X10_addWord_162 n) σ x1 x2 ((((17) + ((8) * x1)) + (1)) + x2) (0)) else (ixo x2 7 (f_X10_addWord_201 (f_X10_addWord_162 n) σ x1 x2 ((((17) + ((8) * x1)) + (1)) + x2) (ga σ 6 (Int32.toNatClampNeg x2)))))
set_option maxHeartbeats 4000000 in
set_option maxRecDepth 100000 in
theorem v_X10_addWord_162 {l : Launch} {G : Gv} {ad : Nat → Nat} {d : Nat} {av0 : List Value} {w1 : va_W} {q : (Int32 × St)} (hd : 2 ≤ d) : ∀ (n : Nat) (σ : St) (x1 : Int32) (x2 : Int32), f_X10_addWord_162 n σ x1 x2 = some q → VV l G yX10_addWord cX10_addWord 3 (some .int) d 0 0 av0 w1 (pD (some (.int q.1)) (wM G ad q.2)) 0 0 (wM G ad σ) 162 [(0, .ref (ad 0)), (1, .int x1), (2, .int x2)] [] := by
  intro n
  induction n with
  | zero =>
    intro σ x1 x2 hf
    cases hf
  | succ n ih =>
    intro σ x1 x2 hf
    rw [f_X10_addWord_162] at hf
    refine V_iload_n 2 rfl dX10_addWord_162 rfl ?_
    refine V_bipush 7 dX10_addWord_163 (by decide) ?_
    refine V_icmp_ge 208 dX10_addWord_165 (by decide) (fun c1 => ?_) (fun c1 => ?_)
    · replace hf := (if_pos c1).symm.trans hf
      refine V_aload_n 0 rfl dX10_addWord_208 rfl ?_
      refine V_get (k := 0) RC_X10 fl_X10_7 rfl (by decide) dX10_addWord_209 0 rfl rfl ?_
      refine V_bipush 16 dX10_addWord_212 (by decide) ?_
      refine V_dup2 rfl rfl dX10_addWord_214 ?_
      obtain ⟨hi, hf⟩ := ixo_some hf
      refine V_iaload dX10_addWord_215 1 rfl hi ?_
      refine V_iconst 1 dX10_addWord_216 (by decide) ?_
      refine V_iadd dX10_addWord_217 ?_
      obtain ⟨hi, hf⟩ := ixo_some hf
      obtain ⟨σ1, eσ1, hf⟩ := lt_some hf
      refine V_iastore dX10_addWord_218 1 rfl hi (wM G ad σ1) (by rw [eσ1]; rfl) ?_
      refine V_aload_n 0 rfl dX10_addWord_219 rfl ?_
      refine V_get (k := 0) RC_X10 fl_X10_7 rfl (by decide) dX10_addWord_220 0 rfl rfl ?_
      refine V_bipush 16 dX10_addWord_223 (by decide) ?_
      obtain ⟨hi, hf⟩ := ixo_some hf
      refine V_iaload dX10_addWord_225 1 rfl hi ?_
      cases hf
      exact V_iret rfl dX10_addWord_226 ⟨rfl, rfl⟩
    · replace hf := (if_neg c1).symm.trans hf
      refine V_aload_n 0 rfl dX10_addWord_168 rfl ?_
      refine V_get (k := 0) RC_X10 fl_X10_7 rfl (by decide) dX10_addWord_169 0 rfl rfl ?_
      refine V_bipush 17 dX10_addWord_172 (by decide) ?_
      refine V_bipush 8 dX10_addWord_174 (by decide) ?_
      refine V_iload_n 1 rfl dX10_addWord_176 rfl ?_
      refine V_imul dX10_addWord_177 ?_
      refine V_iadd dX10_addWord_178 ?_
      refine V_iconst 1 dX10_addWord_179 (by decide) ?_
      refine V_iadd dX10_addWord_180 ?_
      refine V_iload_n 2 rfl dX10_addWord_181 rfl ?_
      refine V_iadd dX10_addWord_182 ?_
      refine V_iload_n 2 rfl dX10_addWord_183 rfl ?_
      refine V_aload_n 0 rfl dX10_addWord_184 rfl ?_
      refine V_get (k := 7) RC_X10 fl_X10_78 rfl (by decide) dX10_addWord_185 0 rfl rfl ?_
      refine V_icmp_ge 200 dX10_addWord_188 (by decide) (fun c2 => ?_) (fun c2 => ?_)
      · replace hf := (if_pos c2).symm.trans hf
        refine V_iconst 0 dX10_addWord_200 (by decide) ?_
        exact v_X10_addWord_201 hd ih hf
      · replace hf := (if_neg c2).symm.trans hf
        refine V_aload_n 0 rfl dX10_addWord_191 rfl ?_
        refine V_get (k := 6) RC_X10 fl_X10_19 rfl (by decide) dX10_addWord_192 0 rfl rfl ?_
        refine V_iload_n 2 rfl dX10_addWord_195 rfl ?_
        obtain ⟨hi, hf⟩ := ixo_some hf
        refine V_iaload dX10_addWord_196 4 rfl hi ?_
        refine V_goto 201 dX10_addWord_197 (by decide) ?_
        exact v_X10_addWord_201 hd ih hf
def f_X10_addWord_109 : Nat → St → Int32 → Int32 → Option (Int32 × St)
  | 0, _, _, _ => none
  | n + 1, σ, x1, x2 => if x2 < (((17) + ((8) * x1)) + (8)) then (ixo ((17) + ((8) * x1)) 373 (lt (sa σ 0 (upd (ga σ 0) (Int32.toNatClampNeg ((17) + ((8) * x1))) (gi σ 7))) fun σ1 => f_X10_addWord_162 FU σ1 x1 (0))) else (ixo (x2 - (8)) 373 (ixo x2 373 (lt (sa σ 0 (upd (ga σ 0) (Int32.toNatClampNeg x2) (ga σ 0 (Int32.toNatClampNeg (x2 - (8)))))) fun σ2 => f_X10_addWord_109 n σ2 x1 (x2 + (-1)))))
set_option maxHeartbeats 4000000 in
set_option maxRecDepth 100000 in
theorem v_X10_addWord_109 {l : Launch} {G : Gv} {ad : Nat → Nat} {d : Nat} {av0 : List Value} {w1 : va_W} {q : (Int32 × St)} (hd : 2 ≤ d) : ∀ (n : Nat) (σ : St) (x1 : Int32) (x2 : Int32), f_X10_addWord_109 n σ x1 x2 = some q → VV l G yX10_addWord cX10_addWord 3 (some .int) d 0 0 av0 w1 (pD (some (.int q.1)) (wM G ad q.2)) 0 0 (wM G ad σ) 109 [(0, .ref (ad 0)), (1, .int x1), (2, .int x2)] [] := by
  intro n
  induction n with
  | zero =>
    intro σ x1 x2 hf
    cases hf
  | succ n ih =>
    intro σ x1 x2 hf
    rw [f_X10_addWord_109] at hf
    refine V_iload_n 2 rfl dX10_addWord_109 rfl ?_
    refine V_bipush 17 dX10_addWord_110 (by decide) ?_
    refine V_bipush 8 dX10_addWord_112 (by decide) ?_
    refine V_iload_n 1 rfl dX10_addWord_114 rfl ?_
    refine V_imul dX10_addWord_115 ?_
    refine V_iadd dX10_addWord_116 ?_
    refine V_bipush 8 dX10_addWord_117 (by decide) ?_
    refine V_iadd dX10_addWord_119 ?_
    refine V_icmp_lt 144 dX10_addWord_120 (by decide) (fun c1 => ?_) (fun c1 => ?_)
    · replace hf := (if_pos c1).symm.trans hf
      refine V_aload_n 0 rfl dX10_addWord_144 rfl ?_
      refine V_get (k := 0) RC_X10 fl_X10_7 rfl (by decide) dX10_addWord_145 0 rfl rfl ?_
      refine V_bipush 17 dX10_addWord_148 (by decide) ?_
      refine V_bipush 8 dX10_addWord_150 (by decide) ?_
      refine V_iload_n 1 rfl dX10_addWord_152 rfl ?_
      refine V_imul dX10_addWord_153 ?_
      refine V_iadd dX10_addWord_154 ?_
      refine V_aload_n 0 rfl dX10_addWord_155 rfl ?_
      refine V_get (k := 7) RC_X10 fl_X10_78 rfl (by decide) dX10_addWord_156 0 rfl rfl ?_
      obtain ⟨hi, hf⟩ := ixo_some hf
      obtain ⟨σ1, eσ1, hf⟩ := lt_some hf
      refine V_iastore dX10_addWord_159 1 rfl hi (wM G ad σ1) (by rw [eσ1]; rfl) ?_
      refine V_iconst 0 dX10_addWord_160 (by decide) ?_
      refine V_istore_n [(0, .ref (ad 0)), (1, .int x1), (2, .int (0))] [1, 2, 0] dX10_addWord_161 rfl (by decide) rfl ?_
      exact v_X10_addWord_162 hd _ _ _ _ hf
    · replace hf := (if_neg c1).symm.trans hf
      refine V_aload_n 0 rfl dX10_addWord_123 rfl ?_
      refine V_get (k := 0) RC_X10 fl_X10_7 rfl (by decide) dX10_addWord_124 0 rfl rfl ?_
      refine V_iload_n 2 rfl dX10_addWord_127 rfl ?_
      refine V_aload_n 0 rfl dX10_addWord_128 rfl ?_
      refine V_get (k := 0) RC_X10 fl_X10_7 rfl (by decide) dX10_addWord_129 0 rfl rfl ?_
      refine V_iload_n 2 rfl dX10_addWord_132 rfl ?_
      refine V_bipush 8 dX10_addWord_133 (by decide) ?_
      refine V_isub dX10_addWord_135 ?_
      obtain ⟨hi, hf⟩ := ixo_some hf
      refine V_iaload dX10_addWord_136 1 rfl hi ?_
      obtain ⟨hi, hf⟩ := ixo_some hf
      obtain ⟨σ2, eσ2, hf⟩ := lt_some hf
      refine V_iastore dX10_addWord_137 1 rfl hi (wM G ad σ2) (by rw [eσ2]; rfl) ?_
      refine V_iinc (-1) 2 [(0, .ref (ad 0)), (1, .int x1), (2, .int (x2 + (-1)))] [1, 2, 0] dX10_addWord_138 rfl (by decide) (by decide) rfl ?_
      refine V_goto 109 dX10_addWord_141 (by decide) ?_
      exact ih _ _ _ hf
def f_X10_addWord_92 (σ : St) (x1 : Int32) : Option (Int32 × St) := ixo (16) 373 (lt (((17) + ((8) * (ga σ 0 (Int32.toNatClampNeg (16))))) + (7)) fun t1 => f_X10_addWord_109 FU σ x1 t1)
set_option maxHeartbeats 4000000 in
set_option maxRecDepth 100000 in
theorem v_X10_addWord_92 {l : Launch} {G : Gv} {ad : Nat → Nat} {d : Nat} {av0 : List Value} {w1 : va_W} {q : (Int32 × St)} {σ : St} {x1 : Int32} (hd : 2 ≤ d) (hf : f_X10_addWord_92 σ x1 = some q) : VV l G yX10_addWord cX10_addWord 3 (some .int) d 0 0 av0 w1 (pD (some (.int q.1)) (wM G ad q.2)) 0 0 (wM G ad σ) 92 [(0, .ref (ad 0)), (1, .int x1)] [] := by
  unfold f_X10_addWord_92 at hf
  refine V_bipush 17 dX10_addWord_92 (by decide) ?_
  refine V_bipush 8 dX10_addWord_94 (by decide) ?_
  refine V_aload_n 0 rfl dX10_addWord_96 rfl ?_
  refine V_get (k := 0) RC_X10 fl_X10_7 rfl (by decide) dX10_addWord_97 0 rfl rfl ?_
  refine V_bipush 16 dX10_addWord_100 (by decide) ?_
  obtain ⟨hi, hf⟩ := ixo_some hf
  refine V_iaload dX10_addWord_102 1 rfl hi ?_
  refine V_imul dX10_addWord_103 ?_
  refine V_iadd dX10_addWord_104 ?_
  refine V_bipush 7 dX10_addWord_105 (by decide) ?_
  refine V_iadd dX10_addWord_107 ?_
  obtain ⟨t1, et1, hf⟩ := lt_some hf
  refine V_topi et1 ?_
  refine V_istore_n [(0, .ref (ad 0)), (1, .int x1), (2, .int t1)] [1, 2, 0] dX10_addWord_108 rfl (by decide) rfl ?_
  exact v_X10_addWord_109 hd _ _ _ _ hf
def f_X10_addWord_67 : Nat → St → Int32 → Option (Int32 × St)
  | 0, _, _ => none
  | n + 1, σ, x1 => ixo (16) 373 (if (ga σ 0 (Int32.toNatClampNeg (16))) ≤ x1 then (f_X10_addWord_92 σ x1) else (bno (f_X10_against σ x1) fun r1 => if 0 ≤ r1 then (f_X10_addWord_92 σ x1) else (f_X10_addWord_67 n σ (x1 + 1))))
set_option maxHeartbeats 4000000 in
set_option maxRecDepth 100000 in
theorem v_X10_addWord_67 {l : Launch} {G : Gv} {ad : Nat → Nat} {d : Nat} {av0 : List Value} {w1 : va_W} {q : (Int32 × St)} (hd : 2 ≤ d) : ∀ (n : Nat) (σ : St) (x1 : Int32), f_X10_addWord_67 n σ x1 = some q → VV l G yX10_addWord cX10_addWord 3 (some .int) d 0 0 av0 w1 (pD (some (.int q.1)) (wM G ad q.2)) 0 0 (wM G ad σ) 67 [(0, .ref (ad 0)), (1, .int x1)] [] := by
  intro n
  induction n with
  | zero =>
    intro σ x1 hf
    cases hf
  | succ n ih =>
    intro σ x1 hf
    rw [f_X10_addWord_67] at hf
    refine V_iload_n 1 rfl dX10_addWord_67 rfl ?_
    refine V_aload_n 0 rfl dX10_addWord_68 rfl ?_
    refine V_get (k := 0) RC_X10 fl_X10_7 rfl (by decide) dX10_addWord_69 0 rfl rfl ?_
    refine V_bipush 16 dX10_addWord_72 (by decide) ?_
    obtain ⟨hi, hf⟩ := ixo_some hf
    refine V_iaload dX10_addWord_74 1 rfl hi ?_
    refine V_icmp_ge 92 dX10_addWord_75 (by decide) (fun c1 => ?_) (fun c1 => ?_)
    · replace hf := (if_pos c1).symm.trans hf
      exact v_X10_addWord_92 hd hf
    · replace hf := (if_neg c1).symm.trans hf
      refine V_aload_n 0 rfl dX10_addWord_78 rfl ?_
      refine V_iload_n 1 rfl dX10_addWord_79 rfl ?_
      obtain ⟨r1, hr1, hf⟩ := bno_some hf
      refine V_cV (As := [.int x1]) (rest := []) (k_X10_against (d := 0) (Nat.le_refl _) hr1) LB_X10_against lk_X10_81 (by omega) dX10_addWord_80 rfl rfl (Nat.le_of_ble_eq_true rfl) (Nat.le_refl _) (Nat.le_refl _) 0 rfl ⟨rfl, rfl⟩ [.int r1] rfl ?_
      refine V_if_ge 92 dX10_addWord_83 (by decide) (fun c2 => ?_) (fun c2 => ?_)
      · replace hf := (if_pos c2).symm.trans hf
        exact v_X10_addWord_92 hd hf
      · replace hf := (if_neg c2).symm.trans hf
        refine V_iinc (1) 1 [(0, .ref (ad 0)), (1, .int (x1 + 1))] [1, 0] dX10_addWord_86 rfl (by decide) (by decide) rfl ?_
        refine V_goto 67 dX10_addWord_89 (by decide) ?_
        exact ih _ _ hf
def f_X10_addWord_26 (σ : St) (s1 : Int32) : Option (Int32 × St) := bno (f_X10_goes σ s1 (1) (1)) fun r1 => if (b2i r1.1) = 0 then (some ((0), r1.2)) else (bno (f_X10_save r1.2) fun r2 => bno (f_X10_takesText r2) fun r3 => lt (si r3 5 (0)) fun σ1 => bno (f_X10_foundAt σ1) fun r4 => if r4 = (-1) then (f_X10_addWord_67 FU σ1 (0)) else (ixo (16) 373 (some ((ga σ1 0 (Int32.toNatClampNeg (16))), σ1))))
set_option maxHeartbeats 4000000 in
set_option maxRecDepth 100000 in
theorem v_X10_addWord_26 {l : Launch} {G : Gv} {ad : Nat → Nat} {d : Nat} {av0 : List Value} {w1 : va_W} {q : (Int32 × St)} {σ : St} {s1 : Int32} (hd : 2 ≤ d) (hf : f_X10_addWord_26 σ s1 = some q) : VV l G yX10_addWord cX10_addWord 3 (some .int) d 0 0 av0 w1 (pD (some (.int q.1)) (wM G ad q.2)) 0 0 (wM G ad σ) 26 [(0, .ref (ad 0))] [.int s1, .ref (ad 0)] := by
  unfold f_X10_addWord_26 at hf
  refine V_iconst 1 dX10_addWord_26 (by decide) ?_
  refine V_iconst 1 dX10_addWord_27 (by decide) ?_
  obtain ⟨r1, hr1, hf⟩ := bno_some hf
  refine V_cV (As := [.int s1, .int (1), .int (1)]) (rest := []) (k_X10_goes (d := 0) (Nat.le_refl _) hr1) LB_X10_goes lk_X10_74 (by omega) dX10_addWord_28 rfl rfl (Nat.le_of_ble_eq_true rfl) (Nat.le_refl _) (Nat.le_refl _) 0 rfl ⟨rfl, rfl⟩ [.int (b2i r1.1)] rfl ?_
  refine V_if_ne 36 dX10_addWord_31 (by decide) (fun c1 => ?_) (fun c1 => ?_)
  · replace hf := (if_neg c1).symm.trans hf
    refine V_aload_n 0 rfl dX10_addWord_36 rfl ?_
    obtain ⟨r2, hr2, hf⟩ := bno_some hf
    refine V_cV (As := []) (rest := []) (k_X10_save (d := 0) (Nat.le_refl _) hr2) LB_X10_save lk_X10_85 (by omega) dX10_addWord_37 rfl rfl (Nat.le_of_ble_eq_true rfl) (Nat.le_refl _) (Nat.le_refl _) 0 rfl ⟨rfl, rfl⟩ [] rfl ?_
    refine V_aload_n 0 rfl dX10_addWord_40 rfl ?_
    obtain ⟨r3, hr3, hf⟩ := bno_some hf
    refine V_cV (As := []) (rest := []) (k_X10_takesText (d := 0) (Nat.le_refl _) hr3) LB_X10_takesText lk_X10_88 (by omega) dX10_addWord_41 rfl rfl (Nat.le_of_ble_eq_true rfl) (Nat.le_refl _) (Nat.le_refl _) 0 rfl ⟨rfl, rfl⟩ [] rfl ?_
    refine V_aload_n 0 rfl dX10_addWord_44 rfl ?_
    refine V_iconst 0 dX10_addWord_45 (by decide) ?_
    obtain ⟨σ1, eσ1, hf⟩ := lt_some hf
    refine V_put (k := 5) RC_X10 fl_X10_71 rfl (by decide) rfl dX10_addWord_46 0 rfl (Nat.le_of_ble_eq_true rfl) rfl rfl (wM G ad σ1) (by rw [eσ1]; rfl) ?_
    refine V_aload_n 0 rfl dX10_addWord_49 rfl ?_
    obtain ⟨r4, hr4, hf⟩ := bno_some hf
    refine V_cV (As := []) (rest := []) (k_X10_foundAt (d := 1) (Nat.le_refl _) hr4) LB_X10_foundAt lk_X10_91 (by omega) dX10_addWord_50 rfl rfl (Nat.le_of_ble_eq_true rfl) (Nat.le_refl _) (Nat.le_refl _) 0 rfl ⟨rfl, rfl⟩ [.int r4] rfl ?_
    refine V_iconst (-1) dX10_addWord_53 (by decide) ?_
    refine V_icmp_eq 65 dX10_addWord_54 (by decide) (fun c2 => ?_) (fun c2 => ?_)
    · replace hf := (if_pos c2).symm.trans hf
      refine V_iconst 0 dX10_addWord_65 (by decide) ?_
      refine V_istore_n [(0, .ref (ad 0)), (1, .int (0))] [1, 0] dX10_addWord_66 rfl (by decide) rfl ?_
      exact v_X10_addWord_67 hd _ _ _ hf
    · replace hf := (if_neg c2).symm.trans hf
      refine V_aload_n 0 rfl dX10_addWord_57 rfl ?_
      refine V_get (k := 0) RC_X10 fl_X10_7 rfl (by decide) dX10_addWord_58 0 rfl rfl ?_
      refine V_bipush 16 dX10_addWord_61 (by decide) ?_
      obtain ⟨hi, hf⟩ := ixo_some hf
      refine V_iaload dX10_addWord_63 1 rfl hi ?_
      cases hf
      exact V_iret rfl dX10_addWord_64 ⟨rfl, rfl⟩
  · replace hf := (if_pos c1).symm.trans hf
    refine V_iconst 0 dX10_addWord_34 (by decide) ?_
    cases hf
    exact V_iret rfl dX10_addWord_35 ⟨rfl, rfl⟩
def f_X10_addWord_25 (σ : St) : Option (Int32 × St) := f_X10_addWord_26 σ (0)
set_option maxHeartbeats 4000000 in
set_option maxRecDepth 100000 in
theorem v_X10_addWord_25 {l : Launch} {G : Gv} {ad : Nat → Nat} {d : Nat} {av0 : List Value} {w1 : va_W} {q : (Int32 × St)} {σ : St} (hd : 2 ≤ d) (hf : f_X10_addWord_25 σ = some q) : VV l G yX10_addWord cX10_addWord 3 (some .int) d 0 0 av0 w1 (pD (some (.int q.1)) (wM G ad q.2)) 0 0 (wM G ad σ) 25 [(0, .ref (ad 0))] [.ref (ad 0)] := by
  unfold f_X10_addWord_25 at hf
  refine V_iconst 0 dX10_addWord_25 (by decide) ?_
  exact v_X10_addWord_26 hd hf
def f_X10_addWord (σ : St) : Option (Int32 × St) := if (gi σ 5) < (2) then (f_X10_addWord_25 σ) else (ixo (16) 373 (if (30) ≤ (ga σ 0 (Int32.toNatClampNeg (16))) then (f_X10_addWord_25 σ) else (f_X10_addWord_26 σ (1))))
set_option maxHeartbeats 4000000 in
set_option maxRecDepth 100000 in
theorem v_X10_addWord {l : Launch} {G : Gv} {ad : Nat → Nat} {d : Nat} {av0 : List Value} {w1 : va_W} {q : (Int32 × St)} {σ : St} (hd : 2 ≤ d) (hf : f_X10_addWord σ = some q) : VV l G yX10_addWord cX10_addWord 3 (some .int) d 0 0 av0 w1 (pD (some (.int q.1)) (wM G ad q.2)) 0 0 (wM G ad σ) 0 [(0, .ref (ad 0))] [] := by
  unfold f_X10_addWord at hf
  refine V_aload_n 0 rfl dX10_addWord_0 rfl ?_
  refine V_aload_n 0 rfl dX10_addWord_1 rfl ?_
  refine V_get (k := 5) RC_X10 fl_X10_71 rfl (by decide) dX10_addWord_2 0 rfl rfl ?_
  refine V_iconst 2 dX10_addWord_5 (by decide) ?_
  refine V_icmp_lt 25 dX10_addWord_6 (by decide) (fun c1 => ?_) (fun c1 => ?_)
  · replace hf := (if_pos c1).symm.trans hf
    exact v_X10_addWord_25 hd hf
  · replace hf := (if_neg c1).symm.trans hf
    refine V_aload_n 0 rfl dX10_addWord_9 rfl ?_
    refine V_get (k := 0) RC_X10 fl_X10_7 rfl (by decide) dX10_addWord_10 0 rfl rfl ?_
    refine V_bipush 16 dX10_addWord_13 (by decide) ?_
    obtain ⟨hi, hf⟩ := ixo_some hf
    refine V_iaload dX10_addWord_15 1 rfl hi ?_
    refine V_bipush 30 dX10_addWord_16 (by decide) ?_
    refine V_icmp_ge 25 dX10_addWord_18 (by decide) (fun c2 => ?_) (fun c2 => ?_)
    · replace hf := (if_pos c2).symm.trans hf
      exact v_X10_addWord_25 hd hf
    · replace hf := (if_neg c2).symm.trans hf
      refine V_iconst 1 dX10_addWord_21 (by decide) ?_
      refine V_goto 26 dX10_addWord_22 (by decide) ?_
      exact v_X10_addWord_26 hd hf
theorem k_X10_addWord {l : Launch} {G : Gv} {ad : Nat → Nat} {d : Nat} {σ : St} {q : (Int32 × St)} (hd : 2 ≤ d) (hf : f_X10_addWord σ = some q) : K l G yX10_addWord cX10_addWord 3 (some .int) d 0 0 [.ref (ad 0)] (wM G ad σ) (pD (some (.int q.1)) (wM G ad q.2)) := K_intro (by decide) (Nat.le_of_ble_eq_true rfl) (v_X10_addWord hd hf)
def f_X10_lookUp (σ : St) : Option (Int32 × St) := lt (si σ 3 (0)) fun σ1 => bno (f_X10_takesText σ1) fun r1 => bno (f_X10_foundAt r1) fun r2 => some (r2, r1)
set_option maxHeartbeats 4000000 in
set_option maxRecDepth 100000 in
theorem v_X10_lookUp {l : Launch} {G : Gv} {ad : Nat → Nat} {d : Nat} {av0 : List Value} {w1 : va_W} {q : (Int32 × St)} {σ : St} (hd : 2 ≤ d) (hf : f_X10_lookUp σ = some q) : VV l G yX10_lookUp cX10_lookUp 1 (some .int) d 0 0 av0 w1 (pD (some (.int q.1)) (wM G ad q.2)) 0 0 (wM G ad σ) 0 [(0, .ref (ad 0))] [] := by
  unfold f_X10_lookUp at hf
  refine V_aload_n 0 rfl dX10_lookUp_0 rfl ?_
  refine V_iconst 0 dX10_lookUp_1 (by decide) ?_
  obtain ⟨σ1, eσ1, hf⟩ := lt_some hf
  refine V_put (k := 3) RC_X10 fl_X10_52 rfl (by decide) rfl dX10_lookUp_2 0 rfl (Nat.le_of_ble_eq_true rfl) rfl rfl (wM G ad σ1) (by rw [eσ1]; rfl) ?_
  refine V_aload_n 0 rfl dX10_lookUp_5 rfl ?_
  obtain ⟨r1, hr1, hf⟩ := bno_some hf
  refine V_cV (As := []) (rest := []) (k_X10_takesText (d := 0) (Nat.le_refl _) hr1) LB_X10_takesText lk_X10_88 (by omega) dX10_lookUp_6 rfl rfl (Nat.le_of_ble_eq_true rfl) (Nat.le_refl _) (Nat.le_refl _) 0 rfl ⟨rfl, rfl⟩ [] rfl ?_
  refine V_aload_n 0 rfl dX10_lookUp_9 rfl ?_
  obtain ⟨r2, hr2, hf⟩ := bno_some hf
  refine V_cV (As := []) (rest := []) (k_X10_foundAt (d := 1) (Nat.le_refl _) hr2) LB_X10_foundAt lk_X10_91 (by omega) dX10_lookUp_10 rfl rfl (Nat.le_of_ble_eq_true rfl) (Nat.le_refl _) (Nat.le_refl _) 0 rfl ⟨rfl, rfl⟩ [.int r2] rfl ?_
  cases hf
  exact V_iret rfl dX10_lookUp_13 ⟨rfl, rfl⟩
theorem k_X10_lookUp {l : Launch} {G : Gv} {ad : Nat → Nat} {d : Nat} {σ : St} {q : (Int32 × St)} (hd : 2 ≤ d) (hf : f_X10_lookUp σ = some q) : K l G yX10_lookUp cX10_lookUp 1 (some .int) d 0 0 [.ref (ad 0)] (wM G ad σ) (pD (some (.int q.1)) (wM G ad q.2)) := K_intro (by decide) (Nat.le_of_ble_eq_true rfl) (v_X10_lookUp hd hf)
def f_X10_setLetter_39 (σ : St) (x1 : Int32) (x2 : Int32) (x3 : Int32) (s1 : Int32) : Option (Int32 × St) := bno (f_X10_goes σ s1 (1) (1)) fun r1 => if (b2i r1.1) = 0 then (some ((0), r1.2)) else (bno (f_X10_save r1.2) fun r2 => ixo ((0) + x1) 373 (lt (ga r2 0 (Int32.toNatClampNeg ((0) + x1))) fun t1 => ixo ((0) + x1) 373 (lt (sa r2 0 (upd (ga r2 0) (Int32.toNatClampNeg ((0) + x1)) x2)) fun σ1 => ixo ((8) + x1) 373 (lt (sa σ1 0 (upd (ga σ1 0) (Int32.toNatClampNeg ((8) + x1)) x3)) fun σ2 => some (t1, σ2)))))
set_option maxHeartbeats 4000000 in
set_option maxRecDepth 100000 in
theorem v_X10_setLetter_39 {l : Launch} {G : Gv} {ad : Nat → Nat} {d : Nat} {av0 : List Value} {w1 : va_W} {q : (Int32 × St)} {σ : St} {x1 : Int32} {x2 : Int32} {x3 : Int32} {s1 : Int32} (hd : 2 ≤ d) (hf : f_X10_setLetter_39 σ x1 x2 x3 s1 = some q) : VV l G yX10_setLetter cX10_setLetter 5 (some .int) d 0 0 av0 w1 (pD (some (.int q.1)) (wM G ad q.2)) 0 0 (wM G ad σ) 39 [(0, .ref (ad 0)), (1, .int x1), (2, .int x2), (3, .int x3)] [.int s1, .ref (ad 0)] := by
  unfold f_X10_setLetter_39 at hf
  refine V_iconst 1 dX10_setLetter_39 (by decide) ?_
  refine V_iconst 1 dX10_setLetter_40 (by decide) ?_
  obtain ⟨r1, hr1, hf⟩ := bno_some hf
  refine V_cV (As := [.int s1, .int (1), .int (1)]) (rest := []) (k_X10_goes (d := 0) (Nat.le_refl _) hr1) LB_X10_goes lk_X10_74 (by omega) dX10_setLetter_41 rfl rfl (Nat.le_of_ble_eq_true rfl) (Nat.le_refl _) (Nat.le_refl _) 0 rfl ⟨rfl, rfl⟩ [.int (b2i r1.1)] rfl ?_
  refine V_if_ne 49 dX10_setLetter_44 (by decide) (fun c1 => ?_) (fun c1 => ?_)
  · replace hf := (if_neg c1).symm.trans hf
    refine V_aload_n 0 rfl dX10_setLetter_49 rfl ?_
    obtain ⟨r2, hr2, hf⟩ := bno_some hf
    refine V_cV (As := []) (rest := []) (k_X10_save (d := 0) (Nat.le_refl _) hr2) LB_X10_save lk_X10_85 (by omega) dX10_setLetter_50 rfl rfl (Nat.le_of_ble_eq_true rfl) (Nat.le_refl _) (Nat.le_refl _) 0 rfl ⟨rfl, rfl⟩ [] rfl ?_
    refine V_aload_n 0 rfl dX10_setLetter_53 rfl ?_
    refine V_get (k := 0) RC_X10 fl_X10_7 rfl (by decide) dX10_setLetter_54 0 rfl rfl ?_
    refine V_iconst 0 dX10_setLetter_57 (by decide) ?_
    refine V_iload_n 1 rfl dX10_setLetter_58 rfl ?_
    refine V_iadd dX10_setLetter_59 ?_
    obtain ⟨hi, hf⟩ := ixo_some hf
    refine V_iaload dX10_setLetter_60 1 rfl hi ?_
    obtain ⟨t1, et1, hf⟩ := lt_some hf
    refine V_topi et1 ?_
    refine V_istore [(0, .ref (ad 0)), (1, .int x1), (2, .int x2), (3, .int x3), (4, .int t1)] [1, 2, 3, 4, 0] dX10_setLetter_61 (by decide) rfl ?_
    refine V_aload_n 0 rfl dX10_setLetter_63 rfl ?_
    refine V_get (k := 0) RC_X10 fl_X10_7 rfl (by decide) dX10_setLetter_64 0 rfl rfl ?_
    refine V_iconst 0 dX10_setLetter_67 (by decide) ?_
    refine V_iload_n 1 rfl dX10_setLetter_68 rfl ?_
    refine V_iadd dX10_setLetter_69 ?_
    refine V_iload_n 2 rfl dX10_setLetter_70 rfl ?_
    obtain ⟨hi, hf⟩ := ixo_some hf
    obtain ⟨σ1, eσ1, hf⟩ := lt_some hf
    refine V_iastore dX10_setLetter_71 1 rfl hi (wM G ad σ1) (by rw [eσ1]; rfl) ?_
    refine V_aload_n 0 rfl dX10_setLetter_72 rfl ?_
    refine V_get (k := 0) RC_X10 fl_X10_7 rfl (by decide) dX10_setLetter_73 0 rfl rfl ?_
    refine V_bipush 8 dX10_setLetter_76 (by decide) ?_
    refine V_iload_n 1 rfl dX10_setLetter_78 rfl ?_
    refine V_iadd dX10_setLetter_79 ?_
    refine V_iload_n 3 rfl dX10_setLetter_80 rfl ?_
    obtain ⟨hi, hf⟩ := ixo_some hf
    obtain ⟨σ2, eσ2, hf⟩ := lt_some hf
    refine V_iastore dX10_setLetter_81 1 rfl hi (wM G ad σ2) (by rw [eσ2]; rfl) ?_
    refine V_iload 4 rfl dX10_setLetter_82 ?_
    cases hf
    exact V_iret rfl dX10_setLetter_84 ⟨rfl, rfl⟩
  · replace hf := (if_pos c1).symm.trans hf
    refine V_iconst 0 dX10_setLetter_47 (by decide) ?_
    cases hf
    exact V_iret rfl dX10_setLetter_48 ⟨rfl, rfl⟩
def f_X10_setLetter_38 (σ : St) (x1 : Int32) (x2 : Int32) (x3 : Int32) : Option (Int32 × St) := f_X10_setLetter_39 σ x1 x2 x3 (0)
set_option maxHeartbeats 4000000 in
set_option maxRecDepth 100000 in
theorem v_X10_setLetter_38 {l : Launch} {G : Gv} {ad : Nat → Nat} {d : Nat} {av0 : List Value} {w1 : va_W} {q : (Int32 × St)} {σ : St} {x1 : Int32} {x2 : Int32} {x3 : Int32} (hd : 2 ≤ d) (hf : f_X10_setLetter_38 σ x1 x2 x3 = some q) : VV l G yX10_setLetter cX10_setLetter 5 (some .int) d 0 0 av0 w1 (pD (some (.int q.1)) (wM G ad q.2)) 0 0 (wM G ad σ) 38 [(0, .ref (ad 0)), (1, .int x1), (2, .int x2), (3, .int x3)] [.ref (ad 0)] := by
  unfold f_X10_setLetter_38 at hf
  refine V_iconst 0 dX10_setLetter_38 (by decide) ?_
  exact v_X10_setLetter_39 hd hf
def f_X10_setLetter (σ : St) (x1 : Int32) (x2 : Int32) (x3 : Int32) : Option (Int32 × St) := bno (f_X10_isLetter x1) fun r1 => if (b2i r1) = 0 then (f_X10_setLetter_38 σ x1 x2 x3) else (bno (f_X10_in (Int32.toInt64 x2) (1) (10)) fun r2 => if (b2i r2) = 0 then (f_X10_setLetter_38 σ x1 x2 x3) else (bno (f_X10_in (Int32.toInt64 x3) (-20) (20)) fun r3 => if (b2i r3) = 0 then (f_X10_setLetter_38 σ x1 x2 x3) else (f_X10_setLetter_39 σ x1 x2 x3 (1))))
set_option maxHeartbeats 4000000 in
set_option maxRecDepth 100000 in
theorem v_X10_setLetter {l : Launch} {G : Gv} {ad : Nat → Nat} {d : Nat} {av0 : List Value} {w1 : va_W} {q : (Int32 × St)} {σ : St} {x1 : Int32} {x2 : Int32} {x3 : Int32} (hd : 2 ≤ d) (hf : f_X10_setLetter σ x1 x2 x3 = some q) : VV l G yX10_setLetter cX10_setLetter 5 (some .int) d 0 0 av0 w1 (pD (some (.int q.1)) (wM G ad q.2)) 0 0 (wM G ad σ) 0 [(0, .ref (ad 0)), (1, .int x1), (2, .int x2), (3, .int x3)] [] := by
  unfold f_X10_setLetter at hf
  refine V_aload_n 0 rfl dX10_setLetter_0 rfl ?_
  refine V_iload_n 1 rfl dX10_setLetter_1 rfl ?_
  obtain ⟨r1, hr1, hf⟩ := bno_some hf
  refine V_cS (As := [.int x1]) (rest := [.ref (ad 0)]) (k_X10_isLetter (d := 1) (Nat.le_refl _) hr1) LB_X10_isLetter lk_X10_67 (by omega) dX10_setLetter_2 rfl rfl (Nat.le_of_ble_eq_true rfl) (Nat.le_refl _) (Nat.le_refl _) [.int (b2i r1), .ref (ad 0)] rfl ?_
  refine V_if_eq 38 dX10_setLetter_5 (by decide) (fun c1 => ?_) (fun c1 => ?_)
  · replace hf := (if_pos c1).symm.trans hf
    exact v_X10_setLetter_38 hd hf
  · replace hf := (if_neg c1).symm.trans hf
    refine V_iload_n 2 rfl dX10_setLetter_8 rfl ?_
    refine V_i2l dX10_setLetter_9 ?_
    refine V_lconst 1 dX10_setLetter_10 (by decide) ?_
    refine V_ldc2 (10) kc_X10_95 dX10_setLetter_11 ?_
    obtain ⟨r2, hr2, hf⟩ := bno_some hf
    refine V_cS (As := [.long (Int32.toInt64 x2), .long (1), .long (10)]) (rest := [.ref (ad 0)]) (k_X10_in (d := 0) (Nat.le_refl _) hr2) LB_X10_in lk_X10_61 (by omega) dX10_setLetter_14 rfl rfl (Nat.le_of_ble_eq_true rfl) (Nat.le_refl _) (Nat.le_refl _) [.int (b2i r2), .ref (ad 0)] rfl ?_
    refine V_if_eq 38 dX10_setLetter_17 (by decide) (fun c2 => ?_) (fun c2 => ?_)
    · replace hf := (if_pos c2).symm.trans hf
      exact v_X10_setLetter_38 hd hf
    · replace hf := (if_neg c2).symm.trans hf
      refine V_iload_n 3 rfl dX10_setLetter_20 rfl ?_
      refine V_i2l dX10_setLetter_21 ?_
      refine V_ldc2 (-20) kc_X10_97 dX10_setLetter_22 ?_
      refine V_ldc2 (20) kc_X10_99 dX10_setLetter_25 ?_
      obtain ⟨r3, hr3, hf⟩ := bno_some hf
      refine V_cS (As := [.long (Int32.toInt64 x3), .long (-20), .long (20)]) (rest := [.ref (ad 0)]) (k_X10_in (d := 0) (Nat.le_refl _) hr3) LB_X10_in lk_X10_61 (by omega) dX10_setLetter_28 rfl rfl (Nat.le_of_ble_eq_true rfl) (Nat.le_refl _) (Nat.le_refl _) [.int (b2i r3), .ref (ad 0)] rfl ?_
      refine V_if_eq 38 dX10_setLetter_31 (by decide) (fun c3 => ?_) (fun c3 => ?_)
      · replace hf := (if_pos c3).symm.trans hf
        exact v_X10_setLetter_38 hd hf
      · replace hf := (if_neg c3).symm.trans hf
        refine V_iconst 1 dX10_setLetter_34 (by decide) ?_
        refine V_goto 39 dX10_setLetter_35 (by decide) ?_
        exact v_X10_setLetter_39 hd hf
theorem k_X10_setLetter {l : Launch} {G : Gv} {ad : Nat → Nat} {d : Nat} {σ : St} {q : (Int32 × St)} {x1 : Int32} {x2 : Int32} {x3 : Int32} (hd : 2 ≤ d) (hf : f_X10_setLetter σ x1 x2 x3 = some q) : K l G yX10_setLetter cX10_setLetter 5 (some .int) d 0 0 [.ref (ad 0), .int x1, .int x2, .int x3] (wM G ad σ) (pD (some (.int q.1)) (wM G ad q.2)) := K_intro (by decide) (Nat.le_of_ble_eq_true rfl) (v_X10_setLetter hd hf)
def f_X10_setPremium (σ : St) (x1 : Int32) (x2 : Int32) (x3 : Int32) : Option (Int32 × St) := bno (f_X10_isSquare x1 x2) fun r1 => bno (f_X10_in (Int32.toInt64 x3) (0) (4)) fun r2 => bno (f_X10_goes σ (b2i r1) (b2i r2) (1)) fun r3 => if (b2i r3.1) = 0 then (some ((0), r3.2)) else (bno (f_X10_save r3.2) fun r4 => ixo (((306) + ((7) * x1)) + x2) 373 (lt (ga r4 0 (Int32.toNatClampNeg (((306) + ((7) * x1)) + x2))) fun t1 => ixo (((306) + ((7) * x1)) + x2) 373 (lt (sa r4 0 (upd (ga r4 0) (Int32.toNatClampNeg (((306) + ((7) * x1)) + x2)) x3)) fun σ1 => some (t1, σ1))))
set_option maxHeartbeats 4000000 in
set_option maxRecDepth 100000 in
theorem v_X10_setPremium {l : Launch} {G : Gv} {ad : Nat → Nat} {d : Nat} {av0 : List Value} {w1 : va_W} {q : (Int32 × St)} {σ : St} {x1 : Int32} {x2 : Int32} {x3 : Int32} (hd : 2 ≤ d) (hf : f_X10_setPremium σ x1 x2 x3 = some q) : VV l G yX10_setPremium cX10_setPremium 5 (some .int) d 0 0 av0 w1 (pD (some (.int q.1)) (wM G ad q.2)) 0 0 (wM G ad σ) 0 [(0, .ref (ad 0)), (1, .int x1), (2, .int x2), (3, .int x3)] [] := by
  unfold f_X10_setPremium at hf
  refine V_aload_n 0 rfl dX10_setPremium_0 rfl ?_
  refine V_iload_n 1 rfl dX10_setPremium_1 rfl ?_
  refine V_iload_n 2 rfl dX10_setPremium_2 rfl ?_
  obtain ⟨r1, hr1, hf⟩ := bno_some hf
  refine V_cS (As := [.int x1, .int x2]) (rest := [.ref (ad 0)]) (k_X10_isSquare (d := 1) (Nat.le_refl _) hr1) LB_X10_isSquare lk_X10_101 (by omega) dX10_setPremium_3 rfl rfl (Nat.le_of_ble_eq_true rfl) (Nat.le_refl _) (Nat.le_refl _) [.int (b2i r1), .ref (ad 0)] rfl ?_
  refine V_iload_n 3 rfl dX10_setPremium_6 rfl ?_
  refine V_i2l dX10_setPremium_7 ?_
  refine V_lconst 0 dX10_setPremium_8 (by decide) ?_
  refine V_ldc2 (4) kc_X10_105 dX10_setPremium_9 ?_
  obtain ⟨r2, hr2, hf⟩ := bno_some hf
  refine V_cS (As := [.long (Int32.toInt64 x3), .long (0), .long (4)]) (rest := [.int (b2i r1), .ref (ad 0)]) (k_X10_in (d := 0) (Nat.le_refl _) hr2) LB_X10_in lk_X10_61 (by omega) dX10_setPremium_12 rfl rfl (Nat.le_of_ble_eq_true rfl) (Nat.le_refl _) (Nat.le_refl _) [.int (b2i r2), .int (b2i r1), .ref (ad 0)] rfl ?_
  refine V_iconst 1 dX10_setPremium_15 (by decide) ?_
  obtain ⟨r3, hr3, hf⟩ := bno_some hf
  refine V_cV (As := [.int (b2i r1), .int (b2i r2), .int (1)]) (rest := []) (k_X10_goes (d := 0) (Nat.le_refl _) hr3) LB_X10_goes lk_X10_74 (by omega) dX10_setPremium_16 rfl rfl (Nat.le_of_ble_eq_true rfl) (Nat.le_refl _) (Nat.le_refl _) 0 rfl ⟨rfl, rfl⟩ [.int (b2i r3.1)] rfl ?_
  refine V_if_ne 24 dX10_setPremium_19 (by decide) (fun c1 => ?_) (fun c1 => ?_)
  · replace hf := (if_neg c1).symm.trans hf
    refine V_aload_n 0 rfl dX10_setPremium_24 rfl ?_
    obtain ⟨r4, hr4, hf⟩ := bno_some hf
    refine V_cV (As := []) (rest := []) (k_X10_save (d := 0) (Nat.le_refl _) hr4) LB_X10_save lk_X10_85 (by omega) dX10_setPremium_25 rfl rfl (Nat.le_of_ble_eq_true rfl) (Nat.le_refl _) (Nat.le_refl _) 0 rfl ⟨rfl, rfl⟩ [] rfl ?_
    refine V_aload_n 0 rfl dX10_setPremium_28 rfl ?_
    refine V_get (k := 0) RC_X10 fl_X10_7 rfl (by decide) dX10_setPremium_29 0 rfl rfl ?_
    refine V_sipush 306 dX10_setPremium_32 (by decide) ?_
    refine V_bipush 7 dX10_setPremium_35 (by decide) ?_
    refine V_iload_n 1 rfl dX10_setPremium_37 rfl ?_
    refine V_imul dX10_setPremium_38 ?_
    refine V_iadd dX10_setPremium_39 ?_
    refine V_iload_n 2 rfl dX10_setPremium_40 rfl ?_
    refine V_iadd dX10_setPremium_41 ?_
    obtain ⟨hi, hf⟩ := ixo_some hf
    refine V_iaload dX10_setPremium_42 1 rfl hi ?_
    obtain ⟨t1, et1, hf⟩ := lt_some hf
    refine V_topi et1 ?_
    refine V_istore [(0, .ref (ad 0)), (1, .int x1), (2, .int x2), (3, .int x3), (4, .int t1)] [1, 2, 3, 4, 0] dX10_setPremium_43 (by decide) rfl ?_
    refine V_aload_n 0 rfl dX10_setPremium_45 rfl ?_
    refine V_get (k := 0) RC_X10 fl_X10_7 rfl (by decide) dX10_setPremium_46 0 rfl rfl ?_
    refine V_sipush 306 dX10_setPremium_49 (by decide) ?_
    refine V_bipush 7 dX10_setPremium_52 (by decide) ?_
    refine V_iload_n 1 rfl dX10_setPremium_54 rfl ?_
    refine V_imul dX10_setPremium_55 ?_
    refine V_iadd dX10_setPremium_56 ?_
    refine V_iload_n 2 rfl dX10_setPremium_57 rfl ?_
    refine V_iadd dX10_setPremium_58 ?_
    refine V_iload_n 3 rfl dX10_setPremium_59 rfl ?_
    obtain ⟨hi, hf⟩ := ixo_some hf
    obtain ⟨σ1, eσ1, hf⟩ := lt_some hf
    refine V_iastore dX10_setPremium_60 1 rfl hi (wM G ad σ1) (by rw [eσ1]; rfl) ?_
    refine V_iload 4 rfl dX10_setPremium_61 ?_
    cases hf
    exact V_iret rfl dX10_setPremium_63 ⟨rfl, rfl⟩
  · replace hf := (if_pos c1).symm.trans hf
    refine V_iconst 0 dX10_setPremium_22 (by decide) ?_
    cases hf
    exact V_iret rfl dX10_setPremium_23 ⟨rfl, rfl⟩
theorem k_X10_setPremium {l : Launch} {G : Gv} {ad : Nat → Nat} {d : Nat} {σ : St} {q : (Int32 × St)} {x1 : Int32} {x2 : Int32} {x3 : Int32} (hd : 2 ≤ d) (hf : f_X10_setPremium σ x1 x2 x3 = some q) : K l G yX10_setPremium cX10_setPremium 5 (some .int) d 0 0 [.ref (ad 0), .int x1, .int x2, .int x3] (wM G ad σ) (pD (some (.int q.1)) (wM G ad q.2)) := K_intro (by decide) (Nat.le_of_ble_eq_true rfl) (v_X10_setPremium hd hf)
def f_X10_setRack_63 : Nat → St → Int32 → Int32 → Option (Int32 × St)
  | 0, _, _, _ => none
  | n + 1, σ, x1, x2 => if (gi σ 5) ≤ x2 then (lt (si σ 5 (0)) fun σ1 => some ((gi σ 5), σ1)) else (ixo x2 7 (ixo (((355) + ((8) * x1)) + (ga σ 4 (Int32.toNatClampNeg x2))) 373 (ixo (((355) + ((8) * x1)) + (ga σ 4 (Int32.toNatClampNeg x2))) 373 (lt (sa σ 0 (upd (ga σ 0) (Int32.toNatClampNeg (((355) + ((8) * x1)) + (ga σ 4 (Int32.toNatClampNeg x2)))) ((ga σ 0 (Int32.toNatClampNeg (((355) + ((8) * x1)) + (ga σ 4 (Int32.toNatClampNeg x2))))) + (1)))) fun σ2 => f_X10_setRack_63 n σ2 x1 (x2 + 1)))))
set_option maxHeartbeats 4000000 in
set_option maxRecDepth 100000 in
theorem v_X10_setRack_63 {l : Launch} {G : Gv} {ad : Nat → Nat} {d : Nat} {av0 : List Value} {w1 : va_W} {q : (Int32 × St)} (hd : 2 ≤ d) : ∀ (n : Nat) (σ : St) (x1 : Int32) (x2 : Int32), f_X10_setRack_63 n σ x1 x2 = some q → VV l G yX10_setRack cX10_setRack 3 (some .int) d 0 0 av0 w1 (pD (some (.int q.1)) (wM G ad q.2)) 0 0 (wM G ad σ) 63 [(0, .ref (ad 0)), (1, .int x1), (2, .int x2)] [] := by
  intro n
  induction n with
  | zero =>
    intro σ x1 x2 hf
    cases hf
  | succ n ih =>
    intro σ x1 x2 hf
    rw [f_X10_setRack_63] at hf
    refine V_iload_n 2 rfl dX10_setRack_63 rfl ?_
    refine V_aload_n 0 rfl dX10_setRack_64 rfl ?_
    refine V_get (k := 5) RC_X10 fl_X10_71 rfl (by decide) dX10_setRack_65 0 rfl rfl ?_
    refine V_icmp_ge 101 dX10_setRack_68 (by decide) (fun c1 => ?_) (fun c1 => ?_)
    · replace hf := (if_pos c1).symm.trans hf
      refine V_aload_n 0 rfl dX10_setRack_101 rfl ?_
      refine V_get (k := 5) RC_X10 fl_X10_71 rfl (by decide) dX10_setRack_102 0 rfl rfl ?_
      refine V_istore_n [(0, .ref (ad 0)), (1, .int x1), (2, .int (gi σ 5))] [1, 2, 0] dX10_setRack_105 rfl (by decide) rfl ?_
      refine V_aload_n 0 rfl dX10_setRack_106 rfl ?_
      refine V_iconst 0 dX10_setRack_107 (by decide) ?_
      obtain ⟨σ1, eσ1, hf⟩ := lt_some hf
      refine V_put (k := 5) RC_X10 fl_X10_71 rfl (by decide) rfl dX10_setRack_108 0 rfl (Nat.le_of_ble_eq_true rfl) rfl rfl (wM G ad σ1) (by rw [eσ1]; rfl) ?_
      refine V_iload_n 2 rfl dX10_setRack_111 rfl ?_
      cases hf
      exact V_iret rfl dX10_setRack_112 ⟨rfl, rfl⟩
    · replace hf := (if_neg c1).symm.trans hf
      refine V_aload_n 0 rfl dX10_setRack_71 rfl ?_
      refine V_get (k := 0) RC_X10 fl_X10_7 rfl (by decide) dX10_setRack_72 0 rfl rfl ?_
      refine V_sipush 355 dX10_setRack_75 (by decide) ?_
      refine V_bipush 8 dX10_setRack_78 (by decide) ?_
      refine V_iload_n 1 rfl dX10_setRack_80 rfl ?_
      refine V_imul dX10_setRack_81 ?_
      refine V_iadd dX10_setRack_82 ?_
      refine V_aload_n 0 rfl dX10_setRack_83 rfl ?_
      refine V_get (k := 4) RC_X10 fl_X10_16 rfl (by decide) dX10_setRack_84 0 rfl rfl ?_
      refine V_iload_n 2 rfl dX10_setRack_87 rfl ?_
      obtain ⟨hi, hf⟩ := ixo_some hf
      refine V_iaload dX10_setRack_88 3 rfl hi ?_
      refine V_iadd dX10_setRack_89 ?_
      refine V_dup2 rfl rfl dX10_setRack_90 ?_
      obtain ⟨hi, hf⟩ := ixo_some hf
      refine V_iaload dX10_setRack_91 1 rfl hi ?_
      refine V_iconst 1 dX10_setRack_92 (by decide) ?_
      refine V_iadd dX10_setRack_93 ?_
      obtain ⟨hi, hf⟩ := ixo_some hf
      obtain ⟨σ2, eσ2, hf⟩ := lt_some hf
      refine V_iastore dX10_setRack_94 1 rfl hi (wM G ad σ2) (by rw [eσ2]; rfl) ?_
      refine V_iinc (1) 2 [(0, .ref (ad 0)), (1, .int x1), (2, .int (x2 + 1))] [1, 2, 0] dX10_setRack_95 rfl (by decide) (by decide) rfl ?_
      refine V_goto 63 dX10_setRack_98 (by decide) ?_
      exact ih _ _ _ hf
def f_X10_setRack_33 : Nat → St → Int32 → Int32 → Option (Int32 × St)
  | 0, _, _, _ => none
  | n + 1, σ, x1, x2 => if (8) ≤ x2 then (f_X10_setRack_63 FU σ x1 (0)) else (ixo (((355) + ((8) * x1)) + x2) 373 (lt (sa σ 0 (upd (ga σ 0) (Int32.toNatClampNeg (((355) + ((8) * x1)) + x2)) (0))) fun σ1 => f_X10_setRack_33 n σ1 x1 (x2 + 1)))
set_option maxHeartbeats 4000000 in
set_option maxRecDepth 100000 in
theorem v_X10_setRack_33 {l : Launch} {G : Gv} {ad : Nat → Nat} {d : Nat} {av0 : List Value} {w1 : va_W} {q : (Int32 × St)} (hd : 2 ≤ d) : ∀ (n : Nat) (σ : St) (x1 : Int32) (x2 : Int32), f_X10_setRack_33 n σ x1 x2 = some q → VV l G yX10_setRack cX10_setRack 3 (some .int) d 0 0 av0 w1 (pD (some (.int q.1)) (wM G ad q.2)) 0 0 (wM G ad σ) 33 [(0, .ref (ad 0)), (1, .int x1), (2, .int x2)] [] := by
  intro n
  induction n with
  | zero =>
    intro σ x1 x2 hf
    cases hf
  | succ n ih =>
    intro σ x1 x2 hf
    rw [f_X10_setRack_33] at hf
    refine V_iload_n 2 rfl dX10_setRack_33 rfl ?_
    refine V_bipush 8 dX10_setRack_34 (by decide) ?_
    refine V_icmp_ge 61 dX10_setRack_36 (by decide) (fun c1 => ?_) (fun c1 => ?_)
    · replace hf := (if_pos c1).symm.trans hf
      refine V_iconst 0 dX10_setRack_61 (by decide) ?_
      refine V_istore_n [(0, .ref (ad 0)), (1, .int x1), (2, .int (0))] [1, 2, 0] dX10_setRack_62 rfl (by decide) rfl ?_
      exact v_X10_setRack_63 hd _ _ _ _ hf
    · replace hf := (if_neg c1).symm.trans hf
      refine V_aload_n 0 rfl dX10_setRack_39 rfl ?_
      refine V_get (k := 0) RC_X10 fl_X10_7 rfl (by decide) dX10_setRack_40 0 rfl rfl ?_
      refine V_sipush 355 dX10_setRack_43 (by decide) ?_
      refine V_bipush 8 dX10_setRack_46 (by decide) ?_
      refine V_iload_n 1 rfl dX10_setRack_48 rfl ?_
      refine V_imul dX10_setRack_49 ?_
      refine V_iadd dX10_setRack_50 ?_
      refine V_iload_n 2 rfl dX10_setRack_51 rfl ?_
      refine V_iadd dX10_setRack_52 ?_
      refine V_iconst 0 dX10_setRack_53 (by decide) ?_
      obtain ⟨hi, hf⟩ := ixo_some hf
      obtain ⟨σ1, eσ1, hf⟩ := lt_some hf
      refine V_iastore dX10_setRack_54 1 rfl hi (wM G ad σ1) (by rw [eσ1]; rfl) ?_
      refine V_iinc (1) 2 [(0, .ref (ad 0)), (1, .int x1), (2, .int (x2 + 1))] [1, 2, 0] dX10_setRack_55 rfl (by decide) (by decide) rfl ?_
      refine V_goto 33 dX10_setRack_58 (by decide) ?_
      exact ih _ _ _ hf
def f_X10_setRack_18 (σ : St) (x1 : Int32) (s1 : Int32) (s2 : Int32) : Option (Int32 × St) := bno (f_X10_goes σ s1 s2 (1)) fun r1 => if (b2i r1.1) = 0 then (some ((0), r1.2)) else (bno (f_X10_save r1.2) fun r2 => f_X10_setRack_33 FU r2 x1 (0))
set_option maxHeartbeats 4000000 in
set_option maxRecDepth 100000 in
theorem v_X10_setRack_18 {l : Launch} {G : Gv} {ad : Nat → Nat} {d : Nat} {av0 : List Value} {w1 : va_W} {q : (Int32 × St)} {σ : St} {x1 : Int32} {s1 : Int32} {s2 : Int32} (hd : 2 ≤ d) (hf : f_X10_setRack_18 σ x1 s1 s2 = some q) : VV l G yX10_setRack cX10_setRack 3 (some .int) d 0 0 av0 w1 (pD (some (.int q.1)) (wM G ad q.2)) 0 0 (wM G ad σ) 18 [(0, .ref (ad 0)), (1, .int x1)] [.int s2, .int s1, .ref (ad 0)] := by
  unfold f_X10_setRack_18 at hf
  refine V_iconst 1 dX10_setRack_18 (by decide) ?_
  obtain ⟨r1, hr1, hf⟩ := bno_some hf
  refine V_cV (As := [.int s1, .int s2, .int (1)]) (rest := []) (k_X10_goes (d := 0) (Nat.le_refl _) hr1) LB_X10_goes lk_X10_74 (by omega) dX10_setRack_19 rfl rfl (Nat.le_of_ble_eq_true rfl) (Nat.le_refl _) (Nat.le_refl _) 0 rfl ⟨rfl, rfl⟩ [.int (b2i r1.1)] rfl ?_
  refine V_if_ne 27 dX10_setRack_22 (by decide) (fun c1 => ?_) (fun c1 => ?_)
  · replace hf := (if_neg c1).symm.trans hf
    refine V_aload_n 0 rfl dX10_setRack_27 rfl ?_
    obtain ⟨r2, hr2, hf⟩ := bno_some hf
    refine V_cV (As := []) (rest := []) (k_X10_save (d := 0) (Nat.le_refl _) hr2) LB_X10_save lk_X10_85 (by omega) dX10_setRack_28 rfl rfl (Nat.le_of_ble_eq_true rfl) (Nat.le_refl _) (Nat.le_refl _) 0 rfl ⟨rfl, rfl⟩ [] rfl ?_
    refine V_iconst 0 dX10_setRack_31 (by decide) ?_
    refine V_istore_n [(0, .ref (ad 0)), (1, .int x1), (2, .int (0))] [1, 2, 0] dX10_setRack_32 rfl (by decide) rfl ?_
    exact v_X10_setRack_33 hd _ _ _ _ hf
  · replace hf := (if_pos c1).symm.trans hf
    refine V_iconst 0 dX10_setRack_25 (by decide) ?_
    cases hf
    exact V_iret rfl dX10_setRack_26 ⟨rfl, rfl⟩
def f_X10_setRack (σ : St) (x1 : Int32) : Option (Int32 × St) := bno (f_X10_isPlayer x1) fun r1 => if (5) < (gi σ 5) then (f_X10_setRack_18 σ x1 (b2i r1) (0)) else (f_X10_setRack_18 σ x1 (b2i r1) (1))
set_option maxHeartbeats 4000000 in
set_option maxRecDepth 100000 in
theorem v_X10_setRack {l : Launch} {G : Gv} {ad : Nat → Nat} {d : Nat} {av0 : List Value} {w1 : va_W} {q : (Int32 × St)} {σ : St} {x1 : Int32} (hd : 2 ≤ d) (hf : f_X10_setRack σ x1 = some q) : VV l G yX10_setRack cX10_setRack 3 (some .int) d 0 0 av0 w1 (pD (some (.int q.1)) (wM G ad q.2)) 0 0 (wM G ad σ) 0 [(0, .ref (ad 0)), (1, .int x1)] [] := by
  unfold f_X10_setRack at hf
  refine V_aload_n 0 rfl dX10_setRack_0 rfl ?_
  refine V_iload_n 1 rfl dX10_setRack_1 rfl ?_
  obtain ⟨r1, hr1, hf⟩ := bno_some hf
  refine V_cS (As := [.int x1]) (rest := [.ref (ad 0)]) (k_X10_isPlayer (d := 1) (Nat.le_refl _) hr1) LB_X10_isPlayer lk_X10_107 (by omega) dX10_setRack_2 rfl rfl (Nat.le_of_ble_eq_true rfl) (Nat.le_refl _) (Nat.le_refl _) [.int (b2i r1), .ref (ad 0)] rfl ?_
  refine V_aload_n 0 rfl dX10_setRack_5 rfl ?_
  refine V_get (k := 5) RC_X10 fl_X10_71 rfl (by decide) dX10_setRack_6 0 rfl rfl ?_
  refine V_iconst 5 dX10_setRack_9 (by decide) ?_
  refine V_icmp_gt 17 dX10_setRack_10 (by decide) (fun c1 => ?_) (fun c1 => ?_)
  · replace hf := (if_pos c1).symm.trans hf
    refine V_iconst 0 dX10_setRack_17 (by decide) ?_
    exact v_X10_setRack_18 hd hf
  · replace hf := (if_neg c1).symm.trans hf
    refine V_iconst 1 dX10_setRack_13 (by decide) ?_
    refine V_goto 18 dX10_setRack_14 (by decide) ?_
    exact v_X10_setRack_18 hd hf
theorem k_X10_setRack {l : Launch} {G : Gv} {ad : Nat → Nat} {d : Nat} {σ : St} {q : (Int32 × St)} {x1 : Int32} (hd : 2 ≤ d) (hf : f_X10_setRack σ x1 = some q) : K l G yX10_setRack cX10_setRack 3 (some .int) d 0 0 [.ref (ad 0), .int x1] (wM G ad σ) (pD (some (.int q.1)) (wM G ad q.2)) := K_intro (by decide) (Nat.le_of_ble_eq_true rfl) (v_X10_setRack hd hf)
