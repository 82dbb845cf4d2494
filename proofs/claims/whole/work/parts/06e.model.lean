theorem kc_X10_245 : Cond.constantLong RX10 245 (86893) ∈ tblG := tin 1166 (by decide +kernel) (by decide +kernel)
theorem kc_X10_247 : Cond.constantLong RX10 247 (31) ∈ tblG := tin 1167 (by decide +kernel) (by decide +kernel)
theorem LB_X10_searched : LB yX10_searched cX10_searched 6 (some .int) 1 := ⟨tin 1132 (by decide +kernel) (by decide +kernel), tin 8 (by decide +kernel) (by decide +kernel), by decide, by decide, by decide, by decide +kernel⟩
theorem lk_X10_242 : Cond.methodLink RX10 242 yX10_searched ∈ tblG ∧ Cond.instanceMethod yX10_searched ∈ tblG ∧ Cond.selects yX10_searched.cls yX10_searched yX10_searched ∈ tblG := ⟨tin 1129 (by decide +kernel) (by decide +kernel), tin 1131 (by decide +kernel) (by decide +kernel), tsel (q := (yX10_searched, 25)) (List.mem_of_getElem? (i := 49) (by decide +kernel))⟩
def f_X10_endgame_42 (σ : St) (x2 : Int32) (s1 : Int32) (s2 : Int32) : Option (Int32 × St) := bno (f_X10_goes σ s1 s2 (1)) fun r1 => if (b2i r1.1) = 0 then (some ((0), r1.2)) else (some (x2, r1.2))
set_option maxHeartbeats 4000000 in
set_option maxRecDepth 100000 in
theorem v_X10_endgame_42 {l : Launch} {G : Gv} {ad : Nat → Nat} {d : Nat} {av0 : List Value} {w1 : va_W} {q : (Int32 × St)} {σ : St} {x2 : Int32} {s1 : Int32} {s2 : Int32} (hd : 7 ≤ d) (hf : f_X10_endgame_42 σ x2 s1 s2 = some q) : VV l G yX10_endgame cX10_endgame 3 (some .int) d 0 0 av0 w1 (pD (some (.int q.1)) (wM G ad q.2)) 0 0 (wM G ad σ) 42 [(2, .int x2)] [.int s2, .int s1, .ref (ad 0)] := by
  unfold f_X10_endgame_42 at hf
  refine V_iconst 1 dX10_endgame_42 (by decide) ?_
  obtain ⟨r1, hr1, hf⟩ := bno_some hf
  refine V_cV (As := [.int s1, .int s2, .int (1)]) (rest := []) (k_X10_goes (d := 0) (Nat.le_refl _) hr1) LB_X10_goes lk_X10_74 (by omega) dX10_endgame_43 rfl rfl (Nat.le_of_ble_eq_true rfl) (Nat.le_refl _) (Nat.le_refl _) 0 rfl ⟨rfl, rfl⟩ [.int (b2i r1.1)] rfl ?_
  refine V_if_eq 53 dX10_endgame_46 (by decide) (fun c1 => ?_) (fun c1 => ?_)
  · replace hf := (if_pos c1).symm.trans hf
    refine V_iconst 0 dX10_endgame_53 (by decide) ?_
    cases hf
    exact V_iret rfl dX10_endgame_54 ⟨rfl, rfl⟩
  · replace hf := (if_neg c1).symm.trans hf
    refine V_iload_n 0 rfl dX10_endgame_49 rfl ?_
    refine V_goto 54 dX10_endgame_50 (by decide) ?_
    cases hf
    exact V_iret rfl dX10_endgame_54 ⟨rfl, rfl⟩
def f_X10_endgame (σ : St) (x1 : Int32) : Option (Int32 × St) := bno (f_X10_isPlayer x1) fun r1 => bno (f_X10_goes σ (b2i r1) (1) (1)) fun r2 => if (b2i r2.1) = 0 then (some ((0), r2.2)) else (bno (f_X10_laysNow r2.2) fun r3 => bno (f_X10_searched r3 x1) fun r4 => if (400) < (gi r4.2 24) then (f_X10_endgame_42 r4.2 r4.1 (1) (0)) else (f_X10_endgame_42 r4.2 r4.1 (1) (1)))
set_option maxHeartbeats 4000000 in
set_option maxRecDepth 100000 in
theorem v_X10_endgame {l : Launch} {G : Gv} {ad : Nat → Nat} {d : Nat} {av0 : List Value} {w1 : va_W} {q : (Int32 × St)} {σ : St} {x1 : Int32} (hd : 7 ≤ d) (hf : f_X10_endgame σ x1 = some q) : VV l G yX10_endgame cX10_endgame 3 (some .int) d 0 0 av0 w1 (pD (some (.int q.1)) (wM G ad q.2)) 0 0 (wM G ad σ) 0 [(0, .ref (ad 0)), (1, .int x1)] [] := by
  unfold f_X10_endgame at hf
  refine V_aload_n 0 rfl dX10_endgame_0 rfl ?_
  refine V_iload_n 1 rfl dX10_endgame_1 rfl ?_
  obtain ⟨r1, hr1, hf⟩ := bno_some hf
  refine V_cS (As := [.int x1]) (rest := [.ref (ad 0)]) (k_X10_isPlayer (d := 1) (Nat.le_refl _) hr1) LB_X10_isPlayer lk_X10_107 (by omega) dX10_endgame_2 rfl rfl (Nat.le_of_ble_eq_true rfl) (Nat.le_refl _) (Nat.le_refl _) [.int (b2i r1), .ref (ad 0)] rfl ?_
  refine V_iconst 1 dX10_endgame_5 (by decide) ?_
  refine V_iconst 1 dX10_endgame_6 (by decide) ?_
  obtain ⟨r2, hr2, hf⟩ := bno_some hf
  refine V_cV (As := [.int (b2i r1), .int (1), .int (1)]) (rest := []) (k_X10_goes (d := 0) (Nat.le_refl _) hr2) LB_X10_goes lk_X10_74 (by omega) dX10_endgame_7 rfl rfl (Nat.le_of_ble_eq_true rfl) (Nat.le_refl _) (Nat.le_refl _) 0 rfl ⟨rfl, rfl⟩ [.int (b2i r2.1)] rfl ?_
  refine V_if_ne 15 dX10_endgame_10 (by decide) (fun c1 => ?_) (fun c1 => ?_)
  · replace hf := (if_neg c1).symm.trans hf
    refine V_aload_n 0 rfl dX10_endgame_15 rfl ?_
    obtain ⟨r3, hr3, hf⟩ := bno_some hf
    refine V_cV (As := []) (rest := []) (k_X10_laysNow (d := 0) (Nat.le_refl _) hr3) LB_X10_laysNow lk_X10_130 (by omega) dX10_endgame_16 rfl rfl (Nat.le_of_ble_eq_true rfl) (Nat.le_refl _) (Nat.le_refl _) 0 rfl ⟨rfl, rfl⟩ [] rfl ?_
    refine V_aload_n 0 rfl dX10_endgame_19 rfl ?_
    refine V_iload_n 1 rfl dX10_endgame_20 rfl ?_
    obtain ⟨r4, hr4, hf⟩ := bno_some hf
    refine V_cV (As := [.int x1]) (rest := []) (k_X10_searched (d := 6) (Nat.le_refl _) hr4) LB_X10_searched lk_X10_242 (by omega) dX10_endgame_21 rfl rfl (Nat.le_of_ble_eq_true rfl) (Nat.le_refl _) (Nat.le_refl _) 0 rfl ⟨rfl, rfl⟩ [.int r4.1] rfl ?_
    refine V_istore_n [(0, .ref (ad 0)), (1, .int x1), (2, .int r4.1)] [1, 2, 0] dX10_endgame_24 rfl (by decide) rfl ?_
    refine V_aload_n 0 rfl dX10_endgame_25 rfl ?_
    refine V_iconst 1 dX10_endgame_26 (by decide) ?_
    refine V_aload_n 0 rfl dX10_endgame_27 rfl ?_
    refine V_get (k := 24) RC_X10 fl_X10_223 rfl (by decide) dX10_endgame_28 0 rfl rfl ?_
    refine V_sipush 400 dX10_endgame_31 (by decide) ?_
    refine V_icmp_gt 41 dX10_endgame_34 (by decide) (fun c2 => ?_) (fun c2 => ?_)
    · replace hf := (if_pos c2).symm.trans hf
      refine V_iconst 0 dX10_endgame_41 (by decide) ?_
      refine V_lv [(2, .int r4.1)] [2] rfl ?_
      exact v_X10_endgame_42 hd hf
    · replace hf := (if_neg c2).symm.trans hf
      refine V_iconst 1 dX10_endgame_37 (by decide) ?_
      refine V_goto 42 dX10_endgame_38 (by decide) ?_
      refine V_lv [(2, .int r4.1)] [2] rfl ?_
      exact v_X10_endgame_42 hd hf
  · replace hf := (if_pos c1).symm.trans hf
    refine V_iconst 0 dX10_endgame_13 (by decide) ?_
    cases hf
    exact V_iret rfl dX10_endgame_14 ⟨rfl, rfl⟩
theorem k_X10_endgame {l : Launch} {G : Gv} {ad : Nat → Nat} {d : Nat} {σ : St} {q : (Int32 × St)} {x1 : Int32} (hd : 7 ≤ d) (hf : f_X10_endgame σ x1 = some q) : K l G yX10_endgame cX10_endgame 3 (some .int) d 0 0 [.ref (ad 0), .int x1] (wM G ad σ) (pD (some (.int q.1)) (wM G ad q.2)) := K_intro (by decide) (Nat.le_of_ble_eq_true rfl) (v_X10_endgame hd hf)
def f_X10_undo_35 : Nat → St → Int32 → Option (Int32 × St)
  | 0, _, _ => none
  | n + 1, σ, x1 => if (373) ≤ x1 then (some ((gi σ 2), σ)) else (ixo (((373) * (gi σ 2)) + x1) 1492 (ixo x1 373 (lt (sa σ 0 (upd (ga σ 0) (Int32.toNatClampNeg x1) (ga σ 1 (Int32.toNatClampNeg (((373) * (gi σ 2)) + x1))))) fun σ1 => f_X10_undo_35 n σ1 (x1 + 1))))
set_option maxHeartbeats 4000000 in
set_option maxRecDepth 100000 in
theorem v_X10_undo_35 {l : Launch} {G : Gv} {ad : Nat → Nat} {d : Nat} {av0 : List Value} {w1 : va_W} {q : (Int32 × St)} (hd : 1 ≤ d) : ∀ (n : Nat) (σ : St) (x1 : Int32), f_X10_undo_35 n σ x1 = some q → VV l G yX10_undo cX10_undo 2 (some .int) d 0 0 av0 w1 (pD (some (.int q.1)) (wM G ad q.2)) 0 0 (wM G ad σ) 35 [(0, .ref (ad 0)), (1, .int x1)] [] := by
  intro n
  induction n with
  | zero =>
    intro σ x1 hf
    cases hf
  | succ n ih =>
    intro σ x1 hf
    rw [f_X10_undo_35] at hf
    refine V_iload_n 1 rfl dX10_undo_35 rfl ?_
    refine V_sipush 373 dX10_undo_36 (by decide) ?_
    refine V_icmp_ge 69 dX10_undo_39 (by decide) (fun c1 => ?_) (fun c1 => ?_)
    · replace hf := (if_pos c1).symm.trans hf
      refine V_aload_n 0 rfl dX10_undo_69 rfl ?_
      refine V_get (k := 2) RC_X10 fl_X10_56 rfl (by decide) dX10_undo_70 0 rfl rfl ?_
      cases hf
      exact V_iret rfl dX10_undo_73 ⟨rfl, rfl⟩
    · replace hf := (if_neg c1).symm.trans hf
      refine V_aload_n 0 rfl dX10_undo_42 rfl ?_
      refine V_get (k := 0) RC_X10 fl_X10_7 rfl (by decide) dX10_undo_43 0 rfl rfl ?_
      refine V_iload_n 1 rfl dX10_undo_46 rfl ?_
      refine V_aload_n 0 rfl dX10_undo_47 rfl ?_
      refine V_get (k := 1) RC_X10 fl_X10_13 rfl (by decide) dX10_undo_48 0 rfl rfl ?_
      refine V_sipush 373 dX10_undo_51 (by decide) ?_
      refine V_aload_n 0 rfl dX10_undo_54 rfl ?_
      refine V_get (k := 2) RC_X10 fl_X10_56 rfl (by decide) dX10_undo_55 0 rfl rfl ?_
      refine V_imul dX10_undo_58 ?_
      refine V_iload_n 1 rfl dX10_undo_59 rfl ?_
      refine V_iadd dX10_undo_60 ?_
      obtain ⟨hi, hf⟩ := ixo_some hf
      refine V_iaload dX10_undo_61 2 rfl hi ?_
      obtain ⟨hi, hf⟩ := ixo_some hf
      obtain ⟨σ1, eσ1, hf⟩ := lt_some hf
      refine V_iastore dX10_undo_62 1 rfl hi (wM G ad σ1) (by rw [eσ1]; rfl) ?_
      refine V_iinc (1) 1 [(0, .ref (ad 0)), (1, .int (x1 + 1))] [1, 0] dX10_undo_63 rfl (by decide) (by decide) rfl ?_
      refine V_goto 35 dX10_undo_66 (by decide) ?_
      exact ih _ _ hf
def f_X10_undo_13 (σ : St) (s1 : Int32) : Option (Int32 × St) := bno (f_X10_goes σ s1 (1) (1)) fun r1 => if (b2i r1.1) = 0 then (some ((0), r1.2)) else (lt (si r1.2 2 ((gi r1.2 2) - (1))) fun σ1 => f_X10_undo_35 FU σ1 (0))
set_option maxHeartbeats 4000000 in
set_option maxRecDepth 100000 in
theorem v_X10_undo_13 {l : Launch} {G : Gv} {ad : Nat → Nat} {d : Nat} {av0 : List Value} {w1 : va_W} {q : (Int32 × St)} {σ : St} {s1 : Int32} (hd : 1 ≤ d) (hf : f_X10_undo_13 σ s1 = some q) : VV l G yX10_undo cX10_undo 2 (some .int) d 0 0 av0 w1 (pD (some (.int q.1)) (wM G ad q.2)) 0 0 (wM G ad σ) 13 [(0, .ref (ad 0))] [.int s1, .ref (ad 0)] := by
  unfold f_X10_undo_13 at hf
  refine V_iconst 1 dX10_undo_13 (by decide) ?_
  refine V_iconst 1 dX10_undo_14 (by decide) ?_
  obtain ⟨r1, hr1, hf⟩ := bno_some hf
  refine V_cV (As := [.int s1, .int (1), .int (1)]) (rest := []) (k_X10_goes (d := 0) (Nat.le_refl _) hr1) LB_X10_goes lk_X10_74 (by omega) dX10_undo_15 rfl rfl (Nat.le_of_ble_eq_true rfl) (Nat.le_refl _) (Nat.le_refl _) 0 rfl ⟨rfl, rfl⟩ [.int (b2i r1.1)] rfl ?_
  refine V_if_ne 23 dX10_undo_18 (by decide) (fun c1 => ?_) (fun c1 => ?_)
  · replace hf := (if_neg c1).symm.trans hf
    refine V_aload_n 0 rfl dX10_undo_23 rfl ?_
    refine V_dup rfl dX10_undo_24 ?_
    refine V_get (k := 2) RC_X10 fl_X10_56 rfl (by decide) dX10_undo_25 0 rfl rfl ?_
    refine V_iconst 1 dX10_undo_28 (by decide) ?_
    refine V_isub dX10_undo_29 ?_
    obtain ⟨σ1, eσ1, hf⟩ := lt_some hf
    refine V_put (k := 2) RC_X10 fl_X10_56 rfl (by decide) rfl dX10_undo_30 0 rfl (Nat.le_of_ble_eq_true rfl) rfl rfl (wM G ad σ1) (by rw [eσ1]; rfl) ?_
    refine V_iconst 0 dX10_undo_33 (by decide) ?_
    refine V_istore_n [(0, .ref (ad 0)), (1, .int (0))] [1, 0] dX10_undo_34 rfl (by decide) rfl ?_
    exact v_X10_undo_35 hd _ _ _ hf
  · replace hf := (if_pos c1).symm.trans hf
    refine V_iconst 0 dX10_undo_21 (by decide) ?_
    cases hf
    exact V_iret rfl dX10_undo_22 ⟨rfl, rfl⟩
def f_X10_undo (σ : St) : Option (Int32 × St) := if (gi σ 2) ≤ 0 then (f_X10_undo_13 σ (0)) else (f_X10_undo_13 σ (1))
set_option maxHeartbeats 4000000 in
set_option maxRecDepth 100000 in
theorem v_X10_undo {l : Launch} {G : Gv} {ad : Nat → Nat} {d : Nat} {av0 : List Value} {w1 : va_W} {q : (Int32 × St)} {σ : St} (hd : 1 ≤ d) (hf : f_X10_undo σ = some q) : VV l G yX10_undo cX10_undo 2 (some .int) d 0 0 av0 w1 (pD (some (.int q.1)) (wM G ad q.2)) 0 0 (wM G ad σ) 0 [(0, .ref (ad 0))] [] := by
  unfold f_X10_undo at hf
  refine V_aload_n 0 rfl dX10_undo_0 rfl ?_
  refine V_aload_n 0 rfl dX10_undo_1 rfl ?_
  refine V_get (k := 2) RC_X10 fl_X10_56 rfl (by decide) dX10_undo_2 0 rfl rfl ?_
  refine V_if_le 12 dX10_undo_5 (by decide) (fun c1 => ?_) (fun c1 => ?_)
  · replace hf := (if_pos c1).symm.trans hf
    refine V_iconst 0 dX10_undo_12 (by decide) ?_
    exact v_X10_undo_13 hd hf
  · replace hf := (if_neg c1).symm.trans hf
    refine V_iconst 1 dX10_undo_8 (by decide) ?_
    refine V_goto 13 dX10_undo_9 (by decide) ?_
    exact v_X10_undo_13 hd hf
theorem k_X10_undo {l : Launch} {G : Gv} {ad : Nat → Nat} {d : Nat} {σ : St} {q : (Int32 × St)} (hd : 1 ≤ d) (hf : f_X10_undo σ = some q) : K l G yX10_undo cX10_undo 2 (some .int) d 0 0 [.ref (ad 0)] (wM G ad σ) (pD (some (.int q.1)) (wM G ad q.2)) := K_intro (by decide) (Nat.le_of_ble_eq_true rfl) (v_X10_undo hd hf)
def f_X10_digest_235 (bk227 : St → Int64 → Int32 → Option (Int64 × St)) : Nat → St → Int64 → Int32 → Int32 → Option (Int64 × St)
  | 0, _, _, _, _ => none
  | n + 1, σ, x1, x3, x4 => if (8) ≤ x4 then (ixo ((371) + x3) 373 (bno (f_X10_playsOf σ x3) fun r1 => lt (((31) * (((31) * x1) + (Int32.toInt64 (ga σ 0 (Int32.toNatClampNeg ((371) + x3)))))) + (Int32.toInt64 r1.1)) fun t1 => bk227 r1.2 t1 (x3 + 1))) else (ixo (((355) + ((8) * x3)) + x4) 373 (lt (((31) * x1) + (Int32.toInt64 (ga σ 0 (Int32.toNatClampNeg (((355) + ((8) * x3)) + x4))))) fun t2 => f_X10_digest_235 bk227 n σ t2 x3 (x4 + 1)))
set_option maxHeartbeats 4000000 in
set_option maxRecDepth 100000 in
theorem v_X10_digest_235 {l : Launch} {G : Gv} {ad : Nat → Nat} {d : Nat} {av0 : List Value} {w1 : va_W} {q : (Int64 × St)} {bk227 : St → Int64 → Int32 → Option (Int64 × St)} (hd : 7 ≤ d) (hb227 : ∀ (σ : St) (x1 : Int64) (x3 : Int32), bk227 σ x1 x3 = some q → VV l G yX10_digest cX10_digest 5 (some .long) d 0 0 av0 w1 (pD (some (.long q.1)) (wM G ad q.2)) 0 0 (wM G ad σ) 227 [(0, .ref (ad 0)), (1, .long x1), (3, .int x3)] []) : ∀ (n : Nat) (σ : St) (x1 : Int64) (x3 : Int32) (x4 : Int32), f_X10_digest_235 bk227 n σ x1 x3 x4 = some q → VV l G yX10_digest cX10_digest 5 (some .long) d 0 0 av0 w1 (pD (some (.long q.1)) (wM G ad q.2)) 0 0 (wM G ad σ) 235 [(0, .ref (ad 0)), (1, .long x1), (3, .int x3), (4, .int x4)] [] := by
  intro n
  induction n with
  | zero =>
    intro σ x1 x3 x4 hf
    cases hf
  | succ n ih =>
    intro σ x1 x3 x4 hf
    rw [f_X10_digest_235] at hf
    refine V_iload 3 rfl dX10_digest_235 ?_
    refine V_bipush 8 dX10_digest_237 (by decide) ?_
    refine V_icmp_ge 272 dX10_digest_239 (by decide) (fun c1 => ?_) (fun c1 => ?_)
    · replace hf := (if_pos c1).symm.trans hf
      refine V_ldc2 (31) kc_X10_247 dX10_digest_272 ?_
      refine V_ldc2 (31) kc_X10_247 dX10_digest_275 ?_
      refine V_lload_n 1 rfl dX10_digest_278 rfl ?_
      refine V_lmul dX10_digest_279 ?_
      refine V_aload_n 0 rfl dX10_digest_280 rfl ?_
      refine V_get (k := 0) RC_X10 fl_X10_7 rfl (by decide) dX10_digest_281 0 rfl rfl ?_
      refine V_sipush 371 dX10_digest_284 (by decide) ?_
      refine V_iload_n 2 rfl dX10_digest_287 rfl ?_
      refine V_iadd dX10_digest_288 ?_
      obtain ⟨hi, hf⟩ := ixo_some hf
      refine V_iaload dX10_digest_289 1 rfl hi ?_
      refine V_i2l dX10_digest_290 ?_
      refine V_ladd dX10_digest_291 ?_
      refine V_lmul dX10_digest_292 ?_
      refine V_aload_n 0 rfl dX10_digest_293 rfl ?_
      refine V_iload_n 2 rfl dX10_digest_294 rfl ?_
      obtain ⟨r1, hr1, hf⟩ := bno_some hf
      refine V_cV (As := [.int x3]) (rest := [.long ((31) * (((31) * x1) + (Int32.toInt64 (ga σ 0 (Int32.toNatClampNeg ((371) + x3))))))]) (k_X10_playsOf (d := 6) (Nat.le_refl _) hr1) LB_X10_playsOf lk_X10_197 (by omega) dX10_digest_295 rfl rfl (Nat.le_of_ble_eq_true rfl) (Nat.le_refl _) (Nat.le_refl _) 0 rfl ⟨rfl, rfl⟩ [.int r1.1, .long ((31) * (((31) * x1) + (Int32.toInt64 (ga σ 0 (Int32.toNatClampNeg ((371) + x3))))))] rfl ?_
      refine V_i2l dX10_digest_298 ?_
      refine V_ladd dX10_digest_299 ?_
      obtain ⟨t1, et1, hf⟩ := lt_some hf
      refine V_topl et1 ?_
      refine V_lstore_n [(0, .ref (ad 0)), (1, .long t1), (3, .int x3), (4, .int x4)] [1, 0, 2, 3] dX10_digest_300 rfl (by decide) rfl ?_
      refine V_iinc (1) 2 [(0, .ref (ad 0)), (1, .long t1), (3, .int (x3 + 1)), (4, .int x4)] [1, 2, 0, 3] dX10_digest_301 rfl (by decide) (by decide) rfl ?_
      refine V_goto 227 dX10_digest_304 (by decide) ?_
      refine V_lv [(0, .ref (ad 0)), (1, .long t1), (3, .int (x3 + 1))] [0, 1, 2] rfl ?_
      exact hb227 _ _ _ hf
    · replace hf := (if_neg c1).symm.trans hf
      refine V_ldc2 (31) kc_X10_247 dX10_digest_242 ?_
      refine V_lload_n 1 rfl dX10_digest_245 rfl ?_
      refine V_lmul dX10_digest_246 ?_
      refine V_aload_n 0 rfl dX10_digest_247 rfl ?_
      refine V_get (k := 0) RC_X10 fl_X10_7 rfl (by decide) dX10_digest_248 0 rfl rfl ?_
      refine V_sipush 355 dX10_digest_251 (by decide) ?_
      refine V_bipush 8 dX10_digest_254 (by decide) ?_
      refine V_iload_n 2 rfl dX10_digest_256 rfl ?_
      refine V_imul dX10_digest_257 ?_
      refine V_iadd dX10_digest_258 ?_
      refine V_iload 3 rfl dX10_digest_259 ?_
      refine V_iadd dX10_digest_261 ?_
      obtain ⟨hi, hf⟩ := ixo_some hf
      refine V_iaload dX10_digest_262 1 rfl hi ?_
      refine V_i2l dX10_digest_263 ?_
      refine V_ladd dX10_digest_264 ?_
      obtain ⟨t2, et2, hf⟩ := lt_some hf
      refine V_topl et2 ?_
      refine V_lstore_n [(0, .ref (ad 0)), (1, .long t2), (3, .int x3), (4, .int x4)] [1, 0, 2, 3] dX10_digest_265 rfl (by decide) rfl ?_
      refine V_iinc (1) 3 [(0, .ref (ad 0)), (1, .long t2), (3, .int x3), (4, .int (x4 + 1))] [1, 2, 3, 0] dX10_digest_266 rfl (by decide) (by decide) rfl ?_
      refine V_goto 235 dX10_digest_269 (by decide) ?_
      exact ih _ _ _ _ hf
def f_X10_digest_227 : Nat → St → Int64 → Int32 → Option (Int64 × St)
  | 0, _, _, _ => none
  | n + 1, σ, x1, x3 => if (2) ≤ x3 then (bno (f_X10_anchorsNow σ) fun r1 => some ((((31) * (((31) * x1) + (Int32.toInt64 r1))) + (Int32.toInt64 (gi σ 2))), σ)) else (f_X10_digest_235 (f_X10_digest_227 n) FU σ x1 x3 (0))
set_option maxHeartbeats 4000000 in
set_option maxRecDepth 100000 in
theorem v_X10_digest_227 {l : Launch} {G : Gv} {ad : Nat → Nat} {d : Nat} {av0 : List Value} {w1 : va_W} {q : (Int64 × St)} (hd : 7 ≤ d) : ∀ (n : Nat) (σ : St) (x1 : Int64) (x3 : Int32), f_X10_digest_227 n σ x1 x3 = some q → VV l G yX10_digest cX10_digest 5 (some .long) d 0 0 av0 w1 (pD (some (.long q.1)) (wM G ad q.2)) 0 0 (wM G ad σ) 227 [(0, .ref (ad 0)), (1, .long x1), (3, .int x3)] [] := by
  intro n
  induction n with
  | zero =>
    intro σ x1 x3 hf
    cases hf
  | succ n ih =>
    intro σ x1 x3 hf
    rw [f_X10_digest_227] at hf
    refine V_iload_n 2 rfl dX10_digest_227 rfl ?_
    refine V_iconst 2 dX10_digest_228 (by decide) ?_
    refine V_icmp_ge 307 dX10_digest_229 (by decide) (fun c1 => ?_) (fun c1 => ?_)
    · replace hf := (if_pos c1).symm.trans hf
      refine V_ldc2 (31) kc_X10_247 dX10_digest_307 ?_
      refine V_ldc2 (31) kc_X10_247 dX10_digest_310 ?_
      refine V_lload_n 1 rfl dX10_digest_313 rfl ?_
      refine V_lmul dX10_digest_314 ?_
      refine V_aload_n 0 rfl dX10_digest_315 rfl ?_
      obtain ⟨r1, hr1, hf⟩ := bno_some hf
      refine V_cV (As := []) (rest := [.long ((31) * x1), .long (31)]) (k_X10_anchorsNow (d := 4) (Nat.le_refl _) hr1) LB_X10_anchorsNow lk_X10_144 (by omega) dX10_digest_316 rfl rfl (Nat.le_of_ble_eq_true rfl) (Nat.le_refl _) (Nat.le_refl _) 0 rfl ⟨rfl, rfl⟩ [.int r1, .long ((31) * x1), .long (31)] rfl ?_
      refine V_i2l dX10_digest_319 ?_
      refine V_ladd dX10_digest_320 ?_
      refine V_lmul dX10_digest_321 ?_
      refine V_aload_n 0 rfl dX10_digest_322 rfl ?_
      refine V_get (k := 2) RC_X10 fl_X10_56 rfl (by decide) dX10_digest_323 0 rfl rfl ?_
      refine V_i2l dX10_digest_326 ?_
      refine V_ladd dX10_digest_327 ?_
      cases hf
      exact V_lret rfl dX10_digest_328 ⟨rfl, rfl⟩
    · replace hf := (if_neg c1).symm.trans hf
      refine V_iconst 0 dX10_digest_232 (by decide) ?_
      refine V_istore [(0, .ref (ad 0)), (1, .long x1), (3, .int x3), (4, .int (0))] [1, 2, 3, 0] dX10_digest_233 (by decide) rfl ?_
      exact v_X10_digest_235 hd ih _ _ _ _ _ hf
def f_X10_digest_175 : Nat → St → Int64 → Int32 → Option (Int64 × St)
  | 0, _, _, _ => none
  | n + 1, σ, x1, x3 => if (49) ≤ x3 then (bno (f_X10_laysNow σ) fun r1 => f_X10_digest_227 FU r1 x1 (0)) else (ixo ((257) + x3) 373 (ixo ((306) + x3) 373 (lt (((31) * (((31) * x1) + (Int32.toInt64 (ga σ 0 (Int32.toNatClampNeg ((257) + x3)))))) + (Int32.toInt64 (ga σ 0 (Int32.toNatClampNeg ((306) + x3))))) fun t1 => f_X10_digest_175 n σ t1 (x3 + 1))))
set_option maxHeartbeats 4000000 in
set_option maxRecDepth 100000 in
theorem v_X10_digest_175 {l : Launch} {G : Gv} {ad : Nat → Nat} {d : Nat} {av0 : List Value} {w1 : va_W} {q : (Int64 × St)} (hd : 7 ≤ d) : ∀ (n : Nat) (σ : St) (x1 : Int64) (x3 : Int32), f_X10_digest_175 n σ x1 x3 = some q → VV l G yX10_digest cX10_digest 5 (some .long) d 0 0 av0 w1 (pD (some (.long q.1)) (wM G ad q.2)) 0 0 (wM G ad σ) 175 [(0, .ref (ad 0)), (1, .long x1), (3, .int x3)] [] := by
  intro n
  induction n with
  | zero =>
    intro σ x1 x3 hf
    cases hf
  | succ n ih =>
    intro σ x1 x3 hf
    rw [f_X10_digest_175] at hf
    refine V_iload_n 2 rfl dX10_digest_175 rfl ?_
    refine V_bipush 49 dX10_digest_176 (by decide) ?_
    refine V_icmp_ge 221 dX10_digest_178 (by decide) (fun c1 => ?_) (fun c1 => ?_)
    · replace hf := (if_pos c1).symm.trans hf
      refine V_aload_n 0 rfl dX10_digest_221 rfl ?_
      obtain ⟨r1, hr1, hf⟩ := bno_some hf
      refine V_cV (As := []) (rest := []) (k_X10_laysNow (d := 0) (Nat.le_refl _) hr1) LB_X10_laysNow lk_X10_130 (by omega) dX10_digest_222 rfl rfl (Nat.le_of_ble_eq_true rfl) (Nat.le_refl _) (Nat.le_refl _) 0 rfl ⟨rfl, rfl⟩ [] rfl ?_
      refine V_iconst 0 dX10_digest_225 (by decide) ?_
      refine V_istore_n [(0, .ref (ad 0)), (1, .long x1), (3, .int (0))] [1, 2, 0] dX10_digest_226 rfl (by decide) rfl ?_
      exact v_X10_digest_227 hd _ _ _ _ hf
    · replace hf := (if_neg c1).symm.trans hf
      refine V_ldc2 (31) kc_X10_247 dX10_digest_181 ?_
      refine V_ldc2 (31) kc_X10_247 dX10_digest_184 ?_
      refine V_lload_n 1 rfl dX10_digest_187 rfl ?_
      refine V_lmul dX10_digest_188 ?_
      refine V_aload_n 0 rfl dX10_digest_189 rfl ?_
      refine V_get (k := 0) RC_X10 fl_X10_7 rfl (by decide) dX10_digest_190 0 rfl rfl ?_
      refine V_sipush 257 dX10_digest_193 (by decide) ?_
      refine V_iload_n 2 rfl dX10_digest_196 rfl ?_
      refine V_iadd dX10_digest_197 ?_
      obtain ⟨hi, hf⟩ := ixo_some hf
      refine V_iaload dX10_digest_198 1 rfl hi ?_
      refine V_i2l dX10_digest_199 ?_
      refine V_ladd dX10_digest_200 ?_
      refine V_lmul dX10_digest_201 ?_
      refine V_aload_n 0 rfl dX10_digest_202 rfl ?_
      refine V_get (k := 0) RC_X10 fl_X10_7 rfl (by decide) dX10_digest_203 0 rfl rfl ?_
      refine V_sipush 306 dX10_digest_206 (by decide) ?_
      refine V_iload_n 2 rfl dX10_digest_209 rfl ?_
      refine V_iadd dX10_digest_210 ?_
      obtain ⟨hi, hf⟩ := ixo_some hf
      refine V_iaload dX10_digest_211 1 rfl hi ?_
      refine V_i2l dX10_digest_212 ?_
      refine V_ladd dX10_digest_213 ?_
      obtain ⟨t1, et1, hf⟩ := lt_some hf
      refine V_topl et1 ?_
      refine V_lstore_n [(0, .ref (ad 0)), (1, .long t1), (3, .int x3)] [1, 0, 2] dX10_digest_214 rfl (by decide) rfl ?_
      refine V_iinc (1) 2 [(0, .ref (ad 0)), (1, .long t1), (3, .int (x3 + 1))] [1, 2, 0] dX10_digest_215 rfl (by decide) (by decide) rfl ?_
      refine V_goto 175 dX10_digest_218 (by decide) ?_
      exact ih _ _ _ hf
def f_X10_digest_121 (bk107 : St → Int64 → Int32 → Option (Int64 × St)) : Nat → St → Int64 → Int32 → Int32 → Option (Int64 × St)
  | 0, _, _, _, _ => none
  | n + 1, σ, x1, x3, x4 => ixo ((17) + ((8) * x3)) 373 (if (ga σ 0 (Int32.toNatClampNeg ((17) + ((8) * x3)))) < x4 then (bk107 σ x1 (x3 + 1)) else (ixo (((17) + ((8) * x3)) + x4) 373 (lt (((31) * x1) + (Int32.toInt64 (ga σ 0 (Int32.toNatClampNeg (((17) + ((8) * x3)) + x4))))) fun t1 => f_X10_digest_121 bk107 n σ t1 x3 (x4 + 1))))
set_option maxHeartbeats 4000000 in
set_option maxRecDepth 100000 in
theorem v_X10_digest_121 {l : Launch} {G : Gv} {ad : Nat → Nat} {d : Nat} {av0 : List Value} {w1 : va_W} {q : (Int64 × St)} {bk107 : St → Int64 → Int32 → Option (Int64 × St)} (hd : 7 ≤ d) (hb107 : ∀ (σ : St) (x1 : Int64) (x3 : Int32), bk107 σ x1 x3 = some q → VV l G yX10_digest cX10_digest 5 (some .long) d 0 0 av0 w1 (pD (some (.long q.1)) (wM G ad q.2)) 0 0 (wM G ad σ) 107 [(0, .ref (ad 0)), (1, .long x1), (3, .int x3)] []) : ∀ (n : Nat) (σ : St) (x1 : Int64) (x3 : Int32) (x4 : Int32), f_X10_digest_121 bk107 n σ x1 x3 x4 = some q → VV l G yX10_digest cX10_digest 5 (some .long) d 0 0 av0 w1 (pD (some (.long q.1)) (wM G ad q.2)) 0 0 (wM G ad σ) 121 [(0, .ref (ad 0)), (1, .long x1), (3, .int x3), (4, .int x4)] [] := by
  intro n
  induction n with
  | zero =>
    intro σ x1 x3 x4 hf
    cases hf
  | succ n ih =>
    intro σ x1 x3 x4 hf
    rw [f_X10_digest_121] at hf
    refine V_iload 3 rfl dX10_digest_121 ?_
    refine V_aload_n 0 rfl dX10_digest_123 rfl ?_
    refine V_get (k := 0) RC_X10 fl_X10_7 rfl (by decide) dX10_digest_124 0 rfl rfl ?_
    refine V_bipush 17 dX10_digest_127 (by decide) ?_
    refine V_bipush 8 dX10_digest_129 (by decide) ?_
    refine V_iload_n 2 rfl dX10_digest_131 rfl ?_
    refine V_imul dX10_digest_132 ?_
    refine V_iadd dX10_digest_133 ?_
    obtain ⟨hi, hf⟩ := ixo_some hf
    refine V_iaload dX10_digest_134 1 rfl hi ?_
    refine V_icmp_gt 167 dX10_digest_135 (by decide) (fun c1 => ?_) (fun c1 => ?_)
    · replace hf := (if_pos c1).symm.trans hf
      refine V_iinc (1) 2 [(0, .ref (ad 0)), (1, .long x1), (3, .int (x3 + 1)), (4, .int x4)] [1, 2, 0, 3] dX10_digest_167 rfl (by decide) (by decide) rfl ?_
      refine V_goto 107 dX10_digest_170 (by decide) ?_
      refine V_lv [(0, .ref (ad 0)), (1, .long x1), (3, .int (x3 + 1))] [0, 1, 2] rfl ?_
      exact hb107 _ _ _ hf
    · replace hf := (if_neg c1).symm.trans hf
      refine V_ldc2 (31) kc_X10_247 dX10_digest_138 ?_
      refine V_lload_n 1 rfl dX10_digest_141 rfl ?_
      refine V_lmul dX10_digest_142 ?_
      refine V_aload_n 0 rfl dX10_digest_143 rfl ?_
      refine V_get (k := 0) RC_X10 fl_X10_7 rfl (by decide) dX10_digest_144 0 rfl rfl ?_
      refine V_bipush 17 dX10_digest_147 (by decide) ?_
      refine V_bipush 8 dX10_digest_149 (by decide) ?_
      refine V_iload_n 2 rfl dX10_digest_151 rfl ?_
      refine V_imul dX10_digest_152 ?_
      refine V_iadd dX10_digest_153 ?_
      refine V_iload 3 rfl dX10_digest_154 ?_
      refine V_iadd dX10_digest_156 ?_
      obtain ⟨hi, hf⟩ := ixo_some hf
      refine V_iaload dX10_digest_157 1 rfl hi ?_
      refine V_i2l dX10_digest_158 ?_
      refine V_ladd dX10_digest_159 ?_
      obtain ⟨t1, et1, hf⟩ := lt_some hf
      refine V_topl et1 ?_
      refine V_lstore_n [(0, .ref (ad 0)), (1, .long t1), (3, .int x3), (4, .int x4)] [1, 0, 2, 3] dX10_digest_160 rfl (by decide) rfl ?_
      refine V_iinc (1) 3 [(0, .ref (ad 0)), (1, .long t1), (3, .int x3), (4, .int (x4 + 1))] [1, 2, 3, 0] dX10_digest_161 rfl (by decide) (by decide) rfl ?_
      refine V_goto 121 dX10_digest_164 (by decide) ?_
      exact ih _ _ _ _ hf
def f_X10_digest_107 : Nat → St → Int64 → Int32 → Option (Int64 × St)
  | 0, _, _, _ => none
  | n + 1, σ, x1, x3 => ixo (16) 373 (if (ga σ 0 (Int32.toNatClampNeg (16))) ≤ x3 then (f_X10_digest_175 FU σ x1 (0)) else (f_X10_digest_121 (f_X10_digest_107 n) FU σ x1 x3 (0)))
set_option maxHeartbeats 4000000 in
set_option maxRecDepth 100000 in
theorem v_X10_digest_107 {l : Launch} {G : Gv} {ad : Nat → Nat} {d : Nat} {av0 : List Value} {w1 : va_W} {q : (Int64 × St)} (hd : 7 ≤ d) : ∀ (n : Nat) (σ : St) (x1 : Int64) (x3 : Int32), f_X10_digest_107 n σ x1 x3 = some q → VV l G yX10_digest cX10_digest 5 (some .long) d 0 0 av0 w1 (pD (some (.long q.1)) (wM G ad q.2)) 0 0 (wM G ad σ) 107 [(0, .ref (ad 0)), (1, .long x1), (3, .int x3)] [] := by
  intro n
  induction n with
  | zero =>
    intro σ x1 x3 hf
    cases hf
  | succ n ih =>
    intro σ x1 x3 hf
    rw [f_X10_digest_107] at hf
    refine V_iload_n 2 rfl dX10_digest_107 rfl ?_
    refine V_aload_n 0 rfl dX10_digest_108 rfl ?_
    refine V_get (k := 0) RC_X10 fl_X10_7 rfl (by decide) dX10_digest_109 0 rfl rfl ?_
    refine V_bipush 16 dX10_digest_112 (by decide) ?_
    obtain ⟨hi, hf⟩ := ixo_some hf
    refine V_iaload dX10_digest_114 1 rfl hi ?_
    refine V_icmp_ge 173 dX10_digest_115 (by decide) (fun c1 => ?_) (fun c1 => ?_)
    · replace hf := (if_pos c1).symm.trans hf
      refine V_iconst 0 dX10_digest_173 (by decide) ?_
      refine V_istore_n [(0, .ref (ad 0)), (1, .long x1), (3, .int (0))] [1, 2, 0] dX10_digest_174 rfl (by decide) rfl ?_
      exact v_X10_digest_175 hd _ _ _ _ hf
    · replace hf := (if_neg c1).symm.trans hf
      refine V_iconst 0 dX10_digest_118 (by decide) ?_
      refine V_istore [(0, .ref (ad 0)), (1, .long x1), (3, .int x3), (4, .int (0))] [1, 2, 3, 0] dX10_digest_119 (by decide) rfl ?_
      exact v_X10_digest_121 hd ih _ _ _ _ _ hf
def f_X10_digest_47 : Nat → St → Int64 → Int32 → Option (Int64 × St)
  | 0, _, _, _ => none
  | n + 1, σ, x1, x3 => if (8) ≤ x3 then (ixo (16) 373 (lt (((31) * x1) + (Int32.toInt64 (ga σ 0 (Int32.toNatClampNeg (16))))) fun t1 => f_X10_digest_107 FU σ t1 (0))) else (ixo ((0) + x3) 373 (ixo ((8) + x3) 373 (lt (((31) * (((31) * x1) + (Int32.toInt64 (ga σ 0 (Int32.toNatClampNeg ((0) + x3)))))) + (Int32.toInt64 (ga σ 0 (Int32.toNatClampNeg ((8) + x3))))) fun t2 => f_X10_digest_47 n σ t2 (x3 + 1))))
set_option maxHeartbeats 4000000 in
set_option maxRecDepth 100000 in
theorem v_X10_digest_47 {l : Launch} {G : Gv} {ad : Nat → Nat} {d : Nat} {av0 : List Value} {w1 : va_W} {q : (Int64 × St)} (hd : 7 ≤ d) : ∀ (n : Nat) (σ : St) (x1 : Int64) (x3 : Int32), f_X10_digest_47 n σ x1 x3 = some q → VV l G yX10_digest cX10_digest 5 (some .long) d 0 0 av0 w1 (pD (some (.long q.1)) (wM G ad q.2)) 0 0 (wM G ad σ) 47 [(0, .ref (ad 0)), (1, .long x1), (3, .int x3)] [] := by
  intro n
  induction n with
  | zero =>
    intro σ x1 x3 hf
    cases hf
  | succ n ih =>
    intro σ x1 x3 hf
    rw [f_X10_digest_47] at hf
    refine V_iload_n 2 rfl dX10_digest_47 rfl ?_
    refine V_bipush 8 dX10_digest_48 (by decide) ?_
    refine V_icmp_ge 90 dX10_digest_50 (by decide) (fun c1 => ?_) (fun c1 => ?_)
    · replace hf := (if_pos c1).symm.trans hf
      refine V_ldc2 (31) kc_X10_247 dX10_digest_90 ?_
      refine V_lload_n 1 rfl dX10_digest_93 rfl ?_
      refine V_lmul dX10_digest_94 ?_
      refine V_aload_n 0 rfl dX10_digest_95 rfl ?_
      refine V_get (k := 0) RC_X10 fl_X10_7 rfl (by decide) dX10_digest_96 0 rfl rfl ?_
      refine V_bipush 16 dX10_digest_99 (by decide) ?_
      obtain ⟨hi, hf⟩ := ixo_some hf
      refine V_iaload dX10_digest_101 1 rfl hi ?_
      refine V_i2l dX10_digest_102 ?_
      refine V_ladd dX10_digest_103 ?_
      obtain ⟨t1, et1, hf⟩ := lt_some hf
      refine V_topl et1 ?_
      refine V_lstore_n [(0, .ref (ad 0)), (1, .long t1), (3, .int x3)] [1, 0, 2] dX10_digest_104 rfl (by decide) rfl ?_
      refine V_iconst 0 dX10_digest_105 (by decide) ?_
      refine V_istore_n [(0, .ref (ad 0)), (1, .long t1), (3, .int (0))] [1, 2, 0] dX10_digest_106 rfl (by decide) rfl ?_
      exact v_X10_digest_107 hd _ _ _ _ hf
    · replace hf := (if_neg c1).symm.trans hf
      refine V_ldc2 (31) kc_X10_247 dX10_digest_53 ?_
      refine V_ldc2 (31) kc_X10_247 dX10_digest_56 ?_
      refine V_lload_n 1 rfl dX10_digest_59 rfl ?_
      refine V_lmul dX10_digest_60 ?_
      refine V_aload_n 0 rfl dX10_digest_61 rfl ?_
      refine V_get (k := 0) RC_X10 fl_X10_7 rfl (by decide) dX10_digest_62 0 rfl rfl ?_
      refine V_iconst 0 dX10_digest_65 (by decide) ?_
      refine V_iload_n 2 rfl dX10_digest_66 rfl ?_
      refine V_iadd dX10_digest_67 ?_
      obtain ⟨hi, hf⟩ := ixo_some hf
      refine V_iaload dX10_digest_68 1 rfl hi ?_
      refine V_i2l dX10_digest_69 ?_
      refine V_ladd dX10_digest_70 ?_
      refine V_lmul dX10_digest_71 ?_
      refine V_aload_n 0 rfl dX10_digest_72 rfl ?_
      refine V_get (k := 0) RC_X10 fl_X10_7 rfl (by decide) dX10_digest_73 0 rfl rfl ?_
      refine V_bipush 8 dX10_digest_76 (by decide) ?_
      refine V_iload_n 2 rfl dX10_digest_78 rfl ?_
      refine V_iadd dX10_digest_79 ?_
      obtain ⟨hi, hf⟩ := ixo_some hf
      refine V_iaload dX10_digest_80 1 rfl hi ?_
      refine V_i2l dX10_digest_81 ?_
      refine V_ladd dX10_digest_82 ?_
      obtain ⟨t2, et2, hf⟩ := lt_some hf
      refine V_topl et2 ?_
      refine V_lstore_n [(0, .ref (ad 0)), (1, .long t2), (3, .int x3)] [1, 0, 2] dX10_digest_83 rfl (by decide) rfl ?_
      refine V_iinc (1) 2 [(0, .ref (ad 0)), (1, .long t2), (3, .int (x3 + 1))] [1, 2, 0] dX10_digest_84 rfl (by decide) (by decide) rfl ?_
      refine V_goto 47 dX10_digest_87 (by decide) ?_
      exact ih _ _ _ hf
def f_X10_digest_17 : Nat → St → Int64 → Int32 → Option (Int64 × St)
  | 0, _, _, _ => none
  | n + 1, σ, x1, x3 => if (gi σ 5) ≤ x3 then (f_X10_digest_47 FU σ x1 (0)) else (ixo x3 7 (lt (((31) * x1) + (Int32.toInt64 (ga σ 4 (Int32.toNatClampNeg x3)))) fun t1 => f_X10_digest_17 n σ t1 (x3 + 1)))
set_option maxHeartbeats 4000000 in
set_option maxRecDepth 100000 in
theorem v_X10_digest_17 {l : Launch} {G : Gv} {ad : Nat → Nat} {d : Nat} {av0 : List Value} {w1 : va_W} {q : (Int64 × St)} (hd : 7 ≤ d) : ∀ (n : Nat) (σ : St) (x1 : Int64) (x3 : Int32), f_X10_digest_17 n σ x1 x3 = some q → VV l G yX10_digest cX10_digest 5 (some .long) d 0 0 av0 w1 (pD (some (.long q.1)) (wM G ad q.2)) 0 0 (wM G ad σ) 17 [(0, .ref (ad 0)), (1, .long x1), (3, .int x3)] [] := by
  intro n
  induction n with
  | zero =>
    intro σ x1 x3 hf
    cases hf
  | succ n ih =>
    intro σ x1 x3 hf
    rw [f_X10_digest_17] at hf
    refine V_iload_n 2 rfl dX10_digest_17 rfl ?_
    refine V_aload_n 0 rfl dX10_digest_18 rfl ?_
    refine V_get (k := 5) RC_X10 fl_X10_71 rfl (by decide) dX10_digest_19 0 rfl rfl ?_
    refine V_icmp_ge 45 dX10_digest_22 (by decide) (fun c1 => ?_) (fun c1 => ?_)
    · replace hf := (if_pos c1).symm.trans hf
      refine V_iconst 0 dX10_digest_45 (by decide) ?_
      refine V_istore_n [(0, .ref (ad 0)), (1, .long x1), (3, .int (0))] [1, 2, 0] dX10_digest_46 rfl (by decide) rfl ?_
      exact v_X10_digest_47 hd _ _ _ _ hf
    · replace hf := (if_neg c1).symm.trans hf
      refine V_ldc2 (31) kc_X10_247 dX10_digest_25 ?_
      refine V_lload_n 1 rfl dX10_digest_28 rfl ?_
      refine V_lmul dX10_digest_29 ?_
      refine V_aload_n 0 rfl dX10_digest_30 rfl ?_
      refine V_get (k := 4) RC_X10 fl_X10_16 rfl (by decide) dX10_digest_31 0 rfl rfl ?_
      refine V_iload_n 2 rfl dX10_digest_34 rfl ?_
      obtain ⟨hi, hf⟩ := ixo_some hf
      refine V_iaload dX10_digest_35 3 rfl hi ?_
      refine V_i2l dX10_digest_36 ?_
      refine V_ladd dX10_digest_37 ?_
      obtain ⟨t1, et1, hf⟩ := lt_some hf
      refine V_topl et1 ?_
      refine V_lstore_n [(0, .ref (ad 0)), (1, .long t1), (3, .int x3)] [1, 0, 2] dX10_digest_38 rfl (by decide) rfl ?_
      refine V_iinc (1) 2 [(0, .ref (ad 0)), (1, .long t1), (3, .int (x3 + 1))] [1, 2, 0] dX10_digest_39 rfl (by decide) (by decide) rfl ?_
      refine V_goto 17 dX10_digest_42 (by decide) ?_
      exact ih _ _ _ hf
def f_X10_digest (σ : St) : Option (Int64 × St) := lt (si σ 3 (0)) fun σ1 => f_X10_digest_17 FU σ1 ((86893) + (Int32.toInt64 (gi σ1 5))) (0)
set_option maxHeartbeats 4000000 in
set_option maxRecDepth 100000 in
theorem v_X10_digest {l : Launch} {G : Gv} {ad : Nat → Nat} {d : Nat} {av0 : List Value} {w1 : va_W} {q : (Int64 × St)} {σ : St} (hd : 7 ≤ d) (hf : f_X10_digest σ = some q) : VV l G yX10_digest cX10_digest 5 (some .long) d 0 0 av0 w1 (pD (some (.long q.1)) (wM G ad q.2)) 0 0 (wM G ad σ) 0 [(0, .ref (ad 0))] [] := by
  unfold f_X10_digest at hf
  refine V_aload_n 0 rfl dX10_digest_0 rfl ?_
  refine V_iconst 0 dX10_digest_1 (by decide) ?_
  obtain ⟨σ1, eσ1, hf⟩ := lt_some hf
  refine V_put (k := 3) RC_X10 fl_X10_52 rfl (by decide) rfl dX10_digest_2 0 rfl (Nat.le_of_ble_eq_true rfl) rfl rfl (wM G ad σ1) (by rw [eσ1]; rfl) ?_
  refine V_ldc2 (86893) kc_X10_245 dX10_digest_5 ?_
  refine V_aload_n 0 rfl dX10_digest_8 rfl ?_
  refine V_get (k := 5) RC_X10 fl_X10_71 rfl (by decide) dX10_digest_9 0 rfl rfl ?_
  refine V_i2l dX10_digest_12 ?_
  refine V_ladd dX10_digest_13 ?_
  refine V_lstore_n [(0, .ref (ad 0)), (1, .long ((86893) + (Int32.toInt64 (gi σ1 5))))] [1, 0] dX10_digest_14 rfl (by decide) rfl ?_
  refine V_iconst 0 dX10_digest_15 (by decide) ?_
  refine V_istore_n [(0, .ref (ad 0)), (1, .long ((86893) + (Int32.toInt64 (gi σ1 5)))), (3, .int (0))] [1, 2, 0] dX10_digest_16 rfl (by decide) rfl ?_
  exact v_X10_digest_17 hd _ _ _ _ hf
theorem k_X10_digest {l : Launch} {G : Gv} {ad : Nat → Nat} {d : Nat} {σ : St} {q : (Int64 × St)} (hd : 7 ≤ d) (hf : f_X10_digest σ = some q) : K l G yX10_digest cX10_digest 5 (some .long) d 0 0 [.ref (ad 0)] (wM G ad σ) (pD (some (.long q.1)) (wM G ad q.2)) := K_intro (by decide) (Nat.le_of_ble_eq_true rfl) (v_X10_digest hd hf)
