/-! ===== the law's own small methods ===== -/
def wO (G : Gv) (ad : Nat → Nat) (σ : S2) (ts : List Tb) (ao : Nat) (fo : Nat → Int64) : va_W := wC G ad σ.1 ++ (wH G ad σ.2.1 σ.2.2.1 ts ++ [(ao, .inl (G.2.2.2, 1, .inr (.inl fo)))])
def wo (r : Nat ⊕ Int32) (fo : Nat → Int64) : Nat → Int64 := match r with
  | .inl _ => fo
  | .inr v => vp_updL fo 0 v.toInt64
def wob (r : Nat ⊕ Bool) (fo : Nat → Int64) : Nat → Int64 := match r with
  | .inl _ => fo
  | .inr true => vp_updL fo 0 1
  | .inr false => vp_updL fo 0 0
/-- which catch takes an exception: 1, 2 or 3; 0: none was thrown -/
def wk {α : Type} (l : List Nat) (r : Nat ⊕ α) : Int32 := match r with
  | .inr _ => 0
  | .inl c => if l[0]? = some c then 1 else if l[1]? = some c then 2 else 3
theorem wO_len (G : Gv) (ad : Nat → Nat) (σ : S2) (ts : List Tb) : (wC G ad σ.1 ++ wH G ad σ.2.1 σ.2.2.1 ts).length = 15 + (wTs G ts).length := by
  unfold wC wH
  simp only [List.length_append, List.length_cons, List.length_nil]
  omega
theorem vp01 : vp_in 0 1 := by
  unfold vp_in
  decide
theorem wO_as (G : Gv) (ad : Nat → Nat) (σ : S2) (ts : List Tb) (ao : Nat) (fo : Nat → Int64) : wO G ad σ ts ao fo = (wC G ad σ.1 ++ wH G ad σ.2.1 σ.2.2.1 ts) ++ [(ao, .inl (G.2.2.2, 1, .inr (.inl fo)))] := by
  unfold wO
  rw [List.append_assoc]
theorem wO_out (G : Gv) (ad : Nat → Nat) (σ : S2) (ts : List Tb) (ao : Nat) (fo : Nat → Int64) : (wO G ad σ ts ao fo)[15 + (wTs G ts).length]? = some (ao, .inl (G.2.2.2, 1, .inr (.inl fo))) := by
  rw [wO_as, List.getElem?_append_right (by rw [wO_len]; exact Nat.le_refl _), wO_len, Nat.sub_self]
  rfl
theorem wO_set (G : Gv) (ad : Nat → Nat) (σ : S2) (ts : List Tb) (ao : Nat) (fo f2 : Nat → Int64) : (wO G ad σ ts ao fo).set (15 + (wTs G ts).length) (ao, .inl (G.2.2.2, 1, .inr (.inl f2))) = wO G ad σ ts ao f2 := by
  rw [wO_as, wO_as, List.set_append_right _ _ (by rw [wO_len]; exact Nat.le_refl _), wO_len, Nat.sub_self]
  rfl
theorem LB_X9_addWord : LB yX9_addWord cX9_addWord 1 (some .int) 0 := ⟨tin 467 (by decide +kernel) (by decide +kernel), tin 1 (by decide +kernel) (by decide +kernel), by decide, by decide, by decide, by decide +kernel⟩
theorem lk_L_17 : Cond.methodLink RL 17 yX9_addWord ∈ tblG ∧ Cond.instanceMethod yX9_addWord ∈ tblG ∧ Cond.selects yX9_addWord.cls yX9_addWord yX9_addWord ∈ tblG := ⟨tin 464 (by decide +kernel) (by decide +kernel), tin 465 (by decide +kernel) (by decide +kernel), tin 466 (by decide +kernel) (by decide +kernel)⟩
theorem LB_X9_setLetter : LB yX9_setLetter cX9_setLetter 5 (some .int) 3 := ⟨tin 512 (by decide +kernel) (by decide +kernel), tin 1 (by decide +kernel) (by decide +kernel), by decide, by decide, by decide, by decide +kernel⟩
theorem lk_L_21 : Cond.methodLink RL 21 yX9_setLetter ∈ tblG ∧ Cond.instanceMethod yX9_setLetter ∈ tblG ∧ Cond.selects yX9_setLetter.cls yX9_setLetter yX9_setLetter ∈ tblG := ⟨tin 509 (by decide +kernel) (by decide +kernel), tin 510 (by decide +kernel) (by decide +kernel), tin 511 (by decide +kernel) (by decide +kernel)⟩
theorem LB_X9_setPremium : LB yX9_setPremium cX9_setPremium 6 (some .int) 3 := ⟨tin 526 (by decide +kernel) (by decide +kernel), tin 1 (by decide +kernel) (by decide +kernel), by decide, by decide, by decide, by decide +kernel⟩
theorem lk_L_25 : Cond.methodLink RL 25 yX9_setPremium ∈ tblG ∧ Cond.instanceMethod yX9_setPremium ∈ tblG ∧ Cond.selects yX9_setPremium.cls yX9_setPremium yX9_setPremium ∈ tblG := ⟨tin 523 (by decide +kernel) (by decide +kernel), tin 524 (by decide +kernel) (by decide +kernel), tin 525 (by decide +kernel) (by decide +kernel)⟩
theorem LB_X9_setRack : LB yX9_setRack cX9_setRack 3 (some .int) 1 := ⟨tin 557 (by decide +kernel) (by decide +kernel), tin 1 (by decide +kernel) (by decide +kernel), by decide, by decide, by decide, by decide +kernel⟩
theorem lk_L_30 : Cond.methodLink RL 30 yX9_setRack ∈ tblG ∧ Cond.instanceMethod yX9_setRack ∈ tblG ∧ Cond.selects yX9_setRack.cls yX9_setRack yX9_setRack ∈ tblG := ⟨tin 554 (by decide +kernel) (by decide +kernel), tin 555 (by decide +kernel) (by decide +kernel), tin 556 (by decide +kernel) (by decide +kernel)⟩
theorem LB_X9_setTile : LB yX9_setTile cX9_setTile 6 (some .int) 3 := ⟨tin 579 (by decide +kernel) (by decide +kernel), tin 1 (by decide +kernel) (by decide +kernel), by decide, by decide, by decide, by decide +kernel⟩
theorem lk_L_33 : Cond.methodLink RL 33 yX9_setTile ∈ tblG ∧ Cond.instanceMethod yX9_setTile ∈ tblG ∧ Cond.selects yX9_setTile.cls yX9_setTile yX9_setTile ∈ tblG := ⟨tin 576 (by decide +kernel) (by decide +kernel), tin 577 (by decide +kernel) (by decide +kernel), tin 578 (by decide +kernel) (by decide +kernel)⟩
theorem LB_X9_tileAt : LB yX9_tileAt cX9_tileAt 3 (some .int) 2 := ⟨tin 594 (by decide +kernel) (by decide +kernel), tin 1 (by decide +kernel) (by decide +kernel), by decide, by decide, by decide, by decide +kernel⟩
theorem lk_L_36 : Cond.methodLink RL 36 yX9_tileAt ∈ tblG ∧ Cond.instanceMethod yX9_tileAt ∈ tblG ∧ Cond.selects yX9_tileAt.cls yX9_tileAt yX9_tileAt ∈ tblG := ⟨tin 591 (by decide +kernel) (by decide +kernel), tin 592 (by decide +kernel) (by decide +kernel), tin 593 (by decide +kernel) (by decide +kernel)⟩
theorem LB_X9_onRack : LB yX9_onRack cX9_onRack 3 (some .int) 2 := ⟨tin 601 (by decide +kernel) (by decide +kernel), tin 1 (by decide +kernel) (by decide +kernel), by decide, by decide, by decide, by decide +kernel⟩
theorem lk_L_40 : Cond.methodLink RL 40 yX9_onRack ∈ tblG ∧ Cond.instanceMethod yX9_onRack ∈ tblG ∧ Cond.selects yX9_onRack.cls yX9_onRack yX9_onRack ∈ tblG := ⟨tin 598 (by decide +kernel) (by decide +kernel), tin 599 (by decide +kernel) (by decide +kernel), tin 600 (by decide +kernel) (by decide +kernel)⟩
theorem LB_X9_score : LB yX9_score cX9_score 2 (some .int) 1 := ⟨tin 608 (by decide +kernel) (by decide +kernel), tin 1 (by decide +kernel) (by decide +kernel), by decide, by decide, by decide, by decide +kernel⟩
theorem lk_L_43 : Cond.methodLink RL 43 yX9_score ∈ tblG ∧ Cond.instanceMethod yX9_score ∈ tblG ∧ Cond.selects yX9_score.cls yX9_score yX9_score ∈ tblG := ⟨tin 605 (by decide +kernel) (by decide +kernel), tin 606 (by decide +kernel) (by decide +kernel), tin 607 (by decide +kernel) (by decide +kernel)⟩
theorem LB_X9_crossSet : LB yX9_crossSet cX9_crossSet 4 (some .int) 3 := ⟨tin 615 (by decide +kernel) (by decide +kernel), tin 1 (by decide +kernel) (by decide +kernel), by decide, by decide, by decide, by decide +kernel⟩
theorem lk_L_46 : Cond.methodLink RL 46 yX9_crossSet ∈ tblG ∧ Cond.instanceMethod yX9_crossSet ∈ tblG ∧ Cond.selects yX9_crossSet.cls yX9_crossSet yX9_crossSet ∈ tblG := ⟨tin 612 (by decide +kernel) (by decide +kernel), tin 613 (by decide +kernel) (by decide +kernel), tin 614 (by decide +kernel) (by decide +kernel)⟩
theorem LB_X9_isAnchor : LB yX9_isAnchor cX9_isAnchor 3 (some .boolean) 2 := ⟨tin 633 (by decide +kernel) (by decide +kernel), tin 1 (by decide +kernel) (by decide +kernel), by decide, by decide, by decide, by decide +kernel⟩
theorem lk_L_49 : Cond.methodLink RL 49 yX9_isAnchor ∈ tblG ∧ Cond.instanceMethod yX9_isAnchor ∈ tblG ∧ Cond.selects yX9_isAnchor.cls yX9_isAnchor yX9_isAnchor ∈ tblG := ⟨tin 630 (by decide +kernel) (by decide +kernel), tin 631 (by decide +kernel) (by decide +kernel), tin 632 (by decide +kernel) (by decide +kernel)⟩
theorem LB_X9_check : LB yX9_check cX9_check 5 (some .int) 4 := ⟨tin 640 (by decide +kernel) (by decide +kernel), tin 1 (by decide +kernel) (by decide +kernel), by decide, by decide, by decide, by decide +kernel⟩
theorem lk_L_53 : Cond.methodLink RL 53 yX9_check ∈ tblG ∧ Cond.instanceMethod yX9_check ∈ tblG ∧ Cond.selects yX9_check.cls yX9_check yX9_check ∈ tblG := ⟨tin 637 (by decide +kernel) (by decide +kernel), tin 638 (by decide +kernel) (by decide +kernel), tin 639 (by decide +kernel) (by decide +kernel)⟩
theorem LB_X9_play : LB yX9_play cX9_play 7 (some .int) 4 := ⟨tin 649 (by decide +kernel) (by decide +kernel), tin 1 (by decide +kernel) (by decide +kernel), by decide, by decide, by decide, by decide +kernel⟩
theorem lk_L_57 : Cond.methodLink RL 57 yX9_play ∈ tblG ∧ Cond.instanceMethod yX9_play ∈ tblG ∧ Cond.selects yX9_play.cls yX9_play yX9_play ∈ tblG := ⟨tin 646 (by decide +kernel) (by decide +kernel), tin 647 (by decide +kernel) (by decide +kernel), tin 648 (by decide +kernel) (by decide +kernel)⟩
theorem LB_X9_plays : LB yX9_plays cX9_plays 2 (some .int) 1 := ⟨tin 696 (by decide +kernel) (by decide +kernel), tin 1 (by decide +kernel) (by decide +kernel), by decide, by decide, by decide, by decide +kernel⟩
theorem lk_L_60 : Cond.methodLink RL 60 yX9_plays ∈ tblG ∧ Cond.instanceMethod yX9_plays ∈ tblG ∧ Cond.selects yX9_plays.cls yX9_plays yX9_plays ∈ tblG := ⟨tin 693 (by decide +kernel) (by decide +kernel), tin 694 (by decide +kernel) (by decide +kernel), tin 695 (by decide +kernel) (by decide +kernel)⟩
theorem LB_X9_playAt : LB yX9_playAt cX9_playAt 6 (some .int) 3 := ⟨tin 703 (by decide +kernel) (by decide +kernel), tin 1 (by decide +kernel) (by decide +kernel), by decide, by decide, by decide, by decide +kernel⟩
theorem lk_L_63 : Cond.methodLink RL 63 yX9_playAt ∈ tblG ∧ Cond.instanceMethod yX9_playAt ∈ tblG ∧ Cond.selects yX9_playAt.cls yX9_playAt yX9_playAt ∈ tblG := ⟨tin 700 (by decide +kernel) (by decide +kernel), tin 701 (by decide +kernel) (by decide +kernel), tin 702 (by decide +kernel) (by decide +kernel)⟩
theorem LB_X9_bestPlay : LB yX9_bestPlay cX9_bestPlay 2 (some .int) 1 := ⟨tin 733 (by decide +kernel) (by decide +kernel), tin 1 (by decide +kernel) (by decide +kernel), by decide, by decide, by decide, by decide +kernel⟩
theorem lk_L_66 : Cond.methodLink RL 66 yX9_bestPlay ∈ tblG ∧ Cond.instanceMethod yX9_bestPlay ∈ tblG ∧ Cond.selects yX9_bestPlay.cls yX9_bestPlay yX9_bestPlay ∈ tblG := ⟨tin 730 (by decide +kernel) (by decide +kernel), tin 731 (by decide +kernel) (by decide +kernel), tin 732 (by decide +kernel) (by decide +kernel)⟩
theorem LB_X9_playBest : LB yX9_playBest cX9_playBest 3 (some .int) 1 := ⟨tin 745 (by decide +kernel) (by decide +kernel), tin 1 (by decide +kernel) (by decide +kernel), by decide, by decide, by decide, by decide +kernel⟩
theorem lk_L_69 : Cond.methodLink RL 69 yX9_playBest ∈ tblG ∧ Cond.instanceMethod yX9_playBest ∈ tblG ∧ Cond.selects yX9_playBest.cls yX9_playBest yX9_playBest ∈ tblG := ⟨tin 742 (by decide +kernel) (by decide +kernel), tin 743 (by decide +kernel) (by decide +kernel), tin 744 (by decide +kernel) (by decide +kernel)⟩
theorem LB_X9_type : LB yX9_type cX9_type 2 (some .int) 1 := ⟨tin 371 (by decide +kernel) (by decide +kernel), tin 1 (by decide +kernel) (by decide +kernel), by decide, by decide, by decide, by decide +kernel⟩
theorem lk_L_7 : Cond.methodLink RL 7 yX9_type ∈ tblG ∧ Cond.instanceMethod yX9_type ∈ tblG ∧ Cond.selects yX9_type.cls yX9_type yX9_type ∈ tblG := ⟨tin 368 (by decide +kernel) (by decide +kernel), tin 369 (by decide +kernel) (by decide +kernel), tin 370 (by decide +kernel) (by decide +kernel)⟩
theorem LB_X9_endgame : LB yX9_endgame cX9_endgame 3 (some .int) 1 := ⟨tin 753 (by decide +kernel) (by decide +kernel), tin 1 (by decide +kernel) (by decide +kernel), by decide, by decide, by decide, by decide +kernel⟩
theorem lk_L_72 : Cond.methodLink RL 72 yX9_endgame ∈ tblG ∧ Cond.instanceMethod yX9_endgame ∈ tblG ∧ Cond.selects yX9_endgame.cls yX9_endgame yX9_endgame ∈ tblG := ⟨tin 750 (by decide +kernel) (by decide +kernel), tin 751 (by decide +kernel) (by decide +kernel), tin 752 (by decide +kernel) (by decide +kernel)⟩
theorem LB_X9_undo : LB yX9_undo cX9_undo 1 (some .int) 0 := ⟨tin 809 (by decide +kernel) (by decide +kernel), tin 1 (by decide +kernel) (by decide +kernel), by decide, by decide, by decide, by decide +kernel⟩
theorem lk_L_75 : Cond.methodLink RL 75 yX9_undo ∈ tblG ∧ Cond.instanceMethod yX9_undo ∈ tblG ∧ Cond.selects yX9_undo.cls yX9_undo yX9_undo ∈ tblG := ⟨tin 806 (by decide +kernel) (by decide +kernel), tin 807 (by decide +kernel) (by decide +kernel), tin 808 (by decide +kernel) (by decide +kernel)⟩
theorem cl_L_13 : Cond.classLink RL 13 (exN 0) ∈ tblG := tin 366 (by decide +kernel) (by decide +kernel)
theorem cl_L_15 : Cond.classLink RL 15 (exN 1) ∈ tblG := tin 367 (by decide +kernel) (by decide +kernel)
theorem cl_L_28 : Cond.classLink RL 28 (exN 2) ∈ tblG := tin 522 (by decide +kernel) (by decide +kernel)
set_option maxHeartbeats 4000000 in
set_option maxRecDepth 100000 in
theorem k_L_type {l : Launch} {G : Gv} {ad : Nat → Nat} {d ao : Nat} {σ : S2} {ts : List Tb} {fo : Nat → Int64} {q : ((Nat ⊕ Int32) × St)} {x1 : Int32} (hd : 9 ≤ d) (hts : ts.map (fun q => q.2) = σ.2.2.2) (hc : ∀ c, q.1 = .inl c → c ∈ [0, 1]) (hf : f_X9_type σ.1 x1 = some q) : XK l G yL_type (.codeWith yL_type cL_type 4 (some .int) [(0, 9, 12, 13), (0, 9, 15, 15)]) d 16 256 [.ref (ad 0), .int x1, .ref ao] (wO G ad σ ts ao fo) (.inr (some (.int (wk [0, 1] q.1)))) (fun w => ∃ ts1 : List Tb, ts1.map (fun q => q.2) = ((q.2, σ.2)).2.2.2 ∧ w = wO G ad ((q.2, σ.2)) ts1 ao (wo q.1 fo)) := X_introH (by decide) (Nat.le_of_ble_eq_true rfl) (by
  refine X_aload_n 2 rfl dL_type_0 rfl ?_
  refine X_iconst 0 dL_type_1 (by decide) ?_
  refine X_aload_n 0 rfl dL_type_2 rfl ?_
  refine X_iload_n 1 rfl dL_type_3 rfl ?_
  obtain ⟨r, σ1⟩ := q
  cases r with
  | inl c =>
    refine X_callVX (As := [.int x1]) (rest := [.int 0, .ref ao]) (wr := (wH G ad σ.2.1 σ.2.2.1 ts ++ [(ao, .inl (G.2.2.2, 1, .inr (.inl fo)))])) (k_X9_type (d := 8) (Nat.le_refl _) hf) LB_X9_type lk_L_7 (by omega) dL_type_4 rfl rfl (Nat.le_of_ble_eq_true rfl) ⟨by decide, by decide⟩ 0 rfl ⟨rfl, rfl⟩ (List.range _) (shf _ _) (perm_l _ _) (perm_r _ _) (nd_range _) (nd_of (shf_nodup _ _)) (dis_l _ _) (fun ro w1 h hw => nomatch h) (fun cx w1 h hw => ?_)
    obtain rfl := hw
    cases h
    have hm := hc c rfl
    simp only [List.mem_cons, List.not_mem_nil, or_false] at hm
    rcases hm with rfl | rfl
    · refine XT_catch [] ((tableOf [(0, 9, 12, 13), (0, 9, 15, 15)])[0]) [(tableOf [(0, 9, 12, 13), (0, 9, 15, 15)])[1]] rfl (fun z hz => absurd hz List.not_mem_nil) (by decide) (by decide) cl_L_13 (by decide +kernel) (fun qe => ?_)
      refine X_swap ?_
      refine X_ws (ws1 := wO G ad (σ1, σ.2) ts ao fo) rfl ?_
      refine X_astore_n [(0, .ref (ad 0)), (1, .int x1), (2, .ref ao), (3, .ref qe)] [1, 2, 3, 0] dL_type_12 rfl (by decide) rfl ?_
      refine X_iconst 1 dL_type_13 (by decide) ?_
      exact X_iret rfl (by decide) (by decide) dL_type_14 rfl ⟨ts, hts, rfl⟩
    · refine XT_catch [(tableOf [(0, 9, 12, 13), (0, 9, 15, 15)])[0]] ((tableOf [(0, 9, 12, 13), (0, 9, 15, 15)])[1]) [] rfl (by intro z hz; simp only [List.mem_cons, List.not_mem_nil, or_false] at hz; rcases hz with rfl <;> exact Or.inr ⟨by decide, _, by first | exact cl_L_13, by decide +kernel⟩) (by decide) (by decide) cl_L_15 (by decide +kernel) (fun qe => ?_)
      refine X_swap ?_
      refine X_ws (ws1 := wO G ad (σ1, σ.2) ts ao fo) rfl ?_
      refine X_astore_n [(0, .ref (ad 0)), (1, .int x1), (2, .ref ao), (3, .ref qe)] [1, 2, 3, 0] dL_type_15 rfl (by decide) rfl ?_
      refine X_iconst 2 dL_type_16 (by decide) ?_
      exact X_iret rfl (by decide) (by decide) dL_type_17 rfl ⟨ts, hts, rfl⟩
  | inr v =>
    refine X_callVX (As := [.int x1]) (rest := [.int 0, .ref ao]) (wr := (wH G ad σ.2.1 σ.2.2.1 ts ++ [(ao, .inl (G.2.2.2, 1, .inr (.inl fo)))])) (k_X9_type (d := 8) (Nat.le_refl _) hf) LB_X9_type lk_L_7 (by omega) dL_type_4 rfl rfl (Nat.le_of_ble_eq_true rfl) ⟨by decide, by decide⟩ 0 rfl ⟨rfl, rfl⟩ (List.range _) (shf _ _) (perm_l _ _) (perm_r _ _) (nd_range _) (nd_of (shf_nodup _ _)) (dis_l _ _) (fun ro w1 h hw => ?_) (fun cx w1 h hw => nomatch h)
    obtain rfl := hw
    cases h
    refine X_swap ?_
    refine X_st (st1 := [.int v, .int 0, .ref ao]) rfl ?_
    refine X_i2l dL_type_7 ?_
    refine X_ws (ws1 := wO G ad (σ1, σ.2) ts ao fo) rfl ?_
    refine X_lastore dL_type_8 (15 + (wTs G ts).length) (wO_out G ad (σ1, σ.2) ts ao fo) vp01 (wO G ad (σ1, σ.2) ts ao (vp_updL fo 0 v.toInt64)) (wO_set G ad (σ1, σ.2) ts ao fo _) ?_
    refine X_goto 18 dL_type_9 (by decide) ?_
    refine X_iconst 0 dL_type_18 (by decide) ?_
    exact X_iret rfl (by decide) (by decide) dL_type_19 rfl ⟨ts, hts, rfl⟩)
set_option maxHeartbeats 4000000 in
set_option maxRecDepth 100000 in
theorem k_L_addWord {l : Launch} {G : Gv} {ad : Nat → Nat} {d ao : Nat} {σ : S2} {ts : List Tb} {fo : Nat → Int64} {q : ((Nat ⊕ Int32) × S2)} (hd : 9 ≤ d) (hts : ts.map (fun q => q.2) = σ.2.2.2) (hc : ∀ c, q.1 = .inl c → c ∈ [1]) (hf : f_X9_addWord σ = some q) : XK l G yL_addWord (.codeWith yL_addWord cL_addWord 3 (some .int) [(0, 8, 11, 15)]) d 16 256 [.ref (ad 0), .ref ao] (wO G ad σ ts ao fo) (.inr (some (.int (wk [1] q.1)))) (fun w => ∃ ts1 : List Tb, ts1.map (fun q => q.2) = (q.2).2.2.2 ∧ w = wO G ad (q.2) ts1 ao (wo q.1 fo)) := X_introH (by decide) (Nat.le_of_ble_eq_true rfl) (by
  refine X_ws (ws1 := wA G ad σ ts ++ [(ao, .inl (G.2.2.2, 1, .inr (.inl fo)))]) (by unfold wO wA; rw [List.append_assoc]) ?_
  refine X_aload_n 1 rfl dL_addWord_0 rfl ?_
  refine X_iconst 0 dL_addWord_1 (by decide) ?_
  refine X_aload_n 0 rfl dL_addWord_2 rfl ?_
  obtain ⟨r, σ1⟩ := q
  cases r with
  | inl c =>
    refine X_callVX (As := []) (rest := [.int 0, .ref ao]) (wr := [(ao, .inl (G.2.2.2, 1, .inr (.inl fo)))]) (k_X9_addWord (d := 8) (Nat.le_refl _) hts hf) LB_X9_addWord lk_L_17 (by omega) dL_addWord_3 rfl rfl (Nat.le_of_ble_eq_true rfl) ⟨by decide, by decide⟩ 0 rfl ⟨rfl, rfl⟩ (List.range _) (shf _ _) (perm_l _ _) (perm_r _ _) (nd_range _) (nd_of (shf_nodup _ _)) (dis_l _ _) (fun ro w1 h hw => nomatch h) (fun cx w1 h hw => ?_)
    obtain ⟨ts1, hts1, rfl⟩ := hw
    cases h
    have hm := hc c rfl
    simp only [List.mem_cons, List.not_mem_nil, or_false] at hm
    rcases hm with rfl
    · refine XT_catch [] ((tableOf [(0, 8, 11, 15)])[0]) [] rfl (fun z hz => absurd hz List.not_mem_nil) (by decide) (by decide) cl_L_15 (by decide +kernel) (fun qe => ?_)
      refine X_swap ?_
      refine X_ws (ws1 := wO G ad σ1 ts1 ao fo) (by unfold wO wA; rw [List.append_assoc]) ?_
      refine X_astore_n [(0, .ref (ad 0)), (1, .ref ao), (2, .ref qe)] [1, 2, 0] dL_addWord_11 rfl (by decide) rfl ?_
      refine X_iconst 1 dL_addWord_12 (by decide) ?_
      exact X_iret rfl (by decide) (by decide) dL_addWord_13 rfl ⟨ts1, hts1, rfl⟩
  | inr v =>
    refine X_callVX (As := []) (rest := [.int 0, .ref ao]) (wr := [(ao, .inl (G.2.2.2, 1, .inr (.inl fo)))]) (k_X9_addWord (d := 8) (Nat.le_refl _) hts hf) LB_X9_addWord lk_L_17 (by omega) dL_addWord_3 rfl rfl (Nat.le_of_ble_eq_true rfl) ⟨by decide, by decide⟩ 0 rfl ⟨rfl, rfl⟩ (List.range _) (shf _ _) (perm_l _ _) (perm_r _ _) (nd_range _) (nd_of (shf_nodup _ _)) (dis_l _ _) (fun ro w1 h hw => ?_) (fun cx w1 h hw => nomatch h)
    obtain ⟨ts1, hts1, rfl⟩ := hw
    cases h
    refine X_swap ?_
    refine X_st (st1 := [.int v, .int 0, .ref ao]) rfl ?_
    refine X_i2l dL_addWord_6 ?_
    refine X_ws (ws1 := wO G ad σ1 ts1 ao fo) (by unfold wO wA; rw [List.append_assoc]) ?_
    refine X_lastore dL_addWord_7 (15 + (wTs G ts1).length) (wO_out G ad σ1 ts1 ao fo) vp01 (wO G ad σ1 ts1 ao (vp_updL fo 0 v.toInt64)) (wO_set G ad σ1 ts1 ao fo _) ?_
    refine X_goto 14 dL_addWord_8 (by decide) ?_
    refine X_iconst 0 dL_addWord_14 (by decide) ?_
    exact X_iret rfl (by decide) (by decide) dL_addWord_15 rfl ⟨ts1, hts1, rfl⟩)
set_option maxHeartbeats 4000000 in
set_option maxRecDepth 100000 in
theorem k_L_setLetter {l : Launch} {G : Gv} {ad : Nat → Nat} {d ao : Nat} {σ : S2} {ts : List Tb} {fo : Nat → Int64} {q : ((Nat ⊕ Int32) × S2)} {x1 : Int32} {x2 : Int32} {x3 : Int32} (hd : 9 ≤ d) (hts : ts.map (fun q => q.2) = σ.2.2.2) (hc : ∀ c, q.1 = .inl c → c ∈ [0]) (hf : f_X9_setLetter σ x1 x2 x3 = some q) : XK l G yL_setLetter (.codeWith yL_setLetter cL_setLetter 6 (some .int) [(0, 12, 15, 13)]) d 16 256 [.ref (ad 0), .int x1, .int x2, .int x3, .ref ao] (wO G ad σ ts ao fo) (.inr (some (.int (wk [0] q.1)))) (fun w => ∃ ts1 : List Tb, ts1.map (fun q => q.2) = (q.2).2.2.2 ∧ w = wO G ad (q.2) ts1 ao (wo q.1 fo)) := X_introH (by decide) (Nat.le_of_ble_eq_true rfl) (by
  refine X_ws (ws1 := wA G ad σ ts ++ [(ao, .inl (G.2.2.2, 1, .inr (.inl fo)))]) (by unfold wO wA; rw [List.append_assoc]) ?_
  refine X_aload 4 rfl dL_setLetter_0 ?_
  refine X_iconst 0 dL_setLetter_2 (by decide) ?_
  refine X_aload_n 0 rfl dL_setLetter_3 rfl ?_
  refine X_iload_n 1 rfl dL_setLetter_4 rfl ?_
  refine X_iload_n 2 rfl dL_setLetter_5 rfl ?_
  refine X_iload_n 3 rfl dL_setLetter_6 rfl ?_
  obtain ⟨r, σ1⟩ := q
  cases r with
  | inl c =>
    refine X_callVX (As := [.int x1, .int x2, .int x3]) (rest := [.int 0, .ref ao]) (wr := [(ao, .inl (G.2.2.2, 1, .inr (.inl fo)))]) (k_X9_setLetter (d := 8) (Nat.le_refl _) hts hf) LB_X9_setLetter lk_L_21 (by omega) dL_setLetter_7 rfl rfl (Nat.le_of_ble_eq_true rfl) ⟨by decide, by decide⟩ 0 rfl ⟨rfl, rfl⟩ (List.range _) (shf _ _) (perm_l _ _) (perm_r _ _) (nd_range _) (nd_of (shf_nodup _ _)) (dis_l _ _) (fun ro w1 h hw => nomatch h) (fun cx w1 h hw => ?_)
    obtain ⟨ts1, hts1, rfl⟩ := hw
    cases h
    have hm := hc c rfl
    simp only [List.mem_cons, List.not_mem_nil, or_false] at hm
    rcases hm with rfl
    · refine XT_catch [] ((tableOf [(0, 12, 15, 13)])[0]) [] rfl (fun z hz => absurd hz List.not_mem_nil) (by decide) (by decide) cl_L_13 (by decide +kernel) (fun qe => ?_)
      refine X_swap ?_
      refine X_ws (ws1 := wO G ad σ1 ts1 ao fo) (by unfold wO wA; rw [List.append_assoc]) ?_
      refine X_astore [(0, .ref (ad 0)), (1, .int x1), (2, .int x2), (3, .int x3), (4, .ref ao), (5, .ref qe)] [1, 2, 3, 4, 5, 0] dL_setLetter_15 (by decide) rfl ?_
      refine X_iconst 1 dL_setLetter_17 (by decide) ?_
      exact X_iret rfl (by decide) (by decide) dL_setLetter_18 rfl ⟨ts1, hts1, rfl⟩
  | inr v =>
    refine X_callVX (As := [.int x1, .int x2, .int x3]) (rest := [.int 0, .ref ao]) (wr := [(ao, .inl (G.2.2.2, 1, .inr (.inl fo)))]) (k_X9_setLetter (d := 8) (Nat.le_refl _) hts hf) LB_X9_setLetter lk_L_21 (by omega) dL_setLetter_7 rfl rfl (Nat.le_of_ble_eq_true rfl) ⟨by decide, by decide⟩ 0 rfl ⟨rfl, rfl⟩ (List.range _) (shf _ _) (perm_l _ _) (perm_r _ _) (nd_range _) (nd_of (shf_nodup _ _)) (dis_l _ _) (fun ro w1 h hw => ?_) (fun cx w1 h hw => nomatch h)
    obtain ⟨ts1, hts1, rfl⟩ := hw
    cases h
    refine X_swap ?_
    refine X_st (st1 := [.int v, .int 0, .ref ao]) rfl ?_
    refine X_i2l dL_setLetter_10 ?_
    refine X_ws (ws1 := wO G ad σ1 ts1 ao fo) (by unfold wO wA; rw [List.append_assoc]) ?_
    refine X_lastore dL_setLetter_11 (15 + (wTs G ts1).length) (wO_out G ad σ1 ts1 ao fo) vp01 (wO G ad σ1 ts1 ao (vp_updL fo 0 v.toInt64)) (wO_set G ad σ1 ts1 ao fo _) ?_
    refine X_goto 19 dL_setLetter_12 (by decide) ?_
    refine X_iconst 0 dL_setLetter_19 (by decide) ?_
    exact X_iret rfl (by decide) (by decide) dL_setLetter_20 rfl ⟨ts1, hts1, rfl⟩)
set_option maxHeartbeats 4000000 in
set_option maxRecDepth 100000 in
theorem k_L_setPremium {l : Launch} {G : Gv} {ad : Nat → Nat} {d ao : Nat} {σ : S2} {ts : List Tb} {fo : Nat → Int64} {q : ((Nat ⊕ Int32) × S2)} {x1 : Int32} {x2 : Int32} {x3 : Int32} (hd : 9 ≤ d) (hts : ts.map (fun q => q.2) = σ.2.2.2) (hc : ∀ c, q.1 = .inl c → c ∈ [2, 0]) (hf : f_X9_setPremium σ x1 x2 x3 = some q) : XK l G yL_setPremium (.codeWith yL_setPremium cL_setPremium 6 (some .int) [(0, 12, 15, 28), (0, 12, 19, 13)]) d 16 256 [.ref (ad 0), .int x1, .int x2, .int x3, .ref ao] (wO G ad σ ts ao fo) (.inr (some (.int (wk [2, 0] q.1)))) (fun w => ∃ ts1 : List Tb, ts1.map (fun q => q.2) = (q.2).2.2.2 ∧ w = wO G ad (q.2) ts1 ao (wo q.1 fo)) := X_introH (by decide) (Nat.le_of_ble_eq_true rfl) (by
  refine X_ws (ws1 := wA G ad σ ts ++ [(ao, .inl (G.2.2.2, 1, .inr (.inl fo)))]) (by unfold wO wA; rw [List.append_assoc]) ?_
  refine X_aload 4 rfl dL_setPremium_0 ?_
  refine X_iconst 0 dL_setPremium_2 (by decide) ?_
  refine X_aload_n 0 rfl dL_setPremium_3 rfl ?_
  refine X_iload_n 1 rfl dL_setPremium_4 rfl ?_
  refine X_iload_n 2 rfl dL_setPremium_5 rfl ?_
  refine X_iload_n 3 rfl dL_setPremium_6 rfl ?_
  obtain ⟨r, σ1⟩ := q
  cases r with
  | inl c =>
    refine X_callVX (As := [.int x1, .int x2, .int x3]) (rest := [.int 0, .ref ao]) (wr := [(ao, .inl (G.2.2.2, 1, .inr (.inl fo)))]) (k_X9_setPremium (d := 8) (Nat.le_refl _) hts hf) LB_X9_setPremium lk_L_25 (by omega) dL_setPremium_7 rfl rfl (Nat.le_of_ble_eq_true rfl) ⟨by decide, by decide⟩ 0 rfl ⟨rfl, rfl⟩ (List.range _) (shf _ _) (perm_l _ _) (perm_r _ _) (nd_range _) (nd_of (shf_nodup _ _)) (dis_l _ _) (fun ro w1 h hw => nomatch h) (fun cx w1 h hw => ?_)
    obtain ⟨ts1, hts1, rfl⟩ := hw
    cases h
    have hm := hc c rfl
    simp only [List.mem_cons, List.not_mem_nil, or_false] at hm
    rcases hm with rfl | rfl
    · refine XT_catch [] ((tableOf [(0, 12, 15, 28), (0, 12, 19, 13)])[0]) [(tableOf [(0, 12, 15, 28), (0, 12, 19, 13)])[1]] rfl (fun z hz => absurd hz List.not_mem_nil) (by decide) (by decide) cl_L_28 (by decide +kernel) (fun qe => ?_)
      refine X_swap ?_
      refine X_ws (ws1 := wO G ad σ1 ts1 ao fo) (by unfold wO wA; rw [List.append_assoc]) ?_
      refine X_astore [(0, .ref (ad 0)), (1, .int x1), (2, .int x2), (3, .int x3), (4, .ref ao), (5, .ref qe)] [1, 2, 3, 4, 5, 0] dL_setPremium_15 (by decide) rfl ?_
      refine X_iconst 1 dL_setPremium_17 (by decide) ?_
      exact X_iret rfl (by decide) (by decide) dL_setPremium_18 rfl ⟨ts1, hts1, rfl⟩
    · refine XT_catch [(tableOf [(0, 12, 15, 28), (0, 12, 19, 13)])[0]] ((tableOf [(0, 12, 15, 28), (0, 12, 19, 13)])[1]) [] rfl (by intro z hz; simp only [List.mem_cons, List.not_mem_nil, or_false] at hz; rcases hz with rfl <;> exact Or.inr ⟨by decide, _, by first | exact cl_L_28, by decide +kernel⟩) (by decide) (by decide) cl_L_13 (by decide +kernel) (fun qe => ?_)
      refine X_swap ?_
      refine X_ws (ws1 := wO G ad σ1 ts1 ao fo) (by unfold wO wA; rw [List.append_assoc]) ?_
      refine X_astore [(0, .ref (ad 0)), (1, .int x1), (2, .int x2), (3, .int x3), (4, .ref ao), (5, .ref qe)] [1, 2, 3, 4, 5, 0] dL_setPremium_19 (by decide) rfl ?_
      refine X_iconst 2 dL_setPremium_21 (by decide) ?_
      exact X_iret rfl (by decide) (by decide) dL_setPremium_22 rfl ⟨ts1, hts1, rfl⟩
  | inr v =>
    refine X_callVX (As := [.int x1, .int x2, .int x3]) (rest := [.int 0, .ref ao]) (wr := [(ao, .inl (G.2.2.2, 1, .inr (.inl fo)))]) (k_X9_setPremium (d := 8) (Nat.le_refl _) hts hf) LB_X9_setPremium lk_L_25 (by omega) dL_setPremium_7 rfl rfl (Nat.le_of_ble_eq_true rfl) ⟨by decide, by decide⟩ 0 rfl ⟨rfl, rfl⟩ (List.range _) (shf _ _) (perm_l _ _) (perm_r _ _) (nd_range _) (nd_of (shf_nodup _ _)) (dis_l _ _) (fun ro w1 h hw => ?_) (fun cx w1 h hw => nomatch h)
    obtain ⟨ts1, hts1, rfl⟩ := hw
    cases h
    refine X_swap ?_
    refine X_st (st1 := [.int v, .int 0, .ref ao]) rfl ?_
    refine X_i2l dL_setPremium_10 ?_
    refine X_ws (ws1 := wO G ad σ1 ts1 ao fo) (by unfold wO wA; rw [List.append_assoc]) ?_
    refine X_lastore dL_setPremium_11 (15 + (wTs G ts1).length) (wO_out G ad σ1 ts1 ao fo) vp01 (wO G ad σ1 ts1 ao (vp_updL fo 0 v.toInt64)) (wO_set G ad σ1 ts1 ao fo _) ?_
    refine X_goto 23 dL_setPremium_12 (by decide) ?_
    refine X_iconst 0 dL_setPremium_23 (by decide) ?_
    exact X_iret rfl (by decide) (by decide) dL_setPremium_24 rfl ⟨ts1, hts1, rfl⟩)
set_option maxHeartbeats 4000000 in
set_option maxRecDepth 100000 in
theorem k_L_setRack {l : Launch} {G : Gv} {ad : Nat → Nat} {d ao : Nat} {σ : S2} {ts : List Tb} {fo : Nat → Int64} {q : ((Nat ⊕ Int32) × S2)} {x1 : Int32} (hd : 9 ≤ d) (hts : ts.map (fun q => q.2) = σ.2.2.2) (hc : ∀ c, q.1 = .inl c → c ∈ [2, 1]) (hf : f_X9_setRack σ x1 = some q) : XK l G yL_setRack (.codeWith yL_setRack cL_setRack 4 (some .int) [(0, 9, 12, 28), (0, 9, 15, 15)]) d 16 256 [.ref (ad 0), .int x1, .ref ao] (wO G ad σ ts ao fo) (.inr (some (.int (wk [2, 1] q.1)))) (fun w => ∃ ts1 : List Tb, ts1.map (fun q => q.2) = (q.2).2.2.2 ∧ w = wO G ad (q.2) ts1 ao (wo q.1 fo)) := X_introH (by decide) (Nat.le_of_ble_eq_true rfl) (by
  refine X_ws (ws1 := wA G ad σ ts ++ [(ao, .inl (G.2.2.2, 1, .inr (.inl fo)))]) (by unfold wO wA; rw [List.append_assoc]) ?_
  refine X_aload_n 2 rfl dL_setRack_0 rfl ?_
  refine X_iconst 0 dL_setRack_1 (by decide) ?_
  refine X_aload_n 0 rfl dL_setRack_2 rfl ?_
  refine X_iload_n 1 rfl dL_setRack_3 rfl ?_
  obtain ⟨r, σ1⟩ := q
  cases r with
  | inl c =>
    refine X_callVX (As := [.int x1]) (rest := [.int 0, .ref ao]) (wr := [(ao, .inl (G.2.2.2, 1, .inr (.inl fo)))]) (k_X9_setRack (d := 8) (Nat.le_refl _) hts hf) LB_X9_setRack lk_L_30 (by omega) dL_setRack_4 rfl rfl (Nat.le_of_ble_eq_true rfl) ⟨by decide, by decide⟩ 0 rfl ⟨rfl, rfl⟩ (List.range _) (shf _ _) (perm_l _ _) (perm_r _ _) (nd_range _) (nd_of (shf_nodup _ _)) (dis_l _ _) (fun ro w1 h hw => nomatch h) (fun cx w1 h hw => ?_)
    obtain ⟨ts1, hts1, rfl⟩ := hw
    cases h
    have hm := hc c rfl
    simp only [List.mem_cons, List.not_mem_nil, or_false] at hm
    rcases hm with rfl | rfl
    · refine XT_catch [] ((tableOf [(0, 9, 12, 28), (0, 9, 15, 15)])[0]) [(tableOf [(0, 9, 12, 28), (0, 9, 15, 15)])[1]] rfl (fun z hz => absurd hz List.not_mem_nil) (by decide) (by decide) cl_L_28 (by decide +kernel) (fun qe => ?_)
      refine X_swap ?_
      refine X_ws (ws1 := wO G ad σ1 ts1 ao fo) (by unfold wO wA; rw [List.append_assoc]) ?_
      refine X_astore_n [(0, .ref (ad 0)), (1, .int x1), (2, .ref ao), (3, .ref qe)] [1, 2, 3, 0] dL_setRack_12 rfl (by decide) rfl ?_
      refine X_iconst 1 dL_setRack_13 (by decide) ?_
      exact X_iret rfl (by decide) (by decide) dL_setRack_14 rfl ⟨ts1, hts1, rfl⟩
    · refine XT_catch [(tableOf [(0, 9, 12, 28), (0, 9, 15, 15)])[0]] ((tableOf [(0, 9, 12, 28), (0, 9, 15, 15)])[1]) [] rfl (by intro z hz; simp only [List.mem_cons, List.not_mem_nil, or_false] at hz; rcases hz with rfl <;> exact Or.inr ⟨by decide, _, by first | exact cl_L_28, by decide +kernel⟩) (by decide) (by decide) cl_L_15 (by decide +kernel) (fun qe => ?_)
      refine X_swap ?_
      refine X_ws (ws1 := wO G ad σ1 ts1 ao fo) (by unfold wO wA; rw [List.append_assoc]) ?_
      refine X_astore_n [(0, .ref (ad 0)), (1, .int x1), (2, .ref ao), (3, .ref qe)] [1, 2, 3, 0] dL_setRack_15 rfl (by decide) rfl ?_
      refine X_iconst 2 dL_setRack_16 (by decide) ?_
      exact X_iret rfl (by decide) (by decide) dL_setRack_17 rfl ⟨ts1, hts1, rfl⟩
  | inr v =>
    refine X_callVX (As := [.int x1]) (rest := [.int 0, .ref ao]) (wr := [(ao, .inl (G.2.2.2, 1, .inr (.inl fo)))]) (k_X9_setRack (d := 8) (Nat.le_refl _) hts hf) LB_X9_setRack lk_L_30 (by omega) dL_setRack_4 rfl rfl (Nat.le_of_ble_eq_true rfl) ⟨by decide, by decide⟩ 0 rfl ⟨rfl, rfl⟩ (List.range _) (shf _ _) (perm_l _ _) (perm_r _ _) (nd_range _) (nd_of (shf_nodup _ _)) (dis_l _ _) (fun ro w1 h hw => ?_) (fun cx w1 h hw => nomatch h)
    obtain ⟨ts1, hts1, rfl⟩ := hw
    cases h
    refine X_swap ?_
    refine X_st (st1 := [.int v, .int 0, .ref ao]) rfl ?_
    refine X_i2l dL_setRack_7 ?_
    refine X_ws (ws1 := wO G ad σ1 ts1 ao fo) (by unfold wO wA; rw [List.append_assoc]) ?_
    refine X_lastore dL_setRack_8 (15 + (wTs G ts1).length) (wO_out G ad σ1 ts1 ao fo) vp01 (wO G ad σ1 ts1 ao (vp_updL fo 0 v.toInt64)) (wO_set G ad σ1 ts1 ao fo _) ?_
    refine X_goto 18 dL_setRack_9 (by decide) ?_
    refine X_iconst 0 dL_setRack_18 (by decide) ?_
    exact X_iret rfl (by decide) (by decide) dL_setRack_19 rfl ⟨ts1, hts1, rfl⟩)
set_option maxHeartbeats 4000000 in
set_option maxRecDepth 100000 in
theorem k_L_setTile {l : Launch} {G : Gv} {ad : Nat → Nat} {d ao : Nat} {σ : S2} {ts : List Tb} {fo : Nat → Int64} {q : ((Nat ⊕ Int32) × S2)} {x1 : Int32} {x2 : Int32} {x3 : Int32} (hd : 9 ≤ d) (hts : ts.map (fun q => q.2) = σ.2.2.2) (hc : ∀ c, q.1 = .inl c → c ∈ [2, 0]) (hf : f_X9_setTile σ x1 x2 x3 = some q) : XK l G yL_setTile (.codeWith yL_setTile cL_setTile 6 (some .int) [(0, 12, 15, 28), (0, 12, 19, 13)]) d 16 256 [.ref (ad 0), .int x1, .int x2, .int x3, .ref ao] (wO G ad σ ts ao fo) (.inr (some (.int (wk [2, 0] q.1)))) (fun w => ∃ ts1 : List Tb, ts1.map (fun q => q.2) = (q.2).2.2.2 ∧ w = wO G ad (q.2) ts1 ao (wo q.1 fo)) := X_introH (by decide) (Nat.le_of_ble_eq_true rfl) (by
  refine X_ws (ws1 := wA G ad σ ts ++ [(ao, .inl (G.2.2.2, 1, .inr (.inl fo)))]) (by unfold wO wA; rw [List.append_assoc]) ?_
  refine X_aload 4 rfl dL_setTile_0 ?_
  refine X_iconst 0 dL_setTile_2 (by decide) ?_
  refine X_aload_n 0 rfl dL_setTile_3 rfl ?_
  refine X_iload_n 1 rfl dL_setTile_4 rfl ?_
  refine X_iload_n 2 rfl dL_setTile_5 rfl ?_
  refine X_iload_n 3 rfl dL_setTile_6 rfl ?_
  obtain ⟨r, σ1⟩ := q
  cases r with
  | inl c =>
    refine X_callVX (As := [.int x1, .int x2, .int x3]) (rest := [.int 0, .ref ao]) (wr := [(ao, .inl (G.2.2.2, 1, .inr (.inl fo)))]) (k_X9_setTile (d := 8) (Nat.le_refl _) hts hf) LB_X9_setTile lk_L_33 (by omega) dL_setTile_7 rfl rfl (Nat.le_of_ble_eq_true rfl) ⟨by decide, by decide⟩ 0 rfl ⟨rfl, rfl⟩ (List.range _) (shf _ _) (perm_l _ _) (perm_r _ _) (nd_range _) (nd_of (shf_nodup _ _)) (dis_l _ _) (fun ro w1 h hw => nomatch h) (fun cx w1 h hw => ?_)
    obtain ⟨ts1, hts1, rfl⟩ := hw
    cases h
    have hm := hc c rfl
    simp only [List.mem_cons, List.not_mem_nil, or_false] at hm
    rcases hm with rfl | rfl
    · refine XT_catch [] ((tableOf [(0, 12, 15, 28), (0, 12, 19, 13)])[0]) [(tableOf [(0, 12, 15, 28), (0, 12, 19, 13)])[1]] rfl (fun z hz => absurd hz List.not_mem_nil) (by decide) (by decide) cl_L_28 (by decide +kernel) (fun qe => ?_)
      refine X_swap ?_
      refine X_ws (ws1 := wO G ad σ1 ts1 ao fo) (by unfold wO wA; rw [List.append_assoc]) ?_
      refine X_astore [(0, .ref (ad 0)), (1, .int x1), (2, .int x2), (3, .int x3), (4, .ref ao), (5, .ref qe)] [1, 2, 3, 4, 5, 0] dL_setTile_15 (by decide) rfl ?_
      refine X_iconst 1 dL_setTile_17 (by decide) ?_
      exact X_iret rfl (by decide) (by decide) dL_setTile_18 rfl ⟨ts1, hts1, rfl⟩
    · refine XT_catch [(tableOf [(0, 12, 15, 28), (0, 12, 19, 13)])[0]] ((tableOf [(0, 12, 15, 28), (0, 12, 19, 13)])[1]) [] rfl (by intro z hz; simp only [List.mem_cons, List.not_mem_nil, or_false] at hz; rcases hz with rfl <;> exact Or.inr ⟨by decide, _, by first | exact cl_L_28, by decide +kernel⟩) (by decide) (by decide) cl_L_13 (by decide +kernel) (fun qe => ?_)
      refine X_swap ?_
      refine X_ws (ws1 := wO G ad σ1 ts1 ao fo) (by unfold wO wA; rw [List.append_assoc]) ?_
      refine X_astore [(0, .ref (ad 0)), (1, .int x1), (2, .int x2), (3, .int x3), (4, .ref ao), (5, .ref qe)] [1, 2, 3, 4, 5, 0] dL_setTile_19 (by decide) rfl ?_
      refine X_iconst 2 dL_setTile_21 (by decide) ?_
      exact X_iret rfl (by decide) (by decide) dL_setTile_22 rfl ⟨ts1, hts1, rfl⟩
  | inr v =>
    refine X_callVX (As := [.int x1, .int x2, .int x3]) (rest := [.int 0, .ref ao]) (wr := [(ao, .inl (G.2.2.2, 1, .inr (.inl fo)))]) (k_X9_setTile (d := 8) (Nat.le_refl _) hts hf) LB_X9_setTile lk_L_33 (by omega) dL_setTile_7 rfl rfl (Nat.le_of_ble_eq_true rfl) ⟨by decide, by decide⟩ 0 rfl ⟨rfl, rfl⟩ (List.range _) (shf _ _) (perm_l _ _) (perm_r _ _) (nd_range _) (nd_of (shf_nodup _ _)) (dis_l _ _) (fun ro w1 h hw => ?_) (fun cx w1 h hw => nomatch h)
    obtain ⟨ts1, hts1, rfl⟩ := hw
    cases h
    refine X_swap ?_
    refine X_st (st1 := [.int v, .int 0, .ref ao]) rfl ?_
    refine X_i2l dL_setTile_10 ?_
    refine X_ws (ws1 := wO G ad σ1 ts1 ao fo) (by unfold wO wA; rw [List.append_assoc]) ?_
    refine X_lastore dL_setTile_11 (15 + (wTs G ts1).length) (wO_out G ad σ1 ts1 ao fo) vp01 (wO G ad σ1 ts1 ao (vp_updL fo 0 v.toInt64)) (wO_set G ad σ1 ts1 ao fo _) ?_
    refine X_goto 23 dL_setTile_12 (by decide) ?_
    refine X_iconst 0 dL_setTile_23 (by decide) ?_
    exact X_iret rfl (by decide) (by decide) dL_setTile_24 rfl ⟨ts1, hts1, rfl⟩)
set_option maxHeartbeats 4000000 in
set_option maxRecDepth 100000 in
theorem k_L_tileAt {l : Launch} {G : Gv} {ad : Nat → Nat} {d ao : Nat} {σ : S2} {ts : List Tb} {fo : Nat → Int64} {q : ((Nat ⊕ Int32) × St)} {x1 : Int32} {x2 : Int32} (hd : 9 ≤ d) (hts : ts.map (fun q => q.2) = σ.2.2.2) (hc : ∀ c, q.1 = .inl c → c ∈ [2]) (hf : f_X9_tileAt σ.1 x1 x2 = some q) : XK l G yL_tileAt (.codeWith yL_tileAt cL_tileAt 5 (some .int) [(0, 10, 13, 28)]) d 16 256 [.ref (ad 0), .int x1, .int x2, .ref ao] (wO G ad σ ts ao fo) (.inr (some (.int (wk [2] q.1)))) (fun w => ∃ ts1 : List Tb, ts1.map (fun q => q.2) = ((q.2, σ.2)).2.2.2 ∧ w = wO G ad ((q.2, σ.2)) ts1 ao (wo q.1 fo)) := X_introH (by decide) (Nat.le_of_ble_eq_true rfl) (by
  refine X_aload_n 3 rfl dL_tileAt_0 rfl ?_
  refine X_iconst 0 dL_tileAt_1 (by decide) ?_
  refine X_aload_n 0 rfl dL_tileAt_2 rfl ?_
  refine X_iload_n 1 rfl dL_tileAt_3 rfl ?_
  refine X_iload_n 2 rfl dL_tileAt_4 rfl ?_
  obtain ⟨r, σ1⟩ := q
  cases r with
  | inl c =>
    refine X_callVX (As := [.int x1, .int x2]) (rest := [.int 0, .ref ao]) (wr := (wH G ad σ.2.1 σ.2.2.1 ts ++ [(ao, .inl (G.2.2.2, 1, .inr (.inl fo)))])) (k_X9_tileAt (d := 8) (Nat.le_refl _) hf) LB_X9_tileAt lk_L_36 (by omega) dL_tileAt_5 rfl rfl (Nat.le_of_ble_eq_true rfl) ⟨by decide, by decide⟩ 0 rfl ⟨rfl, rfl⟩ (List.range _) (shf _ _) (perm_l _ _) (perm_r _ _) (nd_range _) (nd_of (shf_nodup _ _)) (dis_l _ _) (fun ro w1 h hw => nomatch h) (fun cx w1 h hw => ?_)
    obtain rfl := hw
    cases h
    have hm := hc c rfl
    simp only [List.mem_cons, List.not_mem_nil, or_false] at hm
    rcases hm with rfl
    · refine XT_catch [] ((tableOf [(0, 10, 13, 28)])[0]) [] rfl (fun z hz => absurd hz List.not_mem_nil) (by decide) (by decide) cl_L_28 (by decide +kernel) (fun qe => ?_)
      refine X_swap ?_
      refine X_ws (ws1 := wO G ad (σ1, σ.2) ts ao fo) rfl ?_
      refine X_astore [(0, .ref (ad 0)), (1, .int x1), (2, .int x2), (3, .ref ao), (4, .ref qe)] [1, 2, 3, 4, 0] dL_tileAt_13 (by decide) rfl ?_
      refine X_iconst 1 dL_tileAt_15 (by decide) ?_
      exact X_iret rfl (by decide) (by decide) dL_tileAt_16 rfl ⟨ts, hts, rfl⟩
  | inr v =>
    refine X_callVX (As := [.int x1, .int x2]) (rest := [.int 0, .ref ao]) (wr := (wH G ad σ.2.1 σ.2.2.1 ts ++ [(ao, .inl (G.2.2.2, 1, .inr (.inl fo)))])) (k_X9_tileAt (d := 8) (Nat.le_refl _) hf) LB_X9_tileAt lk_L_36 (by omega) dL_tileAt_5 rfl rfl (Nat.le_of_ble_eq_true rfl) ⟨by decide, by decide⟩ 0 rfl ⟨rfl, rfl⟩ (List.range _) (shf _ _) (perm_l _ _) (perm_r _ _) (nd_range _) (nd_of (shf_nodup _ _)) (dis_l _ _) (fun ro w1 h hw => ?_) (fun cx w1 h hw => nomatch h)
    obtain rfl := hw
    cases h
    refine X_swap ?_
    refine X_st (st1 := [.int v, .int 0, .ref ao]) rfl ?_
    refine X_i2l dL_tileAt_8 ?_
    refine X_ws (ws1 := wO G ad (σ1, σ.2) ts ao fo) rfl ?_
    refine X_lastore dL_tileAt_9 (15 + (wTs G ts).length) (wO_out G ad (σ1, σ.2) ts ao fo) vp01 (wO G ad (σ1, σ.2) ts ao (vp_updL fo 0 v.toInt64)) (wO_set G ad (σ1, σ.2) ts ao fo _) ?_
    refine X_goto 17 dL_tileAt_10 (by decide) ?_
    refine X_iconst 0 dL_tileAt_17 (by decide) ?_
    exact X_iret rfl (by decide) (by decide) dL_tileAt_18 rfl ⟨ts, hts, rfl⟩)
set_option maxHeartbeats 4000000 in
set_option maxRecDepth 100000 in
theorem k_L_onRack {l : Launch} {G : Gv} {ad : Nat → Nat} {d ao : Nat} {σ : S2} {ts : List Tb} {fo : Nat → Int64} {q : ((Nat ⊕ Int32) × St)} {x1 : Int32} {x2 : Int32} (hd : 9 ≤ d) (hts : ts.map (fun q => q.2) = σ.2.2.2) (hc : ∀ c, q.1 = .inl c → c ∈ [2, 0]) (hf : f_X9_onRack σ.1 x1 x2 = some q) : XK l G yL_onRack (.codeWith yL_onRack cL_onRack 5 (some .int) [(0, 10, 13, 28), (0, 10, 17, 13)]) d 16 256 [.ref (ad 0), .int x1, .int x2, .ref ao] (wO G ad σ ts ao fo) (.inr (some (.int (wk [2, 0] q.1)))) (fun w => ∃ ts1 : List Tb, ts1.map (fun q => q.2) = ((q.2, σ.2)).2.2.2 ∧ w = wO G ad ((q.2, σ.2)) ts1 ao (wo q.1 fo)) := X_introH (by decide) (Nat.le_of_ble_eq_true rfl) (by
  refine X_aload_n 3 rfl dL_onRack_0 rfl ?_
  refine X_iconst 0 dL_onRack_1 (by decide) ?_
  refine X_aload_n 0 rfl dL_onRack_2 rfl ?_
  refine X_iload_n 1 rfl dL_onRack_3 rfl ?_
  refine X_iload_n 2 rfl dL_onRack_4 rfl ?_
  obtain ⟨r, σ1⟩ := q
  cases r with
  | inl c =>
    refine X_callVX (As := [.int x1, .int x2]) (rest := [.int 0, .ref ao]) (wr := (wH G ad σ.2.1 σ.2.2.1 ts ++ [(ao, .inl (G.2.2.2, 1, .inr (.inl fo)))])) (k_X9_onRack (d := 8) (Nat.le_refl _) hf) LB_X9_onRack lk_L_40 (by omega) dL_onRack_5 rfl rfl (Nat.le_of_ble_eq_true rfl) ⟨by decide, by decide⟩ 0 rfl ⟨rfl, rfl⟩ (List.range _) (shf _ _) (perm_l _ _) (perm_r _ _) (nd_range _) (nd_of (shf_nodup _ _)) (dis_l _ _) (fun ro w1 h hw => nomatch h) (fun cx w1 h hw => ?_)
    obtain rfl := hw
    cases h
    have hm := hc c rfl
    simp only [List.mem_cons, List.not_mem_nil, or_false] at hm
    rcases hm with rfl | rfl
    · refine XT_catch [] ((tableOf [(0, 10, 13, 28), (0, 10, 17, 13)])[0]) [(tableOf [(0, 10, 13, 28), (0, 10, 17, 13)])[1]] rfl (fun z hz => absurd hz List.not_mem_nil) (by decide) (by decide) cl_L_28 (by decide +kernel) (fun qe => ?_)
      refine X_swap ?_
      refine X_ws (ws1 := wO G ad (σ1, σ.2) ts ao fo) rfl ?_
      refine X_astore [(0, .ref (ad 0)), (1, .int x1), (2, .int x2), (3, .ref ao), (4, .ref qe)] [1, 2, 3, 4, 0] dL_onRack_13 (by decide) rfl ?_
      refine X_iconst 1 dL_onRack_15 (by decide) ?_
      exact X_iret rfl (by decide) (by decide) dL_onRack_16 rfl ⟨ts, hts, rfl⟩
    · refine XT_catch [(tableOf [(0, 10, 13, 28), (0, 10, 17, 13)])[0]] ((tableOf [(0, 10, 13, 28), (0, 10, 17, 13)])[1]) [] rfl (by intro z hz; simp only [List.mem_cons, List.not_mem_nil, or_false] at hz; rcases hz with rfl <;> exact Or.inr ⟨by decide, _, by first | exact cl_L_28, by decide +kernel⟩) (by decide) (by decide) cl_L_13 (by decide +kernel) (fun qe => ?_)
      refine X_swap ?_
      refine X_ws (ws1 := wO G ad (σ1, σ.2) ts ao fo) rfl ?_
      refine X_astore [(0, .ref (ad 0)), (1, .int x1), (2, .int x2), (3, .ref ao), (4, .ref qe)] [1, 2, 3, 4, 0] dL_onRack_17 (by decide) rfl ?_
      refine X_iconst 2 dL_onRack_19 (by decide) ?_
      exact X_iret rfl (by decide) (by decide) dL_onRack_20 rfl ⟨ts, hts, rfl⟩
  | inr v =>
    refine X_callVX (As := [.int x1, .int x2]) (rest := [.int 0, .ref ao]) (wr := (wH G ad σ.2.1 σ.2.2.1 ts ++ [(ao, .inl (G.2.2.2, 1, .inr (.inl fo)))])) (k_X9_onRack (d := 8) (Nat.le_refl _) hf) LB_X9_onRack lk_L_40 (by omega) dL_onRack_5 rfl rfl (Nat.le_of_ble_eq_true rfl) ⟨by decide, by decide⟩ 0 rfl ⟨rfl, rfl⟩ (List.range _) (shf _ _) (perm_l _ _) (perm_r _ _) (nd_range _) (nd_of (shf_nodup _ _)) (dis_l _ _) (fun ro w1 h hw => ?_) (fun cx w1 h hw => nomatch h)
    obtain rfl := hw
    cases h
    refine X_swap ?_
    refine X_st (st1 := [.int v, .int 0, .ref ao]) rfl ?_
    refine X_i2l dL_onRack_8 ?_
    refine X_ws (ws1 := wO G ad (σ1, σ.2) ts ao fo) rfl ?_
    refine X_lastore dL_onRack_9 (15 + (wTs G ts).length) (wO_out G ad (σ1, σ.2) ts ao fo) vp01 (wO G ad (σ1, σ.2) ts ao (vp_updL fo 0 v.toInt64)) (wO_set G ad (σ1, σ.2) ts ao fo _) ?_
    refine X_goto 21 dL_onRack_10 (by decide) ?_
    refine X_iconst 0 dL_onRack_21 (by decide) ?_
    exact X_iret rfl (by decide) (by decide) dL_onRack_22 rfl ⟨ts, hts, rfl⟩)
set_option maxHeartbeats 4000000 in
set_option maxRecDepth 100000 in
theorem k_L_score {l : Launch} {G : Gv} {ad : Nat → Nat} {d ao : Nat} {σ : S2} {ts : List Tb} {fo : Nat → Int64} {q : ((Nat ⊕ Int32) × St)} {x1 : Int32} (hd : 9 ≤ d) (hts : ts.map (fun q => q.2) = σ.2.2.2) (hc : ∀ c, q.1 = .inl c → c ∈ [2]) (hf : f_X9_score σ.1 x1 = some q) : XK l G yL_score (.codeWith yL_score cL_score 4 (some .int) [(0, 9, 12, 28)]) d 16 256 [.ref (ad 0), .int x1, .ref ao] (wO G ad σ ts ao fo) (.inr (some (.int (wk [2] q.1)))) (fun w => ∃ ts1 : List Tb, ts1.map (fun q => q.2) = ((q.2, σ.2)).2.2.2 ∧ w = wO G ad ((q.2, σ.2)) ts1 ao (wo q.1 fo)) := X_introH (by decide) (Nat.le_of_ble_eq_true rfl) (by
  refine X_aload_n 2 rfl dL_score_0 rfl ?_
  refine X_iconst 0 dL_score_1 (by decide) ?_
  refine X_aload_n 0 rfl dL_score_2 rfl ?_
  refine X_iload_n 1 rfl dL_score_3 rfl ?_
  obtain ⟨r, σ1⟩ := q
  cases r with
  | inl c =>
    refine X_callVX (As := [.int x1]) (rest := [.int 0, .ref ao]) (wr := (wH G ad σ.2.1 σ.2.2.1 ts ++ [(ao, .inl (G.2.2.2, 1, .inr (.inl fo)))])) (k_X9_score (d := 8) (Nat.le_refl _) hf) LB_X9_score lk_L_43 (by omega) dL_score_4 rfl rfl (Nat.le_of_ble_eq_true rfl) ⟨by decide, by decide⟩ 0 rfl ⟨rfl, rfl⟩ (List.range _) (shf _ _) (perm_l _ _) (perm_r _ _) (nd_range _) (nd_of (shf_nodup _ _)) (dis_l _ _) (fun ro w1 h hw => nomatch h) (fun cx w1 h hw => ?_)
    obtain rfl := hw
    cases h
    have hm := hc c rfl
    simp only [List.mem_cons, List.not_mem_nil, or_false] at hm
    rcases hm with rfl
    · refine XT_catch [] ((tableOf [(0, 9, 12, 28)])[0]) [] rfl (fun z hz => absurd hz List.not_mem_nil) (by decide) (by decide) cl_L_28 (by decide +kernel) (fun qe => ?_)
      refine X_swap ?_
      refine X_ws (ws1 := wO G ad (σ1, σ.2) ts ao fo) rfl ?_
      refine X_astore_n [(0, .ref (ad 0)), (1, .int x1), (2, .ref ao), (3, .ref qe)] [1, 2, 3, 0] dL_score_12 rfl (by decide) rfl ?_
      refine X_iconst 1 dL_score_13 (by decide) ?_
      exact X_iret rfl (by decide) (by decide) dL_score_14 rfl ⟨ts, hts, rfl⟩
  | inr v =>
    refine X_callVX (As := [.int x1]) (rest := [.int 0, .ref ao]) (wr := (wH G ad σ.2.1 σ.2.2.1 ts ++ [(ao, .inl (G.2.2.2, 1, .inr (.inl fo)))])) (k_X9_score (d := 8) (Nat.le_refl _) hf) LB_X9_score lk_L_43 (by omega) dL_score_4 rfl rfl (Nat.le_of_ble_eq_true rfl) ⟨by decide, by decide⟩ 0 rfl ⟨rfl, rfl⟩ (List.range _) (shf _ _) (perm_l _ _) (perm_r _ _) (nd_range _) (nd_of (shf_nodup _ _)) (dis_l _ _) (fun ro w1 h hw => ?_) (fun cx w1 h hw => nomatch h)
    obtain rfl := hw
    cases h
    refine X_swap ?_
    refine X_st (st1 := [.int v, .int 0, .ref ao]) rfl ?_
    refine X_i2l dL_score_7 ?_
    refine X_ws (ws1 := wO G ad (σ1, σ.2) ts ao fo) rfl ?_
    refine X_lastore dL_score_8 (15 + (wTs G ts).length) (wO_out G ad (σ1, σ.2) ts ao fo) vp01 (wO G ad (σ1, σ.2) ts ao (vp_updL fo 0 v.toInt64)) (wO_set G ad (σ1, σ.2) ts ao fo _) ?_
    refine X_goto 15 dL_score_9 (by decide) ?_
    refine X_iconst 0 dL_score_15 (by decide) ?_
    exact X_iret rfl (by decide) (by decide) dL_score_16 rfl ⟨ts, hts, rfl⟩)
set_option maxHeartbeats 4000000 in
set_option maxRecDepth 100000 in
theorem k_L_crossSet {l : Launch} {G : Gv} {ad : Nat → Nat} {d ao : Nat} {σ : S2} {ts : List Tb} {fo : Nat → Int64} {q : ((Nat ⊕ Int32) × St)} {x1 : Int32} {x2 : Int32} {x3 : Int32} (hd : 9 ≤ d) (hts : ts.map (fun q => q.2) = σ.2.2.2) (hc : ∀ c, q.1 = .inl c → c ∈ [2, 0]) (hf : f_X9_crossSet σ.1 x1 x2 x3 = some q) : XK l G yL_crossSet (.codeWith yL_crossSet cL_crossSet 6 (some .int) [(0, 12, 15, 28), (0, 12, 19, 13)]) d 16 256 [.ref (ad 0), .int x1, .int x2, .int x3, .ref ao] (wO G ad σ ts ao fo) (.inr (some (.int (wk [2, 0] q.1)))) (fun w => ∃ ts1 : List Tb, ts1.map (fun q => q.2) = ((q.2, σ.2)).2.2.2 ∧ w = wO G ad ((q.2, σ.2)) ts1 ao (wo q.1 fo)) := X_introH (by decide) (Nat.le_of_ble_eq_true rfl) (by
  refine X_aload 4 rfl dL_crossSet_0 ?_
  refine X_iconst 0 dL_crossSet_2 (by decide) ?_
  refine X_aload_n 0 rfl dL_crossSet_3 rfl ?_
  refine X_iload_n 1 rfl dL_crossSet_4 rfl ?_
  refine X_iload_n 2 rfl dL_crossSet_5 rfl ?_
  refine X_iload_n 3 rfl dL_crossSet_6 rfl ?_
  obtain ⟨r, σ1⟩ := q
  cases r with
  | inl c =>
    refine X_callVX (As := [.int x1, .int x2, .int x3]) (rest := [.int 0, .ref ao]) (wr := (wH G ad σ.2.1 σ.2.2.1 ts ++ [(ao, .inl (G.2.2.2, 1, .inr (.inl fo)))])) (k_X9_crossSet (d := 8) (Nat.le_refl _) hf) LB_X9_crossSet lk_L_46 (by omega) dL_crossSet_7 rfl rfl (Nat.le_of_ble_eq_true rfl) ⟨by decide, by decide⟩ 0 rfl ⟨rfl, rfl⟩ (List.range _) (shf _ _) (perm_l _ _) (perm_r _ _) (nd_range _) (nd_of (shf_nodup _ _)) (dis_l _ _) (fun ro w1 h hw => nomatch h) (fun cx w1 h hw => ?_)
    obtain rfl := hw
    cases h
    have hm := hc c rfl
    simp only [List.mem_cons, List.not_mem_nil, or_false] at hm
    rcases hm with rfl | rfl
    · refine XT_catch [] ((tableOf [(0, 12, 15, 28), (0, 12, 19, 13)])[0]) [(tableOf [(0, 12, 15, 28), (0, 12, 19, 13)])[1]] rfl (fun z hz => absurd hz List.not_mem_nil) (by decide) (by decide) cl_L_28 (by decide +kernel) (fun qe => ?_)
      refine X_swap ?_
      refine X_ws (ws1 := wO G ad (σ1, σ.2) ts ao fo) rfl ?_
      refine X_astore [(0, .ref (ad 0)), (1, .int x1), (2, .int x2), (3, .int x3), (4, .ref ao), (5, .ref qe)] [1, 2, 3, 4, 5, 0] dL_crossSet_15 (by decide) rfl ?_
      refine X_iconst 1 dL_crossSet_17 (by decide) ?_
      exact X_iret rfl (by decide) (by decide) dL_crossSet_18 rfl ⟨ts, hts, rfl⟩
    · refine XT_catch [(tableOf [(0, 12, 15, 28), (0, 12, 19, 13)])[0]] ((tableOf [(0, 12, 15, 28), (0, 12, 19, 13)])[1]) [] rfl (by intro z hz; simp only [List.mem_cons, List.not_mem_nil, or_false] at hz; rcases hz with rfl <;> exact Or.inr ⟨by decide, _, by first | exact cl_L_28, by decide +kernel⟩) (by decide) (by decide) cl_L_13 (by decide +kernel) (fun qe => ?_)
      refine X_swap ?_
      refine X_ws (ws1 := wO G ad (σ1, σ.2) ts ao fo) rfl ?_
      refine X_astore [(0, .ref (ad 0)), (1, .int x1), (2, .int x2), (3, .int x3), (4, .ref ao), (5, .ref qe)] [1, 2, 3, 4, 5, 0] dL_crossSet_19 (by decide) rfl ?_
      refine X_iconst 2 dL_crossSet_21 (by decide) ?_
      exact X_iret rfl (by decide) (by decide) dL_crossSet_22 rfl ⟨ts, hts, rfl⟩
  | inr v =>
    refine X_callVX (As := [.int x1, .int x2, .int x3]) (rest := [.int 0, .ref ao]) (wr := (wH G ad σ.2.1 σ.2.2.1 ts ++ [(ao, .inl (G.2.2.2, 1, .inr (.inl fo)))])) (k_X9_crossSet (d := 8) (Nat.le_refl _) hf) LB_X9_crossSet lk_L_46 (by omega) dL_crossSet_7 rfl rfl (Nat.le_of_ble_eq_true rfl) ⟨by decide, by decide⟩ 0 rfl ⟨rfl, rfl⟩ (List.range _) (shf _ _) (perm_l _ _) (perm_r _ _) (nd_range _) (nd_of (shf_nodup _ _)) (dis_l _ _) (fun ro w1 h hw => ?_) (fun cx w1 h hw => nomatch h)
    obtain rfl := hw
    cases h
    refine X_swap ?_
    refine X_st (st1 := [.int v, .int 0, .ref ao]) rfl ?_
    refine X_i2l dL_crossSet_10 ?_
    refine X_ws (ws1 := wO G ad (σ1, σ.2) ts ao fo) rfl ?_
    refine X_lastore dL_crossSet_11 (15 + (wTs G ts).length) (wO_out G ad (σ1, σ.2) ts ao fo) vp01 (wO G ad (σ1, σ.2) ts ao (vp_updL fo 0 v.toInt64)) (wO_set G ad (σ1, σ.2) ts ao fo _) ?_
    refine X_goto 23 dL_crossSet_12 (by decide) ?_
    refine X_iconst 0 dL_crossSet_23 (by decide) ?_
    exact X_iret rfl (by decide) (by decide) dL_crossSet_24 rfl ⟨ts, hts, rfl⟩)
set_option maxHeartbeats 4000000 in
set_option maxRecDepth 100000 in
theorem k_L_isAnchor {l : Launch} {G : Gv} {ad : Nat → Nat} {d ao : Nat} {σ : S2} {ts : List Tb} {fo : Nat → Int64} {q : ((Nat ⊕ Bool) × St)} {x1 : Int32} {x2 : Int32} (hd : 9 ≤ d) (hts : ts.map (fun q => q.2) = σ.2.2.2) (hc : ∀ c, q.1 = .inl c → c ∈ [2]) (hf : f_X9_isAnchor σ.1 x1 x2 = some q) : XK l G yL_isAnchor (.codeWith yL_isAnchor cL_isAnchor 5 (some .int) [(0, 17, 20, 28)]) d 16 256 [.ref (ad 0), .int x1, .int x2, .ref ao] (wO G ad σ ts ao fo) (.inr (some (.int (wk [2] q.1)))) (fun w => ∃ ts1 : List Tb, ts1.map (fun q => q.2) = ((q.2, σ.2)).2.2.2 ∧ w = wO G ad ((q.2, σ.2)) ts1 ao (wob q.1 fo)) := X_introH (by decide) (Nat.le_of_ble_eq_true rfl) (by
  refine X_aload_n 3 rfl dL_isAnchor_0 rfl ?_
  refine X_iconst 0 dL_isAnchor_1 (by decide) ?_
  refine X_aload_n 0 rfl dL_isAnchor_2 rfl ?_
  refine X_iload_n 1 rfl dL_isAnchor_3 rfl ?_
  refine X_iload_n 2 rfl dL_isAnchor_4 rfl ?_
  obtain ⟨r, σ1⟩ := q
  cases r with
  | inl c =>
    refine X_callVX (As := [.int x1, .int x2]) (rest := [.int 0, .ref ao]) (wr := (wH G ad σ.2.1 σ.2.2.1 ts ++ [(ao, .inl (G.2.2.2, 1, .inr (.inl fo)))])) (k_X9_isAnchor (d := 8) (Nat.le_refl _) hf) LB_X9_isAnchor lk_L_49 (by omega) dL_isAnchor_5 rfl rfl (Nat.le_of_ble_eq_true rfl) ⟨by decide, by decide⟩ 0 rfl ⟨rfl, rfl⟩ (List.range _) (shf _ _) (perm_l _ _) (perm_r _ _) (nd_range _) (nd_of (shf_nodup _ _)) (dis_l _ _) (fun ro w1 h hw => nomatch h) (fun cx w1 h hw => ?_)
    obtain rfl := hw
    cases h
    have hm := hc c rfl
    simp only [List.mem_cons, List.not_mem_nil, or_false] at hm
    rcases hm with rfl
    · refine XT_catch [] ((tableOf [(0, 17, 20, 28)])[0]) [] rfl (fun z hz => absurd hz List.not_mem_nil) (by decide) (by decide) cl_L_28 (by decide +kernel) (fun qe => ?_)
      refine X_swap ?_
      refine X_ws (ws1 := wO G ad (σ1, σ.2) ts ao fo) rfl ?_
      refine X_astore [(0, .ref (ad 0)), (1, .int x1), (2, .int x2), (3, .ref ao), (4, .ref qe)] [1, 2, 3, 4, 0] dL_isAnchor_20 (by decide) rfl ?_
      refine X_iconst 1 dL_isAnchor_22 (by decide) ?_
      exact X_iret rfl (by decide) (by decide) dL_isAnchor_23 rfl ⟨ts, hts, rfl⟩
  | inr v =>
    refine X_callVX (As := [.int x1, .int x2]) (rest := [.int 0, .ref ao]) (wr := (wH G ad σ.2.1 σ.2.2.1 ts ++ [(ao, .inl (G.2.2.2, 1, .inr (.inl fo)))])) (k_X9_isAnchor (d := 8) (Nat.le_refl _) hf) LB_X9_isAnchor lk_L_49 (by omega) dL_isAnchor_5 rfl rfl (Nat.le_of_ble_eq_true rfl) ⟨by decide, by decide⟩ 0 rfl ⟨rfl, rfl⟩ (List.range _) (shf _ _) (perm_l _ _) (perm_r _ _) (nd_range _) (nd_of (shf_nodup _ _)) (dis_l _ _) (fun ro w1 h hw => ?_) (fun cx w1 h hw => nomatch h)
    obtain rfl := hw
    cases h
    refine X_swap ?_
    refine X_ws (ws1 := wO G ad (σ1, σ.2) ts ao fo) rfl ?_
    refine X_st (st1 := [.int (b2i v), .int 0, .ref ao]) rfl ?_
    cases v with
    | false =>
      refine X_if_eq 15 dL_isAnchor_8 (by decide) (fun _ => ?_) (fun hne => absurd rfl hne)
      refine X_lconst 0 dL_isAnchor_15 (by decide) ?_
      refine X_lastore dL_isAnchor_16 (15 + (wTs G ts).length) (wO_out G ad (σ1, σ.2) ts ao fo) vp01 (wO G ad (σ1, σ.2) ts ao (vp_updL fo 0 0)) (wO_set G ad (σ1, σ.2) ts ao fo _) ?_
      refine X_goto 24 dL_isAnchor_17 (by decide) ?_
      refine X_iconst 0 dL_isAnchor_24 (by decide) ?_
      exact X_iret rfl (by decide) (by decide) dL_isAnchor_25 rfl ⟨ts, hts, rfl⟩
    | true =>
      refine X_if_eq 15 dL_isAnchor_8 (by decide) (fun he => absurd he (by decide)) (fun _ => ?_)
      refine X_lconst 1 dL_isAnchor_11 (by decide) ?_
      refine X_goto 16 dL_isAnchor_12 (by decide) ?_
      refine X_lastore dL_isAnchor_16 (15 + (wTs G ts).length) (wO_out G ad (σ1, σ.2) ts ao fo) vp01 (wO G ad (σ1, σ.2) ts ao (vp_updL fo 0 1)) (wO_set G ad (σ1, σ.2) ts ao fo _) ?_
      refine X_goto 24 dL_isAnchor_17 (by decide) ?_
      refine X_iconst 0 dL_isAnchor_24 (by decide) ?_
      exact X_iret rfl (by decide) (by decide) dL_isAnchor_25 rfl ⟨ts, hts, rfl⟩)
set_option maxHeartbeats 4000000 in
set_option maxRecDepth 100000 in
theorem k_L_check {l : Launch} {G : Gv} {ad : Nat → Nat} {d ao : Nat} {σ : S2} {ts : List Tb} {fo : Nat → Int64} {q : ((Nat ⊕ Int32) × St)} {x1 : Int32} {x2 : Int32} {x3 : Int32} {x4 : Int32} (hd : 9 ≤ d) (hts : ts.map (fun q => q.2) = σ.2.2.2) (hc : ∀ c, q.1 = .inl c → c ∈ [2, 0]) (hf : f_X9_check σ.1 x1 x2 x3 x4 = some q) : XK l G yL_check (.codeWith yL_check cL_check 7 (some .int) [(0, 14, 17, 28), (0, 14, 21, 13)]) d 16 256 [.ref (ad 0), .int x1, .int x2, .int x3, .int x4, .ref ao] (wO G ad σ ts ao fo) (.inr (some (.int (wk [2, 0] q.1)))) (fun w => ∃ ts1 : List Tb, ts1.map (fun q => q.2) = ((q.2, σ.2)).2.2.2 ∧ w = wO G ad ((q.2, σ.2)) ts1 ao (wo q.1 fo)) := X_introH (by decide) (Nat.le_of_ble_eq_true rfl) (by
  refine X_aload 5 rfl dL_check_0 ?_
  refine X_iconst 0 dL_check_2 (by decide) ?_
  refine X_aload_n 0 rfl dL_check_3 rfl ?_
  refine X_iload_n 1 rfl dL_check_4 rfl ?_
  refine X_iload_n 2 rfl dL_check_5 rfl ?_
  refine X_iload_n 3 rfl dL_check_6 rfl ?_
  refine X_iload 4 rfl dL_check_7 ?_
  obtain ⟨r, σ1⟩ := q
  cases r with
  | inl c =>
    refine X_callVX (As := [.int x1, .int x2, .int x3, .int x4]) (rest := [.int 0, .ref ao]) (wr := (wH G ad σ.2.1 σ.2.2.1 ts ++ [(ao, .inl (G.2.2.2, 1, .inr (.inl fo)))])) (k_X9_check (d := 8) (Nat.le_refl _) hf) LB_X9_check lk_L_53 (by omega) dL_check_9 rfl rfl (Nat.le_of_ble_eq_true rfl) ⟨by decide, by decide⟩ 0 rfl ⟨rfl, rfl⟩ (List.range _) (shf _ _) (perm_l _ _) (perm_r _ _) (nd_range _) (nd_of (shf_nodup _ _)) (dis_l _ _) (fun ro w1 h hw => nomatch h) (fun cx w1 h hw => ?_)
    obtain rfl := hw
    cases h
    have hm := hc c rfl
    simp only [List.mem_cons, List.not_mem_nil, or_false] at hm
    rcases hm with rfl | rfl
    · refine XT_catch [] ((tableOf [(0, 14, 17, 28), (0, 14, 21, 13)])[0]) [(tableOf [(0, 14, 17, 28), (0, 14, 21, 13)])[1]] rfl (fun z hz => absurd hz List.not_mem_nil) (by decide) (by decide) cl_L_28 (by decide +kernel) (fun qe => ?_)
      refine X_swap ?_
      refine X_ws (ws1 := wO G ad (σ1, σ.2) ts ao fo) rfl ?_
      refine X_astore [(0, .ref (ad 0)), (1, .int x1), (2, .int x2), (3, .int x3), (4, .int x4), (5, .ref ao), (6, .ref qe)] [1, 2, 3, 4, 5, 6, 0] dL_check_17 (by decide) rfl ?_
      refine X_iconst 1 dL_check_19 (by decide) ?_
      exact X_iret rfl (by decide) (by decide) dL_check_20 rfl ⟨ts, hts, rfl⟩
    · refine XT_catch [(tableOf [(0, 14, 17, 28), (0, 14, 21, 13)])[0]] ((tableOf [(0, 14, 17, 28), (0, 14, 21, 13)])[1]) [] rfl (by intro z hz; simp only [List.mem_cons, List.not_mem_nil, or_false] at hz; rcases hz with rfl <;> exact Or.inr ⟨by decide, _, by first | exact cl_L_28, by decide +kernel⟩) (by decide) (by decide) cl_L_13 (by decide +kernel) (fun qe => ?_)
      refine X_swap ?_
      refine X_ws (ws1 := wO G ad (σ1, σ.2) ts ao fo) rfl ?_
      refine X_astore [(0, .ref (ad 0)), (1, .int x1), (2, .int x2), (3, .int x3), (4, .int x4), (5, .ref ao), (6, .ref qe)] [1, 2, 3, 4, 5, 6, 0] dL_check_21 (by decide) rfl ?_
      refine X_iconst 2 dL_check_23 (by decide) ?_
      exact X_iret rfl (by decide) (by decide) dL_check_24 rfl ⟨ts, hts, rfl⟩
  | inr v =>
    refine X_callVX (As := [.int x1, .int x2, .int x3, .int x4]) (rest := [.int 0, .ref ao]) (wr := (wH G ad σ.2.1 σ.2.2.1 ts ++ [(ao, .inl (G.2.2.2, 1, .inr (.inl fo)))])) (k_X9_check (d := 8) (Nat.le_refl _) hf) LB_X9_check lk_L_53 (by omega) dL_check_9 rfl rfl (Nat.le_of_ble_eq_true rfl) ⟨by decide, by decide⟩ 0 rfl ⟨rfl, rfl⟩ (List.range _) (shf _ _) (perm_l _ _) (perm_r _ _) (nd_range _) (nd_of (shf_nodup _ _)) (dis_l _ _) (fun ro w1 h hw => ?_) (fun cx w1 h hw => nomatch h)
    obtain rfl := hw
    cases h
    refine X_swap ?_
    refine X_st (st1 := [.int v, .int 0, .ref ao]) rfl ?_
    refine X_i2l dL_check_12 ?_
    refine X_ws (ws1 := wO G ad (σ1, σ.2) ts ao fo) rfl ?_
    refine X_lastore dL_check_13 (15 + (wTs G ts).length) (wO_out G ad (σ1, σ.2) ts ao fo) vp01 (wO G ad (σ1, σ.2) ts ao (vp_updL fo 0 v.toInt64)) (wO_set G ad (σ1, σ.2) ts ao fo _) ?_
    refine X_goto 25 dL_check_14 (by decide) ?_
    refine X_iconst 0 dL_check_25 (by decide) ?_
    exact X_iret rfl (by decide) (by decide) dL_check_26 rfl ⟨ts, hts, rfl⟩)
set_option maxHeartbeats 4000000 in
set_option maxRecDepth 100000 in
theorem k_L_play {l : Launch} {G : Gv} {ad : Nat → Nat} {d ao : Nat} {σ : S2} {ts : List Tb} {fo : Nat → Int64} {q : ((Nat ⊕ Int32) × S2)} {x1 : Int32} {x2 : Int32} {x3 : Int32} {x4 : Int32} (hd : 11 ≤ d) (hts : ts.map (fun q => q.2) = σ.2.2.2) (hc : ∀ c, q.1 = .inl c → c ∈ [2, 0, 1]) (hf : f_X9_play σ x1 x2 x3 x4 = some q) : XK l G yL_play (.codeWith yL_play cL_play 7 (some .int) [(0, 14, 17, 28), (0, 14, 21, 13), (0, 14, 25, 15)]) d 16 256 [.ref (ad 0), .int x1, .int x2, .int x3, .int x4, .ref ao] (wO G ad σ ts ao fo) (.inr (some (.int (wk [2, 0, 1] q.1)))) (fun w => ∃ ts1 : List Tb, ts1.map (fun q => q.2) = (q.2).2.2.2 ∧ w = wO G ad (q.2) ts1 ao (wo q.1 fo)) := X_introH (by decide) (Nat.le_of_ble_eq_true rfl) (by
  refine X_ws (ws1 := wA G ad σ ts ++ [(ao, .inl (G.2.2.2, 1, .inr (.inl fo)))]) (by unfold wO wA; rw [List.append_assoc]) ?_
  refine X_aload 5 rfl dL_play_0 ?_
  refine X_iconst 0 dL_play_2 (by decide) ?_
  refine X_aload_n 0 rfl dL_play_3 rfl ?_
  refine X_iload_n 1 rfl dL_play_4 rfl ?_
  refine X_iload_n 2 rfl dL_play_5 rfl ?_
  refine X_iload_n 3 rfl dL_play_6 rfl ?_
  refine X_iload 4 rfl dL_play_7 ?_
  obtain ⟨r, σ1⟩ := q
  cases r with
  | inl c =>
    refine X_callVX (As := [.int x1, .int x2, .int x3, .int x4]) (rest := [.int 0, .ref ao]) (wr := [(ao, .inl (G.2.2.2, 1, .inr (.inl fo)))]) (k_X9_play (d := 10) (Nat.le_refl _) hts hf) LB_X9_play lk_L_57 (by omega) dL_play_9 rfl rfl (Nat.le_of_ble_eq_true rfl) ⟨by decide, by decide⟩ 0 rfl ⟨rfl, rfl⟩ (List.range _) (shf _ _) (perm_l _ _) (perm_r _ _) (nd_range _) (nd_of (shf_nodup _ _)) (dis_l _ _) (fun ro w1 h hw => nomatch h) (fun cx w1 h hw => ?_)
    obtain ⟨ts1, hts1, rfl⟩ := hw
    cases h
    have hm := hc c rfl
    simp only [List.mem_cons, List.not_mem_nil, or_false] at hm
    rcases hm with rfl | rfl | rfl
    · refine XT_catch [] ((tableOf [(0, 14, 17, 28), (0, 14, 21, 13), (0, 14, 25, 15)])[0]) [(tableOf [(0, 14, 17, 28), (0, 14, 21, 13), (0, 14, 25, 15)])[1], (tableOf [(0, 14, 17, 28), (0, 14, 21, 13), (0, 14, 25, 15)])[2]] rfl (fun z hz => absurd hz List.not_mem_nil) (by decide) (by decide) cl_L_28 (by decide +kernel) (fun qe => ?_)
      refine X_swap ?_
      refine X_ws (ws1 := wO G ad σ1 ts1 ao fo) (by unfold wO wA; rw [List.append_assoc]) ?_
      refine X_astore [(0, .ref (ad 0)), (1, .int x1), (2, .int x2), (3, .int x3), (4, .int x4), (5, .ref ao), (6, .ref qe)] [1, 2, 3, 4, 5, 6, 0] dL_play_17 (by decide) rfl ?_
      refine X_iconst 1 dL_play_19 (by decide) ?_
      exact X_iret rfl (by decide) (by decide) dL_play_20 rfl ⟨ts1, hts1, rfl⟩
    · refine XT_catch [(tableOf [(0, 14, 17, 28), (0, 14, 21, 13), (0, 14, 25, 15)])[0]] ((tableOf [(0, 14, 17, 28), (0, 14, 21, 13), (0, 14, 25, 15)])[1]) [(tableOf [(0, 14, 17, 28), (0, 14, 21, 13), (0, 14, 25, 15)])[2]] rfl (by intro z hz; simp only [List.mem_cons, List.not_mem_nil, or_false] at hz; rcases hz with rfl <;> exact Or.inr ⟨by decide, _, by first | exact cl_L_28, by decide +kernel⟩) (by decide) (by decide) cl_L_13 (by decide +kernel) (fun qe => ?_)
      refine X_swap ?_
      refine X_ws (ws1 := wO G ad σ1 ts1 ao fo) (by unfold wO wA; rw [List.append_assoc]) ?_
      refine X_astore [(0, .ref (ad 0)), (1, .int x1), (2, .int x2), (3, .int x3), (4, .int x4), (5, .ref ao), (6, .ref qe)] [1, 2, 3, 4, 5, 6, 0] dL_play_21 (by decide) rfl ?_
      refine X_iconst 2 dL_play_23 (by decide) ?_
      exact X_iret rfl (by decide) (by decide) dL_play_24 rfl ⟨ts1, hts1, rfl⟩
    · refine XT_catch [(tableOf [(0, 14, 17, 28), (0, 14, 21, 13), (0, 14, 25, 15)])[0], (tableOf [(0, 14, 17, 28), (0, 14, 21, 13), (0, 14, 25, 15)])[1]] ((tableOf [(0, 14, 17, 28), (0, 14, 21, 13), (0, 14, 25, 15)])[2]) [] rfl (by intro z hz; simp only [List.mem_cons, List.not_mem_nil, or_false] at hz; rcases hz with rfl | rfl <;> exact Or.inr ⟨by decide, _, by first | exact cl_L_28 | exact cl_L_13, by decide +kernel⟩) (by decide) (by decide) cl_L_15 (by decide +kernel) (fun qe => ?_)
      refine X_swap ?_
      refine X_ws (ws1 := wO G ad σ1 ts1 ao fo) (by unfold wO wA; rw [List.append_assoc]) ?_
      refine X_astore [(0, .ref (ad 0)), (1, .int x1), (2, .int x2), (3, .int x3), (4, .int x4), (5, .ref ao), (6, .ref qe)] [1, 2, 3, 4, 5, 6, 0] dL_play_25 (by decide) rfl ?_
      refine X_iconst 3 dL_play_27 (by decide) ?_
      exact X_iret rfl (by decide) (by decide) dL_play_28 rfl ⟨ts1, hts1, rfl⟩
  | inr v =>
    refine X_callVX (As := [.int x1, .int x2, .int x3, .int x4]) (rest := [.int 0, .ref ao]) (wr := [(ao, .inl (G.2.2.2, 1, .inr (.inl fo)))]) (k_X9_play (d := 10) (Nat.le_refl _) hts hf) LB_X9_play lk_L_57 (by omega) dL_play_9 rfl rfl (Nat.le_of_ble_eq_true rfl) ⟨by decide, by decide⟩ 0 rfl ⟨rfl, rfl⟩ (List.range _) (shf _ _) (perm_l _ _) (perm_r _ _) (nd_range _) (nd_of (shf_nodup _ _)) (dis_l _ _) (fun ro w1 h hw => ?_) (fun cx w1 h hw => nomatch h)
    obtain ⟨ts1, hts1, rfl⟩ := hw
    cases h
    refine X_swap ?_
    refine X_st (st1 := [.int v, .int 0, .ref ao]) rfl ?_
    refine X_i2l dL_play_12 ?_
    refine X_ws (ws1 := wO G ad σ1 ts1 ao fo) (by unfold wO wA; rw [List.append_assoc]) ?_
    refine X_lastore dL_play_13 (15 + (wTs G ts1).length) (wO_out G ad σ1 ts1 ao fo) vp01 (wO G ad σ1 ts1 ao (vp_updL fo 0 v.toInt64)) (wO_set G ad σ1 ts1 ao fo _) ?_
    refine X_goto 29 dL_play_14 (by decide) ?_
    refine X_iconst 0 dL_play_29 (by decide) ?_
    exact X_iret rfl (by decide) (by decide) dL_play_30 rfl ⟨ts1, hts1, rfl⟩)
set_option maxHeartbeats 4000000 in
set_option maxRecDepth 100000 in
theorem k_L_plays {l : Launch} {G : Gv} {ad : Nat → Nat} {d ao : Nat} {σ : S2} {ts : List Tb} {fo : Nat → Int64} {q : ((Nat ⊕ Int32) × St)} {x1 : Int32} (hd : 10 ≤ d) (hts : ts.map (fun q => q.2) = σ.2.2.2) (hc : ∀ c, q.1 = .inl c → c ∈ [2]) (hf : f_X9_plays σ.1 x1 = some q) : XK l G yL_plays (.codeWith yL_plays cL_plays 4 (some .int) [(0, 9, 12, 28)]) d 16 256 [.ref (ad 0), .int x1, .ref ao] (wO G ad σ ts ao fo) (.inr (some (.int (wk [2] q.1)))) (fun w => ∃ ts1 : List Tb, ts1.map (fun q => q.2) = ((q.2, σ.2)).2.2.2 ∧ w = wO G ad ((q.2, σ.2)) ts1 ao (wo q.1 fo)) := X_introH (by decide) (Nat.le_of_ble_eq_true rfl) (by
  refine X_aload_n 2 rfl dL_plays_0 rfl ?_
  refine X_iconst 0 dL_plays_1 (by decide) ?_
  refine X_aload_n 0 rfl dL_plays_2 rfl ?_
  refine X_iload_n 1 rfl dL_plays_3 rfl ?_
  obtain ⟨r, σ1⟩ := q
  cases r with
  | inl c =>
    refine X_callVX (As := [.int x1]) (rest := [.int 0, .ref ao]) (wr := (wH G ad σ.2.1 σ.2.2.1 ts ++ [(ao, .inl (G.2.2.2, 1, .inr (.inl fo)))])) (k_X9_plays (d := 9) (Nat.le_refl _) hf) LB_X9_plays lk_L_60 (by omega) dL_plays_4 rfl rfl (Nat.le_of_ble_eq_true rfl) ⟨by decide, by decide⟩ 0 rfl ⟨rfl, rfl⟩ (List.range _) (shf _ _) (perm_l _ _) (perm_r _ _) (nd_range _) (nd_of (shf_nodup _ _)) (dis_l _ _) (fun ro w1 h hw => nomatch h) (fun cx w1 h hw => ?_)
    obtain rfl := hw
    cases h
    have hm := hc c rfl
    simp only [List.mem_cons, List.not_mem_nil, or_false] at hm
    rcases hm with rfl
    · refine XT_catch [] ((tableOf [(0, 9, 12, 28)])[0]) [] rfl (fun z hz => absurd hz List.not_mem_nil) (by decide) (by decide) cl_L_28 (by decide +kernel) (fun qe => ?_)
      refine X_swap ?_
      refine X_ws (ws1 := wO G ad (σ1, σ.2) ts ao fo) rfl ?_
      refine X_astore_n [(0, .ref (ad 0)), (1, .int x1), (2, .ref ao), (3, .ref qe)] [1, 2, 3, 0] dL_plays_12 rfl (by decide) rfl ?_
      refine X_iconst 1 dL_plays_13 (by decide) ?_
      exact X_iret rfl (by decide) (by decide) dL_plays_14 rfl ⟨ts, hts, rfl⟩
  | inr v =>
    refine X_callVX (As := [.int x1]) (rest := [.int 0, .ref ao]) (wr := (wH G ad σ.2.1 σ.2.2.1 ts ++ [(ao, .inl (G.2.2.2, 1, .inr (.inl fo)))])) (k_X9_plays (d := 9) (Nat.le_refl _) hf) LB_X9_plays lk_L_60 (by omega) dL_plays_4 rfl rfl (Nat.le_of_ble_eq_true rfl) ⟨by decide, by decide⟩ 0 rfl ⟨rfl, rfl⟩ (List.range _) (shf _ _) (perm_l _ _) (perm_r _ _) (nd_range _) (nd_of (shf_nodup _ _)) (dis_l _ _) (fun ro w1 h hw => ?_) (fun cx w1 h hw => nomatch h)
    obtain rfl := hw
    cases h
    refine X_swap ?_
    refine X_st (st1 := [.int v, .int 0, .ref ao]) rfl ?_
    refine X_i2l dL_plays_7 ?_
    refine X_ws (ws1 := wO G ad (σ1, σ.2) ts ao fo) rfl ?_
    refine X_lastore dL_plays_8 (15 + (wTs G ts).length) (wO_out G ad (σ1, σ.2) ts ao fo) vp01 (wO G ad (σ1, σ.2) ts ao (vp_updL fo 0 v.toInt64)) (wO_set G ad (σ1, σ.2) ts ao fo _) ?_
    refine X_goto 15 dL_plays_9 (by decide) ?_
    refine X_iconst 0 dL_plays_15 (by decide) ?_
    exact X_iret rfl (by decide) (by decide) dL_plays_16 rfl ⟨ts, hts, rfl⟩)
set_option maxHeartbeats 4000000 in
set_option maxRecDepth 100000 in
theorem k_L_playAt {l : Launch} {G : Gv} {ad : Nat → Nat} {d ao : Nat} {σ : S2} {ts : List Tb} {fo : Nat → Int64} {q : ((Nat ⊕ Int32) × St)} {x1 : Int32} {x2 : Int32} {x3 : Int32} (hd : 10 ≤ d) (hts : ts.map (fun q => q.2) = σ.2.2.2) (hc : ∀ c, q.1 = .inl c → c ∈ [2, 0]) (hf : f_X9_playAt σ.1 x1 x2 x3 = some q) : XK l G yL_playAt (.codeWith yL_playAt cL_playAt 6 (some .int) [(0, 12, 15, 28), (0, 12, 19, 13)]) d 16 256 [.ref (ad 0), .int x1, .int x2, .int x3, .ref ao] (wO G ad σ ts ao fo) (.inr (some (.int (wk [2, 0] q.1)))) (fun w => ∃ ts1 : List Tb, ts1.map (fun q => q.2) = ((q.2, σ.2)).2.2.2 ∧ w = wO G ad ((q.2, σ.2)) ts1 ao (wo q.1 fo)) := X_introH (by decide) (Nat.le_of_ble_eq_true rfl) (by
  refine X_aload 4 rfl dL_playAt_0 ?_
  refine X_iconst 0 dL_playAt_2 (by decide) ?_
  refine X_aload_n 0 rfl dL_playAt_3 rfl ?_
  refine X_iload_n 1 rfl dL_playAt_4 rfl ?_
  refine X_iload_n 2 rfl dL_playAt_5 rfl ?_
  refine X_iload_n 3 rfl dL_playAt_6 rfl ?_
  obtain ⟨r, σ1⟩ := q
  cases r with
  | inl c =>
    refine X_callVX (As := [.int x1, .int x2, .int x3]) (rest := [.int 0, .ref ao]) (wr := (wH G ad σ.2.1 σ.2.2.1 ts ++ [(ao, .inl (G.2.2.2, 1, .inr (.inl fo)))])) (k_X9_playAt (d := 9) (Nat.le_refl _) hf) LB_X9_playAt lk_L_63 (by omega) dL_playAt_7 rfl rfl (Nat.le_of_ble_eq_true rfl) ⟨by decide, by decide⟩ 0 rfl ⟨rfl, rfl⟩ (List.range _) (shf _ _) (perm_l _ _) (perm_r _ _) (nd_range _) (nd_of (shf_nodup _ _)) (dis_l _ _) (fun ro w1 h hw => nomatch h) (fun cx w1 h hw => ?_)
    obtain rfl := hw
    cases h
    have hm := hc c rfl
    simp only [List.mem_cons, List.not_mem_nil, or_false] at hm
    rcases hm with rfl | rfl
    · refine XT_catch [] ((tableOf [(0, 12, 15, 28), (0, 12, 19, 13)])[0]) [(tableOf [(0, 12, 15, 28), (0, 12, 19, 13)])[1]] rfl (fun z hz => absurd hz List.not_mem_nil) (by decide) (by decide) cl_L_28 (by decide +kernel) (fun qe => ?_)
      refine X_swap ?_
      refine X_ws (ws1 := wO G ad (σ1, σ.2) ts ao fo) rfl ?_
      refine X_astore [(0, .ref (ad 0)), (1, .int x1), (2, .int x2), (3, .int x3), (4, .ref ao), (5, .ref qe)] [1, 2, 3, 4, 5, 0] dL_playAt_15 (by decide) rfl ?_
      refine X_iconst 1 dL_playAt_17 (by decide) ?_
      exact X_iret rfl (by decide) (by decide) dL_playAt_18 rfl ⟨ts, hts, rfl⟩
    · refine XT_catch [(tableOf [(0, 12, 15, 28), (0, 12, 19, 13)])[0]] ((tableOf [(0, 12, 15, 28), (0, 12, 19, 13)])[1]) [] rfl (by intro z hz; simp only [List.mem_cons, List.not_mem_nil, or_false] at hz; rcases hz with rfl <;> exact Or.inr ⟨by decide, _, by first | exact cl_L_28, by decide +kernel⟩) (by decide) (by decide) cl_L_13 (by decide +kernel) (fun qe => ?_)
      refine X_swap ?_
      refine X_ws (ws1 := wO G ad (σ1, σ.2) ts ao fo) rfl ?_
      refine X_astore [(0, .ref (ad 0)), (1, .int x1), (2, .int x2), (3, .int x3), (4, .ref ao), (5, .ref qe)] [1, 2, 3, 4, 5, 0] dL_playAt_19 (by decide) rfl ?_
      refine X_iconst 2 dL_playAt_21 (by decide) ?_
      exact X_iret rfl (by decide) (by decide) dL_playAt_22 rfl ⟨ts, hts, rfl⟩
  | inr v =>
    refine X_callVX (As := [.int x1, .int x2, .int x3]) (rest := [.int 0, .ref ao]) (wr := (wH G ad σ.2.1 σ.2.2.1 ts ++ [(ao, .inl (G.2.2.2, 1, .inr (.inl fo)))])) (k_X9_playAt (d := 9) (Nat.le_refl _) hf) LB_X9_playAt lk_L_63 (by omega) dL_playAt_7 rfl rfl (Nat.le_of_ble_eq_true rfl) ⟨by decide, by decide⟩ 0 rfl ⟨rfl, rfl⟩ (List.range _) (shf _ _) (perm_l _ _) (perm_r _ _) (nd_range _) (nd_of (shf_nodup _ _)) (dis_l _ _) (fun ro w1 h hw => ?_) (fun cx w1 h hw => nomatch h)
    obtain rfl := hw
    cases h
    refine X_swap ?_
    refine X_st (st1 := [.int v, .int 0, .ref ao]) rfl ?_
    refine X_i2l dL_playAt_10 ?_
    refine X_ws (ws1 := wO G ad (σ1, σ.2) ts ao fo) rfl ?_
    refine X_lastore dL_playAt_11 (15 + (wTs G ts).length) (wO_out G ad (σ1, σ.2) ts ao fo) vp01 (wO G ad (σ1, σ.2) ts ao (vp_updL fo 0 v.toInt64)) (wO_set G ad (σ1, σ.2) ts ao fo _) ?_
    refine X_goto 23 dL_playAt_12 (by decide) ?_
    refine X_iconst 0 dL_playAt_23 (by decide) ?_
    exact X_iret rfl (by decide) (by decide) dL_playAt_24 rfl ⟨ts, hts, rfl⟩)
set_option maxHeartbeats 4000000 in
set_option maxRecDepth 100000 in
theorem k_L_bestPlay {l : Launch} {G : Gv} {ad : Nat → Nat} {d ao : Nat} {σ : S2} {ts : List Tb} {fo : Nat → Int64} {q : ((Nat ⊕ Int32) × St)} {x1 : Int32} (hd : 10 ≤ d) (hts : ts.map (fun q => q.2) = σ.2.2.2) (hc : ∀ c, q.1 = .inl c → c ∈ [2]) (hf : f_X9_bestPlay σ.1 x1 = some q) : XK l G yL_bestPlay (.codeWith yL_bestPlay cL_bestPlay 4 (some .int) [(0, 9, 12, 28)]) d 16 256 [.ref (ad 0), .int x1, .ref ao] (wO G ad σ ts ao fo) (.inr (some (.int (wk [2] q.1)))) (fun w => ∃ ts1 : List Tb, ts1.map (fun q => q.2) = ((q.2, σ.2)).2.2.2 ∧ w = wO G ad ((q.2, σ.2)) ts1 ao (wo q.1 fo)) := X_introH (by decide) (Nat.le_of_ble_eq_true rfl) (by
  refine X_aload_n 2 rfl dL_bestPlay_0 rfl ?_
  refine X_iconst 0 dL_bestPlay_1 (by decide) ?_
  refine X_aload_n 0 rfl dL_bestPlay_2 rfl ?_
  refine X_iload_n 1 rfl dL_bestPlay_3 rfl ?_
  obtain ⟨r, σ1⟩ := q
  cases r with
  | inl c =>
    refine X_callVX (As := [.int x1]) (rest := [.int 0, .ref ao]) (wr := (wH G ad σ.2.1 σ.2.2.1 ts ++ [(ao, .inl (G.2.2.2, 1, .inr (.inl fo)))])) (k_X9_bestPlay (d := 9) (Nat.le_refl _) hf) LB_X9_bestPlay lk_L_66 (by omega) dL_bestPlay_4 rfl rfl (Nat.le_of_ble_eq_true rfl) ⟨by decide, by decide⟩ 0 rfl ⟨rfl, rfl⟩ (List.range _) (shf _ _) (perm_l _ _) (perm_r _ _) (nd_range _) (nd_of (shf_nodup _ _)) (dis_l _ _) (fun ro w1 h hw => nomatch h) (fun cx w1 h hw => ?_)
    obtain rfl := hw
    cases h
    have hm := hc c rfl
    simp only [List.mem_cons, List.not_mem_nil, or_false] at hm
    rcases hm with rfl
    · refine XT_catch [] ((tableOf [(0, 9, 12, 28)])[0]) [] rfl (fun z hz => absurd hz List.not_mem_nil) (by decide) (by decide) cl_L_28 (by decide +kernel) (fun qe => ?_)
      refine X_swap ?_
      refine X_ws (ws1 := wO G ad (σ1, σ.2) ts ao fo) rfl ?_
      refine X_astore_n [(0, .ref (ad 0)), (1, .int x1), (2, .ref ao), (3, .ref qe)] [1, 2, 3, 0] dL_bestPlay_12 rfl (by decide) rfl ?_
      refine X_iconst 1 dL_bestPlay_13 (by decide) ?_
      exact X_iret rfl (by decide) (by decide) dL_bestPlay_14 rfl ⟨ts, hts, rfl⟩
  | inr v =>
    refine X_callVX (As := [.int x1]) (rest := [.int 0, .ref ao]) (wr := (wH G ad σ.2.1 σ.2.2.1 ts ++ [(ao, .inl (G.2.2.2, 1, .inr (.inl fo)))])) (k_X9_bestPlay (d := 9) (Nat.le_refl _) hf) LB_X9_bestPlay lk_L_66 (by omega) dL_bestPlay_4 rfl rfl (Nat.le_of_ble_eq_true rfl) ⟨by decide, by decide⟩ 0 rfl ⟨rfl, rfl⟩ (List.range _) (shf _ _) (perm_l _ _) (perm_r _ _) (nd_range _) (nd_of (shf_nodup _ _)) (dis_l _ _) (fun ro w1 h hw => ?_) (fun cx w1 h hw => nomatch h)
    obtain rfl := hw
    cases h
    refine X_swap ?_
    refine X_st (st1 := [.int v, .int 0, .ref ao]) rfl ?_
    refine X_i2l dL_bestPlay_7 ?_
    refine X_ws (ws1 := wO G ad (σ1, σ.2) ts ao fo) rfl ?_
    refine X_lastore dL_bestPlay_8 (15 + (wTs G ts).length) (wO_out G ad (σ1, σ.2) ts ao fo) vp01 (wO G ad (σ1, σ.2) ts ao (vp_updL fo 0 v.toInt64)) (wO_set G ad (σ1, σ.2) ts ao fo _) ?_
    refine X_goto 15 dL_bestPlay_9 (by decide) ?_
    refine X_iconst 0 dL_bestPlay_15 (by decide) ?_
    exact X_iret rfl (by decide) (by decide) dL_bestPlay_16 rfl ⟨ts, hts, rfl⟩)
set_option maxHeartbeats 4000000 in
set_option maxRecDepth 100000 in
theorem k_L_playBest {l : Launch} {G : Gv} {ad : Nat → Nat} {d ao : Nat} {σ : S2} {ts : List Tb} {fo : Nat → Int64} {q : ((Nat ⊕ Int32) × S2)} {x1 : Int32} (hd : 11 ≤ d) (hts : ts.map (fun q => q.2) = σ.2.2.2) (hc : ∀ c, q.1 = .inl c → c ∈ [2, 1]) (hf : f_X9_playBest σ x1 = some q) : XK l G yL_playBest (.codeWith yL_playBest cL_playBest 4 (some .int) [(0, 9, 12, 28), (0, 9, 15, 15)]) d 16 256 [.ref (ad 0), .int x1, .ref ao] (wO G ad σ ts ao fo) (.inr (some (.int (wk [2, 1] q.1)))) (fun w => ∃ ts1 : List Tb, ts1.map (fun q => q.2) = (q.2).2.2.2 ∧ w = wO G ad (q.2) ts1 ao (wo q.1 fo)) := X_introH (by decide) (Nat.le_of_ble_eq_true rfl) (by
  refine X_ws (ws1 := wA G ad σ ts ++ [(ao, .inl (G.2.2.2, 1, .inr (.inl fo)))]) (by unfold wO wA; rw [List.append_assoc]) ?_
  refine X_aload_n 2 rfl dL_playBest_0 rfl ?_
  refine X_iconst 0 dL_playBest_1 (by decide) ?_
  refine X_aload_n 0 rfl dL_playBest_2 rfl ?_
  refine X_iload_n 1 rfl dL_playBest_3 rfl ?_
  obtain ⟨r, σ1⟩ := q
  cases r with
  | inl c =>
    refine X_callVX (As := [.int x1]) (rest := [.int 0, .ref ao]) (wr := [(ao, .inl (G.2.2.2, 1, .inr (.inl fo)))]) (k_X9_playBest (d := 10) (Nat.le_refl _) hts hf) LB_X9_playBest lk_L_69 (by omega) dL_playBest_4 rfl rfl (Nat.le_of_ble_eq_true rfl) ⟨by decide, by decide⟩ 0 rfl ⟨rfl, rfl⟩ (List.range _) (shf _ _) (perm_l _ _) (perm_r _ _) (nd_range _) (nd_of (shf_nodup _ _)) (dis_l _ _) (fun ro w1 h hw => nomatch h) (fun cx w1 h hw => ?_)
    obtain ⟨ts1, hts1, rfl⟩ := hw
    cases h
    have hm := hc c rfl
    simp only [List.mem_cons, List.not_mem_nil, or_false] at hm
    rcases hm with rfl | rfl
    · refine XT_catch [] ((tableOf [(0, 9, 12, 28), (0, 9, 15, 15)])[0]) [(tableOf [(0, 9, 12, 28), (0, 9, 15, 15)])[1]] rfl (fun z hz => absurd hz List.not_mem_nil) (by decide) (by decide) cl_L_28 (by decide +kernel) (fun qe => ?_)
      refine X_swap ?_
      refine X_ws (ws1 := wO G ad σ1 ts1 ao fo) (by unfold wO wA; rw [List.append_assoc]) ?_
      refine X_astore_n [(0, .ref (ad 0)), (1, .int x1), (2, .ref ao), (3, .ref qe)] [1, 2, 3, 0] dL_playBest_12 rfl (by decide) rfl ?_
      refine X_iconst 1 dL_playBest_13 (by decide) ?_
      exact X_iret rfl (by decide) (by decide) dL_playBest_14 rfl ⟨ts1, hts1, rfl⟩
    · refine XT_catch [(tableOf [(0, 9, 12, 28), (0, 9, 15, 15)])[0]] ((tableOf [(0, 9, 12, 28), (0, 9, 15, 15)])[1]) [] rfl (by intro z hz; simp only [List.mem_cons, List.not_mem_nil, or_false] at hz; rcases hz with rfl <;> exact Or.inr ⟨by decide, _, by first | exact cl_L_28, by decide +kernel⟩) (by decide) (by decide) cl_L_15 (by decide +kernel) (fun qe => ?_)
      refine X_swap ?_
      refine X_ws (ws1 := wO G ad σ1 ts1 ao fo) (by unfold wO wA; rw [List.append_assoc]) ?_
      refine X_astore_n [(0, .ref (ad 0)), (1, .int x1), (2, .ref ao), (3, .ref qe)] [1, 2, 3, 0] dL_playBest_15 rfl (by decide) rfl ?_
      refine X_iconst 2 dL_playBest_16 (by decide) ?_
      exact X_iret rfl (by decide) (by decide) dL_playBest_17 rfl ⟨ts1, hts1, rfl⟩
  | inr v =>
    refine X_callVX (As := [.int x1]) (rest := [.int 0, .ref ao]) (wr := [(ao, .inl (G.2.2.2, 1, .inr (.inl fo)))]) (k_X9_playBest (d := 10) (Nat.le_refl _) hts hf) LB_X9_playBest lk_L_69 (by omega) dL_playBest_4 rfl rfl (Nat.le_of_ble_eq_true rfl) ⟨by decide, by decide⟩ 0 rfl ⟨rfl, rfl⟩ (List.range _) (shf _ _) (perm_l _ _) (perm_r _ _) (nd_range _) (nd_of (shf_nodup _ _)) (dis_l _ _) (fun ro w1 h hw => ?_) (fun cx w1 h hw => nomatch h)
    obtain ⟨ts1, hts1, rfl⟩ := hw
    cases h
    refine X_swap ?_
    refine X_st (st1 := [.int v, .int 0, .ref ao]) rfl ?_
    refine X_i2l dL_playBest_7 ?_
    refine X_ws (ws1 := wO G ad σ1 ts1 ao fo) (by unfold wO wA; rw [List.append_assoc]) ?_
    refine X_lastore dL_playBest_8 (15 + (wTs G ts1).length) (wO_out G ad σ1 ts1 ao fo) vp01 (wO G ad σ1 ts1 ao (vp_updL fo 0 v.toInt64)) (wO_set G ad σ1 ts1 ao fo _) ?_
    refine X_goto 18 dL_playBest_9 (by decide) ?_
    refine X_iconst 0 dL_playBest_18 (by decide) ?_
    exact X_iret rfl (by decide) (by decide) dL_playBest_19 rfl ⟨ts1, hts1, rfl⟩)
set_option maxHeartbeats 4000000 in
set_option maxRecDepth 100000 in
theorem k_L_endgame {l : Launch} {G : Gv} {ad : Nat → Nat} {d ao : Nat} {σ : S2} {ts : List Tb} {fo : Nat → Int64} {q : ((Nat ⊕ Int32) × St)} {x1 : Int32} (hd : 1061 ≤ d) (hts : ts.map (fun q => q.2) = σ.2.2.2) (hc : ∀ c, q.1 = .inl c → c ∈ [2, 1]) (hf : f_X9_endgame σ.1 x1 = some q) : XK l G yL_endgame (.codeWith yL_endgame cL_endgame 4 (some .int) [(0, 9, 12, 28), (0, 9, 15, 15)]) d 16 256 [.ref (ad 0), .int x1, .ref ao] (wO G ad σ ts ao fo) (.inr (some (.int (wk [2, 1] q.1)))) (fun w => ∃ ts1 : List Tb, ts1.map (fun q => q.2) = ((q.2, σ.2)).2.2.2 ∧ w = wO G ad ((q.2, σ.2)) ts1 ao (wo q.1 fo)) := X_introH (by decide) (Nat.le_of_ble_eq_true rfl) (by
  refine X_aload_n 2 rfl dL_endgame_0 rfl ?_
  refine X_iconst 0 dL_endgame_1 (by decide) ?_
  refine X_aload_n 0 rfl dL_endgame_2 rfl ?_
  refine X_iload_n 1 rfl dL_endgame_3 rfl ?_
  obtain ⟨r, σ1⟩ := q
  cases r with
  | inl c =>
    refine X_callVX (As := [.int x1]) (rest := [.int 0, .ref ao]) (wr := (wH G ad σ.2.1 σ.2.2.1 ts ++ [(ao, .inl (G.2.2.2, 1, .inr (.inl fo)))])) (k_X9_endgame (d := 1060) (Nat.le_refl _) hf) LB_X9_endgame lk_L_72 (by omega) dL_endgame_4 rfl rfl (Nat.le_of_ble_eq_true rfl) ⟨by decide, by decide⟩ 0 rfl ⟨rfl, rfl⟩ (List.range _) (shf _ _) (perm_l _ _) (perm_r _ _) (nd_range _) (nd_of (shf_nodup _ _)) (dis_l _ _) (fun ro w1 h hw => nomatch h) (fun cx w1 h hw => ?_)
    obtain rfl := hw
    cases h
    have hm := hc c rfl
    simp only [List.mem_cons, List.not_mem_nil, or_false] at hm
    rcases hm with rfl | rfl
    · refine XT_catch [] ((tableOf [(0, 9, 12, 28), (0, 9, 15, 15)])[0]) [(tableOf [(0, 9, 12, 28), (0, 9, 15, 15)])[1]] rfl (fun z hz => absurd hz List.not_mem_nil) (by decide) (by decide) cl_L_28 (by decide +kernel) (fun qe => ?_)
      refine X_swap ?_
      refine X_ws (ws1 := wO G ad (σ1, σ.2) ts ao fo) rfl ?_
      refine X_astore_n [(0, .ref (ad 0)), (1, .int x1), (2, .ref ao), (3, .ref qe)] [1, 2, 3, 0] dL_endgame_12 rfl (by decide) rfl ?_
      refine X_iconst 1 dL_endgame_13 (by decide) ?_
      exact X_iret rfl (by decide) (by decide) dL_endgame_14 rfl ⟨ts, hts, rfl⟩
    · refine XT_catch [(tableOf [(0, 9, 12, 28), (0, 9, 15, 15)])[0]] ((tableOf [(0, 9, 12, 28), (0, 9, 15, 15)])[1]) [] rfl (by intro z hz; simp only [List.mem_cons, List.not_mem_nil, or_false] at hz; rcases hz with rfl <;> exact Or.inr ⟨by decide, _, by first | exact cl_L_28, by decide +kernel⟩) (by decide) (by decide) cl_L_15 (by decide +kernel) (fun qe => ?_)
      refine X_swap ?_
      refine X_ws (ws1 := wO G ad (σ1, σ.2) ts ao fo) rfl ?_
      refine X_astore_n [(0, .ref (ad 0)), (1, .int x1), (2, .ref ao), (3, .ref qe)] [1, 2, 3, 0] dL_endgame_15 rfl (by decide) rfl ?_
      refine X_iconst 2 dL_endgame_16 (by decide) ?_
      exact X_iret rfl (by decide) (by decide) dL_endgame_17 rfl ⟨ts, hts, rfl⟩
  | inr v =>
    refine X_callVX (As := [.int x1]) (rest := [.int 0, .ref ao]) (wr := (wH G ad σ.2.1 σ.2.2.1 ts ++ [(ao, .inl (G.2.2.2, 1, .inr (.inl fo)))])) (k_X9_endgame (d := 1060) (Nat.le_refl _) hf) LB_X9_endgame lk_L_72 (by omega) dL_endgame_4 rfl rfl (Nat.le_of_ble_eq_true rfl) ⟨by decide, by decide⟩ 0 rfl ⟨rfl, rfl⟩ (List.range _) (shf _ _) (perm_l _ _) (perm_r _ _) (nd_range _) (nd_of (shf_nodup _ _)) (dis_l _ _) (fun ro w1 h hw => ?_) (fun cx w1 h hw => nomatch h)
    obtain rfl := hw
    cases h
    refine X_swap ?_
    refine X_st (st1 := [.int v, .int 0, .ref ao]) rfl ?_
    refine X_i2l dL_endgame_7 ?_
    refine X_ws (ws1 := wO G ad (σ1, σ.2) ts ao fo) rfl ?_
    refine X_lastore dL_endgame_8 (15 + (wTs G ts).length) (wO_out G ad (σ1, σ.2) ts ao fo) vp01 (wO G ad (σ1, σ.2) ts ao (vp_updL fo 0 v.toInt64)) (wO_set G ad (σ1, σ.2) ts ao fo _) ?_
    refine X_goto 18 dL_endgame_9 (by decide) ?_
    refine X_iconst 0 dL_endgame_18 (by decide) ?_
    exact X_iret rfl (by decide) (by decide) dL_endgame_19 rfl ⟨ts, hts, rfl⟩)
set_option maxHeartbeats 4000000 in
set_option maxRecDepth 100000 in
theorem k_L_undo {l : Launch} {G : Gv} {ad : Nat → Nat} {d ao : Nat} {σ : S2} {ts : List Tb} {fo : Nat → Int64} {q : ((Nat ⊕ Int32) × S2)} (hd : 9 ≤ d) (hts : ts.map (fun q => q.2) = σ.2.2.2) (hc : ∀ c, q.1 = .inl c → c ∈ [1]) (hf : f_X9_undo σ = some q) : XK l G yL_undo (.codeWith yL_undo cL_undo 3 (some .int) [(0, 8, 11, 15)]) d 16 256 [.ref (ad 0), .ref ao] (wO G ad σ ts ao fo) (.inr (some (.int (wk [1] q.1)))) (fun w => ∃ ts1 : List Tb, ts1.map (fun q => q.2) = (q.2).2.2.2 ∧ w = wO G ad (q.2) ts1 ao (wo q.1 fo)) := X_introH (by decide) (Nat.le_of_ble_eq_true rfl) (by
  refine X_ws (ws1 := wA G ad σ ts ++ [(ao, .inl (G.2.2.2, 1, .inr (.inl fo)))]) (by unfold wO wA; rw [List.append_assoc]) ?_
  refine X_aload_n 1 rfl dL_undo_0 rfl ?_
  refine X_iconst 0 dL_undo_1 (by decide) ?_
  refine X_aload_n 0 rfl dL_undo_2 rfl ?_
  obtain ⟨r, σ1⟩ := q
  cases r with
  | inl c =>
    refine X_callVX (As := []) (rest := [.int 0, .ref ao]) (wr := [(ao, .inl (G.2.2.2, 1, .inr (.inl fo)))]) (k_X9_undo (d := 8) (Nat.le_refl _) hts hf) LB_X9_undo lk_L_75 (by omega) dL_undo_3 rfl rfl (Nat.le_of_ble_eq_true rfl) ⟨by decide, by decide⟩ 0 rfl ⟨rfl, rfl⟩ (List.range _) (shf _ _) (perm_l _ _) (perm_r _ _) (nd_range _) (nd_of (shf_nodup _ _)) (dis_l _ _) (fun ro w1 h hw => nomatch h) (fun cx w1 h hw => ?_)
    obtain ⟨ts1, hts1, rfl⟩ := hw
    cases h
    have hm := hc c rfl
    simp only [List.mem_cons, List.not_mem_nil, or_false] at hm
    rcases hm with rfl
    · refine XT_catch [] ((tableOf [(0, 8, 11, 15)])[0]) [] rfl (fun z hz => absurd hz List.not_mem_nil) (by decide) (by decide) cl_L_15 (by decide +kernel) (fun qe => ?_)
      refine X_swap ?_
      refine X_ws (ws1 := wO G ad σ1 ts1 ao fo) (by unfold wO wA; rw [List.append_assoc]) ?_
      refine X_astore_n [(0, .ref (ad 0)), (1, .ref ao), (2, .ref qe)] [1, 2, 0] dL_undo_11 rfl (by decide) rfl ?_
      refine X_iconst 1 dL_undo_12 (by decide) ?_
      exact X_iret rfl (by decide) (by decide) dL_undo_13 rfl ⟨ts1, hts1, rfl⟩
  | inr v =>
    refine X_callVX (As := []) (rest := [.int 0, .ref ao]) (wr := [(ao, .inl (G.2.2.2, 1, .inr (.inl fo)))]) (k_X9_undo (d := 8) (Nat.le_refl _) hts hf) LB_X9_undo lk_L_75 (by omega) dL_undo_3 rfl rfl (Nat.le_of_ble_eq_true rfl) ⟨by decide, by decide⟩ 0 rfl ⟨rfl, rfl⟩ (List.range _) (shf _ _) (perm_l _ _) (perm_r _ _) (nd_range _) (nd_of (shf_nodup _ _)) (dis_l _ _) (fun ro w1 h hw => ?_) (fun cx w1 h hw => nomatch h)
    obtain ⟨ts1, hts1, rfl⟩ := hw
    cases h
    refine X_swap ?_
    refine X_st (st1 := [.int v, .int 0, .ref ao]) rfl ?_
    refine X_i2l dL_undo_6 ?_
    refine X_ws (ws1 := wO G ad σ1 ts1 ao fo) (by unfold wO wA; rw [List.append_assoc]) ?_
    refine X_lastore dL_undo_7 (15 + (wTs G ts1).length) (wO_out G ad σ1 ts1 ao fo) vp01 (wO G ad σ1 ts1 ao (vp_updL fo 0 v.toInt64)) (wO_set G ad σ1 ts1 ao fo _) ?_
    refine X_goto 14 dL_undo_8 (by decide) ?_
    refine X_iconst 0 dL_undo_14 (by decide) ?_
    exact X_iret rfl (by decide) (by decide) dL_undo_15 rfl ⟨ts1, hts1, rfl⟩)
