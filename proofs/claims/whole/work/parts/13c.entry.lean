theorem cl_L_8 : Cond.classLink RL 8 RX9 ∈ tblG := tin 21 (by decide +kernel) (by decide +kernel)
theorem cl_L_79 : Cond.classLink RL 79 RX10 ∈ tblG := tin 815 (by decide +kernel) (by decide +kernel)
theorem lk_L_78 : Cond.methodLink RL 78 yX9_init ∈ tblG ∧ Cond.instanceMethod yX9_init ∈ tblG ∧ yX9_init.name = "<init>" := ⟨tin 23 (by decide +kernel) (by decide +kernel), tin 24 (by decide +kernel) (by decide +kernel), rfl⟩
theorem lk_L_81 : Cond.methodLink RL 81 yX10_init ∈ tblG ∧ Cond.instanceMethod yX10_init ∈ tblG ∧ yX10_init.name = "<init>" := ⟨tin 817 (by decide +kernel) (by decide +kernel), tin 818 (by decide +kernel) (by decide +kernel), rfl⟩
/-! ===== the law from its entry ===== -/
def Z0 (on : Nat → Int32) : S2 := (τ1 on, (0, (0, [])))
/-- what the law does, as a function of the script -/
def f_law (xs : Nat → Int32) (L : Nat) : Option Unit := bno f_X7_ones fun on => bno f_X10_init fun σm => f_law_23 xs L 600 (Z0 on, ((fun _ => 0), σm)) 0
theorem lw_in {w : Cond} (i : Nat) (h : tables_1[i]? = some w) : w ∈ lw_tbl := List.mem_append_right _ (List.mem_of_getElem? h)
set_option maxHeartbeats 8000000 in
set_option maxRecDepth 100000 in
theorem v_law_0 {l : Launch} {G : Gv} {b L : Nat} {xs : Nat → Int32} (hf : f_law xs L = some ()) : VL l G b L xs 0 0 [] 0 [(0, .ref b)] [] := by
  obtain ⟨on, hon, hf⟩ := bno_some hf
  obtain ⟨σm, hm, hf⟩ := bno_some hf
  refine L_new [.int 0, .null, .null, .null, .null] RC_X9 cl_L_8 in_X9 ii_X9 df_X9 (by omega) (by omega) dL_law_0 (fun a => ?_)
  refine L_dup rfl dL_law_3 ?_
  refine L_callI (As := []) (rest := [.ref a]) (wc := [(a, .inr (6, [.int 0, .null, .null, .null, .null]))]) (wr := []) (k_X9_init (d := 3) (Nat.le_refl _) hon) LB_X9_init lk_L_78 (by decide) dL_law_4 rfl rfl (Nat.le_of_ble_eq_true rfl) ⟨by omega, by omega⟩ [0] [] rfl rfl rfl rfl (fun _ h => absurd h List.not_mem_nil) (fun ro w1 hp => ?_)
  obtain ⟨rfl, ad, rfl, rfl⟩ := hp
  refine L_ws (ws1 := wA G ad (Z0 on) []) rfl ?_
  refine L_st (st1 := [.ref (ad 0)]) rfl ?_
  refine L_astore_n [(0, .ref b), (1, .ref (ad 0))] [1, 0] dL_law_7 rfl (by decide) rfl ?_
  refine L_new [.null, .null, .int 0, .int 0, .null, .int 0, .null, .int 0, .null, .null, .int 0, .int 0, .int 0, .null, .int 0, .null, .int 0, .int 0, .null, .null, .null, .null, .null, .null, .int 0] RC_X10 cl_L_79 in_X10 ii_X10 df_X10 (by omega) (by omega) dL_law_8 (fun a2 => ?_)
  refine L_dup rfl dL_law_11 ?_
  refine L_callI (As := []) (rest := [.ref a2]) (wc := [(a2, .inr (7, [.null, .null, .int 0, .int 0, .null, .int 0, .null, .int 0, .null, .null, .int 0, .int 0, .int 0, .null, .int 0, .null, .int 0, .int 0, .null, .null, .null, .null, .null, .null, .int 0]))]) (wr := wA G ad (Z0 on) []) (k_X10_init (d := 1) (Nat.le_refl _) hm) LB_X10_init lk_L_81 (by decide) dL_law_12 rfl rfl (Nat.le_of_ble_eq_true rfl) ⟨by omega, by omega⟩ (shf (wA G ad (Z0 on) []).length [(a2, (.inr (7, [.null, .null, .int 0, .int 0, .null, .int 0, .null, .int 0, .null, .null, .int 0, .int 0, .int 0, .null, .int 0, .null, .int 0, .int 0, .null, .null, .null, .null, .null, .null, .int 0]) : va_E))].length) (List.range (wA G ad (Z0 on) []).length) (perm_r _ _) (perm_l _ _) (nd_of (shf_nodup _ _)) (nd_range _) (fun i h1 h2 => dis_l _ _ i h2 h1) (fun ro w1 hp => ?_)
  obtain ⟨rfl, am, rfl, rfl⟩ := hp
  refine L_st (st1 := [.ref (am 0)]) rfl ?_
  refine L_astore_n [(0, .ref b), (1, .ref (ad 0)), (2, .ref (am 0))] [1, 2, 0] dL_law_15 rfl (by decide) rfl ?_
  refine L_iconst 1 dL_law_16 (by decide) ?_
  refine L_newL al_m (N := 1) (by decide) (by decide) (by decide) (by omega) (by omega) dL_law_17 (fun ao => ?_)
  refine L_lperm (ws1 := wO G ad (Z0 on) [] ao (fun _ => 0) ++ wM G am σm) ?_ ?_
  · rw [wO_as]
    have h : List.Perm (wM G am σm ++ [(ao, (.inl (G.2.2.2, 1, .inr (.inl (fun _ => 0))) : va_E))]) ([(ao, (.inl (G.2.2.2, 1, .inr (.inl (fun _ => 0))) : va_E))] ++ wM G am σm) := List.perm_append_comm
    have h2 := h.append_left (wC G ad (Z0 on).1 ++ wH G ad (Z0 on).2.1 (Z0 on).2.2.1 [])
    rw [← List.append_assoc, ← List.append_assoc] at h2
    exact h2
  refine L_astore_n [(0, .ref b), (1, .ref (ad 0)), (2, .ref (am 0)), (3, .ref ao)] [1, 2, 3, 0] dL_law_19 rfl (by decide) rfl ?_
  refine L_iconst 0 dL_law_20 (by decide) ?_
  refine L_istore [(0, .ref b), (1, .ref (ad 0)), (2, .ref (am 0)), (3, .ref ao), (4, .int 0)] [1, 2, 3, 4, 0] dL_law_21 (by decide) rfl ?_
  exact v_law_23 600 _ _ (Z0 on, ((fun _ => 0), σm)) [] 0 (by omega) (by omega) rfl hf
theorem nest_in : ∀ w ∈ nestL, w ∈ lw_tbl := by
  intro w hw
  simp only [nestL, List.mem_cons, List.not_mem_nil, or_false] at hw
  rcases hw with rfl | rfl | rfl | rfl | rfl | rfl | rfl | rfl | rfl
  · exact lw_in 66 (by decide +kernel)
  · exact lw_in 67 (by decide +kernel)
  · exact lw_in 69 (by decide +kernel)
  · exact lw_in 70 (by decide +kernel)
  · exact lw_in 71 (by decide +kernel)
  · exact lw_in 201 (by decide +kernel)
  · exact lw_in 239 (by decide +kernel)
  · exact lw_in 758 (by decide +kernel)
  · exact lw_in 122 (by decide +kernel)
theorem xe_in : ∀ w ∈ xeL, w ∈ lw_tbl := by
  intro w hw
  simp only [xeL, List.mem_cons, List.not_mem_nil, or_false] at hw
  rcases hw with rfl | rfl | rfl | rfl | rfl | rfl | rfl | rfl | rfl | rfl | rfl
  · exact lw_in 378 (by decide +kernel)
  · exact lw_in 379 (by decide +kernel)
  · exact lw_in 380 (by decide +kernel)
  · exact lw_in 381 (by decide +kernel)
  · exact lw_in 382 (by decide +kernel)
  · exact lw_in 383 (by decide +kernel)
  · exact lw_in 384 (by decide +kernel)
  · exact lw_in 408 (by decide +kernel)
  · exact lw_in 446 (by decide +kernel)
  · exact lw_in 532 (by decide +kernel)
  · exact lw_in 1169 (by decide +kernel)
theorem str_in : ∀ q ∈ strL, Cond.stringRef RX9 q.1 q.2 ∈ lw_tbl := by
  intro q hq
  simp only [strL, List.mem_cons, List.not_mem_nil, or_false] at hq
  rcases hq with rfl | rfl | rfl | rfl | rfl | rfl | rfl | rfl | rfl | rfl | rfl | rfl | rfl | rfl | rfl | rfl | rfl
  · exact lw_in 417 (by decide +kernel)
  · exact lw_in 453 (by decide +kernel)
  · exact lw_in 468 (by decide +kernel)
  · exact lw_in 473 (by decide +kernel)
  · exact lw_in 513 (by decide +kernel)
  · exact lw_in 514 (by decide +kernel)
  · exact lw_in 539 (by decide +kernel)
  · exact lw_in 546 (by decide +kernel)
  · exact lw_in 562 (by decide +kernel)
  · exact lw_in 563 (by decide +kernel)
  · exact lw_in 619 (by decide +kernel)
  · exact lw_in 650 (by decide +kernel)
  · exact lw_in 708 (by decide +kernel)
  · exact lw_in 709 (by decide +kernel)
  · exact lw_in 746 (by decide +kernel)
  · exact lw_in 802 (by decide +kernel)
  · exact lw_in 810 (by decide +kernel)
theorem nc_in : ∀ q ∈ ncL, Cond.not (.castable q.1 q.2) ∈ flatC (Jvm.Cond.and given_1 narrow_1) := by
  intro q hq
  simp only [ncL, List.mem_cons, List.not_mem_nil, or_false] at hq
  rcases hq with rfl | rfl | rfl <;> decide +kernel
set_option maxHeartbeats 8000000 in
set_option maxRecDepth 100000 in
theorem whole_of {p : Program} {e : Env} {s : State} {m : MethodId} {below : List Frame} {meth : Method} {c : Code} (l : Launch) (hflags : l.flags = flags0) {b L : Nat} {xs : Nat → Int32} (hf : f_law xs L = some ()) (C0 : lw_At p s m meth c b L xs) : W p l e room_1 s m #[Value.ref b] below meth c s.heap [] 0 0 (lw_Z below #[Value.ref b] s) (entryFrame m ([Value.ref b] : List Value).toArray 7) := by
  obtain ⟨hx, hb, hr, hml, hown, hts, hX, hbl, hlocks, hgv⟩ := id C0
  have htT : ∀ w ∈ tblG, w.before #[Value.ref b] s = true := fun w hw => hts w (List.mem_filter.mp hw).1
  obtain ⟨c0, iS0, hKn0⟩ := u_known (C := RX0) (T := TX0) (N := 3) (n := 3) htT wi_X0 (htT _ in_X0)
  obtain ⟨c1, iS1, hKn1⟩ := u_known (C := RX1) (T := TX1) (N := 2) (n := 2) htT wi_X1 (htT _ in_X1)
  obtain ⟨c2, iS2, hKn2⟩ := u_known (C := RX2) (T := TX2) (N := 3) (n := 3) htT wi_X2 (htT _ in_X2)
  obtain ⟨c3, iS3, hKn3⟩ := u_known (C := RX3) (T := TX3) (N := 3) (n := 3) htT wi_X3 (htT _ in_X3)
  obtain ⟨c4, iS4, hKn4⟩ := u_known (C := RX5) (T := TX5) (N := 1) (n := 1) htT wi_X5 (htT _ in_X5)
  obtain ⟨c5, iS5, hKn5⟩ := u_known (C := RX7) (T := TX7) (N := 6) (n := 6) htT wi_X7 (htT _ in_X7)
  obtain ⟨c6, iS6, hKn6⟩ := u_known (C := RX9) (T := TX9) (N := 5) (n := 5) htT wi_X9 (htT _ in_X9)
  obtain ⟨c7, iS7, hKn7⟩ := u_known (C := RX10) (T := TX10) (N := 25) (n := 25) htT wi_X10 (htT _ in_X10)
  obtain ⟨cI, kI, compI, i1, i2, i3⟩ := Cond.arrayClass_spec (htT _ ai_m)
  obtain ⟨cJ, kJ, compJ, j1, j2, j3⟩ := Cond.arrayClass_spec (htT _ al_m)
  obtain ⟨compO, cO, kO, o1, o2, o3, o4, o5⟩ := Cond.arrayOver_spec (hts _ (lw_in 122 (w := .arrayOver (.object "TileWordBoard$Table")) (by decide +kernel)))
  obtain ⟨G, hG1, hG2⟩ : ∃ G : Gv, G = ((fun k => if k = 0 then c0 else if k = 1 then c1 else if k = 2 then c2 else if k = 3 then c3 else if k = 4 then c4 else if k = 5 then c5 else if k = 6 then c6 else c7, fun k => if k = 0 then iS0 else if k = 1 then iS1 else if k = 2 then iS2 else if k = 3 then iS3 else if k = 4 then iS4 else if k = 5 then iS5 else if k = 6 then iS6 else iS7), (cI, (cO, cJ))) ∧ va_K G.1 vwCl (tyG G) s := by
    refine ⟨_, rfl, ?_, ?_⟩
    · intro k q hq
      match k, hq with
      | 0, hq => cases hq; exact hKn0
      | 1, hq => cases hq; exact hKn1
      | 2, hq => cases hq; exact hKn2
      | 3, hq => cases hq; exact hKn3
      | 4, hq => cases hq; exact hKn4
      | 5, hq => cases hq; exact hKn5
      | 6, hq => cases hq; exact hKn6
      | 7, hq => cases hq; exact hKn7
      | k + 8, hq => simp [vwCl] at hq
    · intro k q hk
      match k, hk with
      | 0, hk => cases hk; exact ⟨fun n z => ⟨fun k h => (by cases h), kI, i2, compI, i3⟩, i1⟩
      | 1, hk => cases hk; exact ⟨fun n z => ⟨fun k h => (by cases h), kO, o3, compO, o4⟩, kO, compO, o3, o4, o1, o5⟩
      | 2, hk => cases hk; exact ⟨fun n z => ⟨fun k h => (by cases h), kJ, j2, compJ, j3⟩, j1⟩
      | k + 3, hk => simp at hk
  have hNN : va_NN s := by
    intro w hw
    have h := hts w (nest_in w hw)
    simp only [nestL, List.mem_cons, List.not_mem_nil, or_false] at hw
    rcases hw with rfl | rfl | rfl | rfl | rfl | rfl | rfl | rfl | rfl <;> first | exact va_Nw.of rfl h | exact va_AO.of h
  have hs := flat_of_before _ hgv
  have hXE : XE (fun q => s.heap.size ≤ q) s := by
    refine ⟨⟨fun w hw => va_Nw.of (xe_tab w hw) (hts w (xe_in w hw)), fun q hq => va_Nc.of (hs _ (nc_in q hq))⟩, fun q hq => ?_, ?_, ?_⟩
    · have h := hts _ (str_in q hq)
      obtain ⟨k, cf, i, a, -, -, -, -, -, h2⟩ := Cond.stringRef_spec hKn6.2.1 h
      exact ⟨a, vk_R.of h h2⟩
    · exact vx_Zqof (hts _ (lw_in 403 (by decide +kernel))) (hts _ (lw_in 9 (by decide +kernel))) (hs _ (by decide +kernel)) (fun a h => Nat.not_le.mpr h)
    · exact vx_Zqof (hts _ (lw_in 405 (by decide +kernel))) (hts _ (lw_in 9 (by decide +kernel))) (hs _ (by decide +kernel)) (fun a h => Nat.not_le.mpr h)
  have hst : l.stackTraces = false := by
    unfold Launch.stackTraces
    rw [hflags]
    decide +kernel
  have hl := lv_entry ([.ref b]) (n := 7) (Nat.le_of_ble_eq_true rfl)
  rw [lg_entry_eq]
  exact v_law_0 (G := G) hf p e s m below meth c ⟨⟨hx, hb, hml, hown, htT⟩, ⟨hG2, hNN⟩, ⟨hXE, hst⟩, ⟨hX, hbl⟩, hlocks, hr⟩ s.heap [] _ (fun k q h => by simp at h) ⟨fun i j p q h => by simp at h, fun k q h => by simp at h⟩ va_S.rf hl
