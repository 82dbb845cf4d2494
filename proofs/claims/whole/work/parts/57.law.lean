/-! ===== the law's loop ===== -/
theorem vpu (f : Nat → Int64) (x : Int64) : vp_updL f 0 x 0 = x := if_pos rfl
theorem cmp_rf (x : Int64) : lg_cmp x x = 0 := (lg_cmp_eq x x).mpr rfl
theorem wk_ne {α : Type} (l : List Nat) (c : Nat) : ¬ wk l (.inl c : Nat ⊕ α) = 0 := by
  show ¬ (if l[0]? = some c then (1 : Int32) else if l[1]? = some c then 2 else 3) = 0
  split
  · decide
  · split
    · decide
    · decide
theorem law_tail {β : Type} {l : List Nat} {r : Nat ⊕ Int32} {b : Int32} {m : St} {f : Nat → Int64} (h : AGR l r b m) (k : Option β) : grc l r (bno (f_X10_thrown m) fun r8 => if r8 = wk l r then (if wk l r = 0 then (if lg_cmp (wo r f 0) (Int32.toInt64 b) = 0 then k else none) else k) else none) = k := by
  unfold f_X10_thrown
  rw [bno_s]
  rcases h with ⟨rfl, h3⟩ | ⟨c, rfl, hc, h3⟩
  · have e1 : wk l (.inr b : Nat ⊕ Int32) = 0 := rfl
    have e2 : wo (.inr b) f 0 = b.toInt64 := vpu f _
    rw [h3, e1, e2, if_pos rfl, if_pos rfl, if_pos (cmp_rf _)]
    rfl
  · rw [h3, if_pos rfl, if_neg (wk_ne l c)]
    show (if c ∈ l then k else none) = k
    rw [if_pos hc]
section
variable {bk : S3 → Int32 → Option Unit} {xs : Nat → Int32} {L i : Nat} {Z : S3}
theorem C_0 (hx : ∀ j, j < 5 → ∀ k : Option Unit, ixo (nI i + nI j) L k = k) (h : REL Z.1 Z.2.2) : ∃ Y : S3, REL Y.1 Y.2.2 ∧ f_law_c0 bk xs L Z (nI i) = bk Y (nI i) := by
  have x1 : ∀ k : Option Unit, ixo (nI i + 1) L k = k := hx 1 (by omega)
  obtain ⟨r, σ, b, m, e1, e2, ha, hr⟩ := M_type h (xs (Int32.toNatClampNeg (nI i + 1)))
  refine ⟨((σ, Z.1.2), (wo r Z.2.1, m)), hr, ?_⟩
  unfold f_law_c0
  simp only [x1, lt_e, bno_s, e1, e2]
  exact law_tail ha _
theorem C_1 (hx : ∀ j, j < 5 → ∀ k : Option Unit, ixo (nI i + nI j) L k = k) (h : REL Z.1 Z.2.2) : ∃ Y : S3, REL Y.1 Y.2.2 ∧ f_law_c1 bk xs L Z (nI i) = bk Y (nI i) := by
  obtain ⟨b, σ, m, e1, e2, hr⟩ := M_clear h
  refine ⟨((σ, Z.1.2), (Z.2.1, m)), hr, ?_⟩
  unfold f_law_c1
  simp only [lt_e, bno_s, e1, e2]
  exact if_pos trivial
theorem C_2 (hx : ∀ j, j < 5 → ∀ k : Option Unit, ixo (nI i + nI j) L k = k) (h : REL Z.1 Z.2.2) : ∃ Y : S3, REL Y.1 Y.2.2 ∧ f_law_c2 bk xs L Z (nI i) = bk Y (nI i) := by
  obtain ⟨r, Y, b, m, e1, e2, ha, hr⟩ := M_addWord h
  refine ⟨(Y, (wo r Z.2.1, m)), hr, ?_⟩
  unfold f_law_c2
  simp only [lt_e, bno_s, e1, e2]
  exact law_tail ha _
theorem C_3 (hx : ∀ j, j < 5 → ∀ k : Option Unit, ixo (nI i + nI j) L k = k) (h : REL Z.1 Z.2.2) : ∃ Y : S3, REL Y.1 Y.2.2 ∧ f_law_c3 bk xs L Z (nI i) = bk Y (nI i) := by
  obtain ⟨b, m, e1, e2, hr⟩ := M_look h
  refine ⟨(Z.1, (Z.2.1, m)), hr, ?_⟩
  unfold f_law_c3
  simp only [lt_e, bno_s, e1, e2]
  exact if_pos trivial
theorem C_4 (hx : ∀ j, j < 5 → ∀ k : Option Unit, ixo (nI i + nI j) L k = k) (h : REL Z.1 Z.2.2) : ∃ Y : S3, REL Y.1 Y.2.2 ∧ f_law_c4 bk xs L Z (nI i) = bk Y (nI i) := by
  have x1 : ∀ k : Option Unit, ixo (nI i + 1) L k = k := hx 1 (by omega)
  have x2 : ∀ k : Option Unit, ixo (nI i + 2) L k = k := hx 2 (by omega)
  have x3 : ∀ k : Option Unit, ixo (nI i + 3) L k = k := hx 3 (by omega)
  obtain ⟨r, Y, b, m, e1, e2, ha, hr⟩ := M_setLetter h (xs (Int32.toNatClampNeg (nI i + 1))) (xs (Int32.toNatClampNeg (nI i + 2))) (xs (Int32.toNatClampNeg (nI i + 3)))
  refine ⟨(Y, (wo r Z.2.1, m)), hr, ?_⟩
  unfold f_law_c4
  simp only [x1, x2, x3, lt_e, bno_s, e1, e2]
  exact law_tail ha _
theorem C_5 (hx : ∀ j, j < 5 → ∀ k : Option Unit, ixo (nI i + nI j) L k = k) (h : REL Z.1 Z.2.2) : ∃ Y : S3, REL Y.1 Y.2.2 ∧ f_law_c5 bk xs L Z (nI i) = bk Y (nI i) := by
  have x1 : ∀ k : Option Unit, ixo (nI i + 1) L k = k := hx 1 (by omega)
  have x2 : ∀ k : Option Unit, ixo (nI i + 2) L k = k := hx 2 (by omega)
  have x3 : ∀ k : Option Unit, ixo (nI i + 3) L k = k := hx 3 (by omega)
  obtain ⟨r, Y, b, m, e1, e2, ha, hr⟩ := M_setPremium h (xs (Int32.toNatClampNeg (nI i + 1))) (xs (Int32.toNatClampNeg (nI i + 2))) (xs (Int32.toNatClampNeg (nI i + 3)))
  refine ⟨(Y, (wo r Z.2.1, m)), hr, ?_⟩
  unfold f_law_c5
  simp only [x1, x2, x3, lt_e, bno_s, e1, e2]
  exact law_tail ha _
theorem C_6 (hx : ∀ j, j < 5 → ∀ k : Option Unit, ixo (nI i + nI j) L k = k) (h : REL Z.1 Z.2.2) : ∃ Y : S3, REL Y.1 Y.2.2 ∧ f_law_c6 bk xs L Z (nI i) = bk Y (nI i) := by
  have x1 : ∀ k : Option Unit, ixo (nI i + 1) L k = k := hx 1 (by omega)
  obtain ⟨r, Y, b, m, e1, e2, ha, hr⟩ := M_setRack h (xs (Int32.toNatClampNeg (nI i + 1)))
  refine ⟨(Y, (wo r Z.2.1, m)), hr, ?_⟩
  unfold f_law_c6
  simp only [x1, lt_e, bno_s, e1, e2]
  exact law_tail ha _
theorem C_7 (hx : ∀ j, j < 5 → ∀ k : Option Unit, ixo (nI i + nI j) L k = k) (h : REL Z.1 Z.2.2) : ∃ Y : S3, REL Y.1 Y.2.2 ∧ f_law_c7 bk xs L Z (nI i) = bk Y (nI i) := by
  have x1 : ∀ k : Option Unit, ixo (nI i + 1) L k = k := hx 1 (by omega)
  have x2 : ∀ k : Option Unit, ixo (nI i + 2) L k = k := hx 2 (by omega)
  have x3 : ∀ k : Option Unit, ixo (nI i + 3) L k = k := hx 3 (by omega)
  obtain ⟨r, Y, b, m, e1, e2, ha, hr⟩ := M_setTile h (xs (Int32.toNatClampNeg (nI i + 1))) (xs (Int32.toNatClampNeg (nI i + 2))) (xs (Int32.toNatClampNeg (nI i + 3)))
  refine ⟨(Y, (wo r Z.2.1, m)), hr, ?_⟩
  unfold f_law_c7
  simp only [x1, x2, x3, lt_e, bno_s, e1, e2]
  exact law_tail ha _
theorem C_8 (hx : ∀ j, j < 5 → ∀ k : Option Unit, ixo (nI i + nI j) L k = k) (h : REL Z.1 Z.2.2) : ∃ Y : S3, REL Y.1 Y.2.2 ∧ f_law_c8 bk xs L Z (nI i) = bk Y (nI i) := by
  have x1 : ∀ k : Option Unit, ixo (nI i + 1) L k = k := hx 1 (by omega)
  have x2 : ∀ k : Option Unit, ixo (nI i + 2) L k = k := hx 2 (by omega)
  obtain ⟨r, σ, b, m, e1, e2, ha, hr⟩ := M_tileAt h (xs (Int32.toNatClampNeg (nI i + 1))) (xs (Int32.toNatClampNeg (nI i + 2)))
  refine ⟨((σ, Z.1.2), (wo r Z.2.1, m)), hr, ?_⟩
  unfold f_law_c8
  simp only [x1, x2, lt_e, bno_s, e1, e2]
  exact law_tail ha _
theorem C_9 (hx : ∀ j, j < 5 → ∀ k : Option Unit, ixo (nI i + nI j) L k = k) (h : REL Z.1 Z.2.2) : ∃ Y : S3, REL Y.1 Y.2.2 ∧ f_law_c9 bk xs L Z (nI i) = bk Y (nI i) := by
  have x1 : ∀ k : Option Unit, ixo (nI i + 1) L k = k := hx 1 (by omega)
  have x2 : ∀ k : Option Unit, ixo (nI i + 2) L k = k := hx 2 (by omega)
  obtain ⟨r, σ, b, m, e1, e2, ha, hr⟩ := M_onRack h (xs (Int32.toNatClampNeg (nI i + 1))) (xs (Int32.toNatClampNeg (nI i + 2)))
  refine ⟨((σ, Z.1.2), (wo r Z.2.1, m)), hr, ?_⟩
  unfold f_law_c9
  simp only [x1, x2, lt_e, bno_s, e1, e2]
  exact law_tail ha _
theorem C_10 (hx : ∀ j, j < 5 → ∀ k : Option Unit, ixo (nI i + nI j) L k = k) (h : REL Z.1 Z.2.2) : ∃ Y : S3, REL Y.1 Y.2.2 ∧ f_law_c10 bk xs L Z (nI i) = bk Y (nI i) := by
  have x1 : ∀ k : Option Unit, ixo (nI i + 1) L k = k := hx 1 (by omega)
  obtain ⟨r, σ, b, m, e1, e2, ha, hr⟩ := M_score h (xs (Int32.toNatClampNeg (nI i + 1)))
  refine ⟨((σ, Z.1.2), (wo r Z.2.1, m)), hr, ?_⟩
  unfold f_law_c10
  simp only [x1, lt_e, bno_s, e1, e2]
  exact law_tail ha _
theorem C_11 (hx : ∀ j, j < 5 → ∀ k : Option Unit, ixo (nI i + nI j) L k = k) (h : REL Z.1 Z.2.2) : ∃ Y : S3, REL Y.1 Y.2.2 ∧ f_law_c11 bk xs L Z (nI i) = bk Y (nI i) := by
  have x1 : ∀ k : Option Unit, ixo (nI i + 1) L k = k := hx 1 (by omega)
  have x2 : ∀ k : Option Unit, ixo (nI i + 2) L k = k := hx 2 (by omega)
  have x3 : ∀ k : Option Unit, ixo (nI i + 3) L k = k := hx 3 (by omega)
  obtain ⟨r, σ, b, m, e1, e2, ha, hr⟩ := M_crossSet h (xs (Int32.toNatClampNeg (nI i + 1))) (xs (Int32.toNatClampNeg (nI i + 2))) (xs (Int32.toNatClampNeg (nI i + 3)))
  refine ⟨((σ, Z.1.2), (wo r Z.2.1, m)), hr, ?_⟩
  unfold f_law_c11
  simp only [x1, x2, x3, lt_e, bno_s, e1, e2]
  exact law_tail ha _
theorem C_12 (hx : ∀ j, j < 5 → ∀ k : Option Unit, ixo (nI i + nI j) L k = k) (h : REL Z.1 Z.2.2) : ∃ Y : S3, REL Y.1 Y.2.2 ∧ f_law_c12 bk xs L Z (nI i) = bk Y (nI i) := by
  obtain ⟨b, m, e1, e2, hr⟩ := M_anchors h
  refine ⟨(Z.1, (Z.2.1, m)), hr, ?_⟩
  unfold f_law_c12
  simp only [lt_e, bno_s, e1, e2]
  exact if_pos trivial
theorem C_13 (hx : ∀ j, j < 5 → ∀ k : Option Unit, ixo (nI i + nI j) L k = k) (h : REL Z.1 Z.2.2) : ∃ Y : S3, REL Y.1 Y.2.2 ∧ f_law_c13 bk xs L Z (nI i) = bk Y (nI i) := by
  have x1 : ∀ k : Option Unit, ixo (nI i + 1) L k = k := hx 1 (by omega)
  have x2 : ∀ k : Option Unit, ixo (nI i + 2) L k = k := hx 2 (by omega)
  obtain ⟨r, σ, b, m, e1, e2, ha, hr⟩ := M_isAnchor h (xs (Int32.toNatClampNeg (nI i + 1))) (xs (Int32.toNatClampNeg (nI i + 2)))
  refine ⟨((σ, Z.1.2), (wob r Z.2.1, m)), hr, ?_⟩
  unfold f_law_c13
  simp only [x1, x2, lt_e, bno_s, e1, e2]
  unfold f_X10_thrown
  rw [bno_s, if_b]
  rcases ha with ⟨rfl, h3⟩ | ⟨rfl, h3⟩
  · rw [h3]
    cases b with
    | true =>
      have e : wob (.inr true) Z.2.1 0 = 1 := vpu Z.2.1 1
      rw [e, if_pos (show (0 : Int32) = wk [2] (.inr true : Nat ⊕ Bool) from rfl), if_pos (show wk [2] (.inr true : Nat ⊕ Bool) = 0 from rfl), if_pos rfl, if_pos (cmp_rf _)]
      rfl
    | false =>
      have e : wob (.inr false) Z.2.1 0 = 0 := vpu Z.2.1 0
      rw [e, if_pos (show (0 : Int32) = wk [2] (.inr false : Nat ⊕ Bool) from rfl), if_pos (show wk [2] (.inr false : Nat ⊕ Bool) = 0 from rfl), if_neg (by decide), if_pos (cmp_rf _)]
      rfl
  · rw [h3, if_pos (show (1 : Int32) = wk [2] (.inl 2 : Nat ⊕ Bool) from rfl), if_neg (wk_ne [2] 2)]
    rfl
theorem C_14 (hx : ∀ j, j < 5 → ∀ k : Option Unit, ixo (nI i + nI j) L k = k) (h : REL Z.1 Z.2.2) : ∃ Y : S3, REL Y.1 Y.2.2 ∧ f_law_c14 bk xs L Z (nI i) = bk Y (nI i) := by
  have x1 : ∀ k : Option Unit, ixo (nI i + 1) L k = k := hx 1 (by omega)
  have x2 : ∀ k : Option Unit, ixo (nI i + 2) L k = k := hx 2 (by omega)
  have x3 : ∀ k : Option Unit, ixo (nI i + 3) L k = k := hx 3 (by omega)
  have x4 : ∀ k : Option Unit, ixo (nI i + 4) L k = k := hx 4 (by omega)
  obtain ⟨r, σ, b, m, e1, e2, ha, hr⟩ := M_check h (xs (Int32.toNatClampNeg (nI i + 1))) (xs (Int32.toNatClampNeg (nI i + 2))) (xs (Int32.toNatClampNeg (nI i + 3))) (xs (Int32.toNatClampNeg (nI i + 4)))
  refine ⟨((σ, Z.1.2), (wo r Z.2.1, m)), hr, ?_⟩
  unfold f_law_c14
  simp only [x1, x2, x3, x4, lt_e, bno_s, e1, e2]
  exact law_tail ha _
theorem C_15 (hx : ∀ j, j < 5 → ∀ k : Option Unit, ixo (nI i + nI j) L k = k) (h : REL Z.1 Z.2.2) : ∃ Y : S3, REL Y.1 Y.2.2 ∧ f_law_c15 bk xs L Z (nI i) = bk Y (nI i) := by
  have x1 : ∀ k : Option Unit, ixo (nI i + 1) L k = k := hx 1 (by omega)
  have x2 : ∀ k : Option Unit, ixo (nI i + 2) L k = k := hx 2 (by omega)
  have x3 : ∀ k : Option Unit, ixo (nI i + 3) L k = k := hx 3 (by omega)
  have x4 : ∀ k : Option Unit, ixo (nI i + 4) L k = k := hx 4 (by omega)
  obtain ⟨r, Y, b, m, e1, e2, ha, hr⟩ := M_play h (xs (Int32.toNatClampNeg (nI i + 1))) (xs (Int32.toNatClampNeg (nI i + 2))) (xs (Int32.toNatClampNeg (nI i + 3))) (xs (Int32.toNatClampNeg (nI i + 4)))
  refine ⟨(Y, (wo r Z.2.1, m)), hr, ?_⟩
  unfold f_law_c15
  simp only [x1, x2, x3, x4, lt_e, bno_s, e1, e2]
  exact law_tail ha _
theorem C_16 (hx : ∀ j, j < 5 → ∀ k : Option Unit, ixo (nI i + nI j) L k = k) (h : REL Z.1 Z.2.2) : ∃ Y : S3, REL Y.1 Y.2.2 ∧ f_law_c16 bk xs L Z (nI i) = bk Y (nI i) := by
  have x1 : ∀ k : Option Unit, ixo (nI i + 1) L k = k := hx 1 (by omega)
  obtain ⟨r, σ, b, m, e1, e2, ha, hr⟩ := M_plays h (xs (Int32.toNatClampNeg (nI i + 1)))
  refine ⟨((σ, Z.1.2), (wo r Z.2.1, m)), hr, ?_⟩
  unfold f_law_c16
  simp only [x1, lt_e, bno_s, e1, e2]
  exact law_tail ha _
theorem C_17 (hx : ∀ j, j < 5 → ∀ k : Option Unit, ixo (nI i + nI j) L k = k) (h : REL Z.1 Z.2.2) : ∃ Y : S3, REL Y.1 Y.2.2 ∧ f_law_c17 bk xs L Z (nI i) = bk Y (nI i) := by
  have x1 : ∀ k : Option Unit, ixo (nI i + 1) L k = k := hx 1 (by omega)
  have x2 : ∀ k : Option Unit, ixo (nI i + 2) L k = k := hx 2 (by omega)
  have x3 : ∀ k : Option Unit, ixo (nI i + 3) L k = k := hx 3 (by omega)
  obtain ⟨r, σ, b, m, e1, e2, ha, hr⟩ := M_playAt h (xs (Int32.toNatClampNeg (nI i + 1))) (xs (Int32.toNatClampNeg (nI i + 2))) (xs (Int32.toNatClampNeg (nI i + 3)))
  refine ⟨((σ, Z.1.2), (wo r Z.2.1, m)), hr, ?_⟩
  unfold f_law_c17
  simp only [x1, x2, x3, lt_e, bno_s, e1, e2]
  exact law_tail ha _
theorem C_18 (hx : ∀ j, j < 5 → ∀ k : Option Unit, ixo (nI i + nI j) L k = k) (h : REL Z.1 Z.2.2) : ∃ Y : S3, REL Y.1 Y.2.2 ∧ f_law_c18 bk xs L Z (nI i) = bk Y (nI i) := by
  have x1 : ∀ k : Option Unit, ixo (nI i + 1) L k = k := hx 1 (by omega)
  obtain ⟨r, σ, b, m, e1, e2, ha, hr⟩ := M_bestPlay h (xs (Int32.toNatClampNeg (nI i + 1)))
  refine ⟨((σ, Z.1.2), (wo r Z.2.1, m)), hr, ?_⟩
  unfold f_law_c18
  simp only [x1, lt_e, bno_s, e1, e2]
  exact law_tail ha _
theorem C_19 (hx : ∀ j, j < 5 → ∀ k : Option Unit, ixo (nI i + nI j) L k = k) (h : REL Z.1 Z.2.2) : ∃ Y : S3, REL Y.1 Y.2.2 ∧ f_law_c19 bk xs L Z (nI i) = bk Y (nI i) := by
  have x1 : ∀ k : Option Unit, ixo (nI i + 1) L k = k := hx 1 (by omega)
  obtain ⟨r, Y, b, m, e1, e2, ha, hr⟩ := M_playBest h (xs (Int32.toNatClampNeg (nI i + 1)))
  refine ⟨(Y, (wo r Z.2.1, m)), hr, ?_⟩
  unfold f_law_c19
  simp only [x1, lt_e, bno_s, e1, e2]
  exact law_tail ha _
theorem C_20 (hx : ∀ j, j < 5 → ∀ k : Option Unit, ixo (nI i + nI j) L k = k) (h : REL Z.1 Z.2.2) : ∃ Y : S3, REL Y.1 Y.2.2 ∧ f_law_c20 bk xs L Z (nI i) = bk Y (nI i) := by
  have x1 : ∀ k : Option Unit, ixo (nI i + 1) L k = k := hx 1 (by omega)
  obtain ⟨r, σ, b, m, e1, e2, ha, hr⟩ := M_endgame h (xs (Int32.toNatClampNeg (nI i + 1)))
  refine ⟨((σ, Z.1.2), (wo r Z.2.1, m)), hr, ?_⟩
  unfold f_law_c20
  simp only [x1, lt_e, bno_s, e1, e2]
  exact law_tail ha _
theorem C_21 (hx : ∀ j, j < 5 → ∀ k : Option Unit, ixo (nI i + nI j) L k = k) (h : REL Z.1 Z.2.2) : ∃ Y : S3, REL Y.1 Y.2.2 ∧ f_law_c21 bk xs L Z (nI i) = bk Y (nI i) := by
  obtain ⟨r, Y, b, m, e1, e2, ha, hr⟩ := M_undo h
  refine ⟨(Y, (wo r Z.2.1, m)), hr, ?_⟩
  unfold f_law_c21
  simp only [lt_e, bno_s, e1, e2]
  exact law_tail ha _
theorem C_22 (hx : ∀ j, j < 5 → ∀ k : Option Unit, ixo (nI i + nI j) L k = k) (h : REL Z.1 Z.2.2) : ∃ Y : S3, REL Y.1 Y.2.2 ∧ f_law_c22 bk xs L Z (nI i) = bk Y (nI i) := by
  obtain ⟨b, m, e1, e2, hr⟩ := M_digest h
  refine ⟨(Z.1, (Z.2.1, m)), hr, ?_⟩
  unfold f_law_c22
  simp only [lt_e, bno_s, e1, e2, cmp_0]
  exact if_pos trivial
theorem law_body (hx : ∀ j, j < 5 → ∀ k : Option Unit, ixo (nI i + nI j) L k = k) (hc : ¬ Int32.ofNat L - 5 < nI i) (h : REL Z.1 Z.2.2) : ∃ Y : S3, REL Y.1 Y.2.2 ∧ f_law_body bk xs L Z (nI i) = bk Y (nI i) := by
  have x0 : ∀ k : Option Unit, ixo (nI i) L k = k := fun k => by
    have := hx 0 (by omega) k
    rw [show nI i + nI 0 = nI i from Int32.add_zero _] at this
    exact this
  unfold f_law_body
  rw [if_neg hc, x0, lt_e]
  generalize xs (Int32.toNatClampNeg (nI i)) &&& 31 = v
  by_cases c0 : v = 0
  · rw [if_pos c0]
    exact C_0 hx h
  rw [if_neg c0]
  by_cases c1 : v = 1
  · rw [if_pos c1]
    exact C_1 hx h
  rw [if_neg c1]
  by_cases c2 : v = 2
  · rw [if_pos c2]
    exact C_2 hx h
  rw [if_neg c2]
  by_cases c3 : v = 3
  · rw [if_pos c3]
    exact C_3 hx h
  rw [if_neg c3]
  by_cases c4 : v = 4
  · rw [if_pos c4]
    exact C_4 hx h
  rw [if_neg c4]
  by_cases c5 : v = 5
  · rw [if_pos c5]
    exact C_5 hx h
  rw [if_neg c5]
  by_cases c6 : v = 6
  · rw [if_pos c6]
    exact C_6 hx h
  rw [if_neg c6]
  by_cases c7 : v = 7
  · rw [if_pos c7]
    exact C_7 hx h
  rw [if_neg c7]
  by_cases c8 : v = 8
  · rw [if_pos c8]
    exact C_8 hx h
  rw [if_neg c8]
  by_cases c9 : v = 9
  · rw [if_pos c9]
    exact C_9 hx h
  rw [if_neg c9]
  by_cases c10 : v = 10
  · rw [if_pos c10]
    exact C_10 hx h
  rw [if_neg c10]
  by_cases c11 : v = 11
  · rw [if_pos c11]
    exact C_11 hx h
  rw [if_neg c11]
  by_cases c12 : v = 12
  · rw [if_pos c12]
    exact C_12 hx h
  rw [if_neg c12]
  by_cases c13 : v = 13
  · rw [if_pos c13]
    exact C_13 hx h
  rw [if_neg c13]
  by_cases c14 : v = 14
  · rw [if_pos c14]
    exact C_14 hx h
  rw [if_neg c14]
  by_cases c15 : v = 15
  · rw [if_pos c15]
    exact C_15 hx h
  rw [if_neg c15]
  by_cases c16 : v = 16
  · rw [if_pos c16]
    exact C_16 hx h
  rw [if_neg c16]
  by_cases c17 : v = 17
  · rw [if_pos c17]
    exact C_17 hx h
  rw [if_neg c17]
  by_cases c18 : v = 18
  · rw [if_pos c18]
    exact C_18 hx h
  rw [if_neg c18]
  by_cases c19 : v = 19
  · rw [if_pos c19]
    exact C_19 hx h
  rw [if_neg c19]
  by_cases c20 : v = 20
  · rw [if_pos c20]
    exact C_20 hx h
  rw [if_neg c20]
  by_cases c21 : v = 21
  · rw [if_pos c21]
    exact C_21 hx h
  rw [if_neg c21]
  by_cases c22 : v = 22
  · rw [if_pos c22]
    exact C_22 hx h
  rw [if_neg c22]
  exact ⟨Z, h, rfl⟩
end
theorem law_loop {xs : Nat → Int32} {L : Nat} (hL : L ≤ 2560) : ∀ (n i : Nat) (Z : S3), i ≤ L → L < i + 5 * n → REL Z.1 Z.2.2 → f_law_23 xs L n Z (nI i) = some () := by
  intro n
  induction n with
  | zero =>
    intro i Z h1 h2
    omega
  | succ n ih =>
    intro i Z h1 h2 h
    have e : (Int32.ofNat L - 5 < nI i) = (L < i + 5) := by
      show (nI L - 5 < nI i) = _
      rw [L5, iI_nI, iI_nI, iI_sub, iI_lt (by omega) (by omega) (by omega) (by omega)]
      apply propext
      omega
    by_cases c : Int32.ofNat L - 5 < nI i
    · rw [f_law_23]
      unfold f_law_body
      rw [if_pos c]
    · have c2 : ¬ L < i + 5 := by rw [← e]; exact c
      have hx : ∀ j, j < 5 → ∀ k : Option Unit, ixo (nI i + nI j) L k = k := by
        intro j hj k
        rw [nI_add]
        exact ixo_nI (by omega) (by omega)
      obtain ⟨Y, hY, eY⟩ := law_body (bk := fun S x4 => f_law_23 xs L n S (x4 + 5)) (xs := xs) hx c h
      rw [f_law_23, eY]
      show f_law_23 xs L n Y (nI i + 5) = some ()
      have e5 : nI i + (5 : Int32) = nI (i + 5) := nI_add i 5
      rw [e5]
      exact ih (i + 5) Y (by omega) (by omega) hY
/-! ===== the two new objects ===== -/
theorem ones_val : ∃ q, f_X7_ones = some q ∧ ∀ l, l < 8 → q l = 1 := by
  refine ⟨_, rfl, ?_⟩
  intro l hl
  match l, hl with
  | 0, _ => rfl
  | 1, _ => rfl
  | 2, _ => rfl
  | 3, _ => rfl
  | 4, _ => rfl
  | 5, _ => rfl
  | 6, _ => rfl
  | 7, _ => rfl
  | l + 8, h => omega
theorem X10_f2_loop : ∀ (w k n : Nat) (σ : St), k + w = 49 → w < n → ∃ σ', f_X10_f2 n σ (nI k) = some σ' ∧ (∀ j, ga σ' 0 j = if 257 + k ≤ j ∧ j < 306 then -1 else ga σ 0 j) ∧ FR [] [0] σ σ' := by
  intro w
  induction w with
  | zero =>
    intro k n σ hk hn
    obtain ⟨n, rfl⟩ : ∃ j, n = j + 1 := ⟨n - 1, by omega⟩
    have : k = 49 := by omega
    subst this
    rw [f_X10_f2, if_pos (by decide)]
    exact ⟨σ, rfl, fun j => by rw [if_neg (by omega)], FR.rfl' _ _ _⟩
  | succ w ih =>
    intro k n σ hk hn
    obtain ⟨n, rfl⟩ : ∃ j, n = j + 1 := ⟨n - 1, by omega⟩
    have c : ¬ (49 : Int32) ≤ nI k := nI_ge (b := 49) (by omega) (by omega)
    have ea : (257 : Int32) + nI k = nI (257 + k) := nI_add 257 k
    rw [f_X10_f2, if_neg c, ea, ixo_nI (by omega) (by omega), lt_e, nI_clamp (by omega), nI_1]
    obtain ⟨σ', e, r, f⟩ := ih (k + 1) n (sa σ 0 (upd (ga σ 0) (257 + k) (-1))) (by omega) (by omega)
    refine ⟨σ', e, ?_, (FR_sa σ 0 _).t f⟩
    intro j
    rw [r j]
    show (if 257 + (k + 1) ≤ j ∧ j < 306 then -1 else if j = 257 + k then -1 else ga σ 0 j) = _
    by_cases c2 : j = 257 + k
    · rw [if_neg (by omega), if_pos c2, if_pos (by omega)]
    · rw [if_neg c2]
      by_cases c3 : 257 + (k + 1) ≤ j ∧ j < 306
      · rw [if_pos c3, if_pos (by omega)]
      · rw [if_neg c3, if_neg (by omega)]
theorem X10_f1_loop : ∀ (w k n : Nat) (σ : St), k + w = 8 → w < n → ∃ σ', f_X10_f1 n σ (nI k) = f_X10_f2 100 σ' 0 ∧ (∀ j, ga σ' 0 j = if k ≤ j ∧ j < 8 then 1 else ga σ 0 j) ∧ FR [] [0] σ σ' := by
  intro w
  induction w with
  | zero =>
    intro k n σ hk hn
    obtain ⟨n, rfl⟩ : ∃ j, n = j + 1 := ⟨n - 1, by omega⟩
    have : k = 8 := by omega
    subst this
    rw [f_X10_f1, if_pos (by decide)]
    exact ⟨σ, rfl, fun j => by rw [if_neg (by omega)], FR.rfl' _ _ _⟩
  | succ w ih =>
    intro k n σ hk hn
    obtain ⟨n, rfl⟩ : ∃ j, n = j + 1 := ⟨n - 1, by omega⟩
    have c : ¬ (8 : Int32) ≤ nI k := nI_ge (b := 8) (by omega) (by omega)
    rw [f_X10_f1, if_neg c, Int32.zero_add, ixo_nI (by omega) (by omega), lt_e, nI_clamp (by omega), nI_1]
    obtain ⟨σ', e, r, f⟩ := ih (k + 1) n (sa σ 0 (upd (ga σ 0) k 1)) (by omega) (by omega)
    refine ⟨σ', e, ?_, (FR_sa σ 0 _).t f⟩
    intro j
    rw [r j]
    show (if k + 1 ≤ j ∧ j < 8 then 1 else if j = k then 1 else ga σ 0 j) = _
    by_cases c2 : j = k
    · rw [if_neg (by omega), if_pos c2, if_pos (by omega)]
    · rw [if_neg c2]
      by_cases c3 : k + 1 ≤ j ∧ j < 8
      · rw [if_pos c3, if_pos (by omega)]
      · rw [if_neg c3, if_neg (by omega)]
theorem X10_init_val : ∃ m, f_X10_init = some m ∧ (∀ k, gi m k = 0) ∧ (∀ j, ga m 0 j = if 257 ≤ j ∧ j < 306 then -1 else if j < 8 then 1 else 0) ∧ ∀ k, k ≠ 0 → ∀ j, ga m k j = 0 := by
  obtain ⟨m1, e1, r1, f1⟩ := X10_f1_loop 8 0 100 (((fun _ => 0), ((fun _ _ => 0), fun _ => 0)) : St) (by omega) (by omega)
  obtain ⟨m2, e2, r2, f2⟩ := X10_f2_loop 49 0 100 m1 (by omega) (by omega)
  refine ⟨m2, e1.trans e2, ?_, ?_, ?_⟩
  · intro k
    rw [f2.1 k (by simp), f1.1 k (by simp)]
    rfl
  · intro j
    rw [r2 j, r1 j]
    by_cases c : 257 ≤ j ∧ j < 306
    · rw [if_pos (by omega), if_pos c]
    · rw [if_neg (by omega), if_neg c]
      by_cases c2 : j < 8
      · rw [if_pos (by omega), if_pos c2]
      · rw [if_neg (by omega), if_neg c2]
        rfl
  · intro k hk j
    rw [f2.2 k (by simpa using hk), f1.2 k (by simpa using hk)]
    rfl
theorem REL_0 {on : Nat → Int32} {m : St} (ho : ∀ l, l < 8 → on l = 1) (h1 : ∀ k, gi m k = 0) (h2 : ∀ j, ga m 0 j = if 257 ≤ j ∧ j < 306 then -1 else if j < 8 then 1 else 0) (h3 : ∀ k, k ≠ 0 → ∀ j, ga m k j = 0) : REL (Z0 on) m := by
  have hTX : okW [] := ⟨(by intro x hx; cases hx), Nat.zero_le 7⟩
  have hT : okT (fun _ _ => none) := by
    intro r c a h
    cases h
  refine ⟨[], fun _ => 1, fun _ => 0, fun _ _ => 0, fun _ => 0, [], fun _ _ => none, fun _ _ => 0, ⟨⟨rfl, Nat.zero_le 30, (by intro u hu; cases hu), (by intro w u hw; simp at hw)⟩, ?_, ?_, ?_, ?_, rfl, ⟨hT, ?_⟩, ?_⟩, ⟨⟨?_, Nat.zero_le 30, (by intro u hu; cases hu), (by intro w u hw; simp at hw)⟩, ?_, ?_, ?_, ?_, ⟨hT, ?_⟩, ?_⟩, ⟨?_, hTX, (by intro i x hi; simp at hi)⟩, ?_, List.Pairwise.nil, ⟨0, 0, by omega, by omega, rfl, rfl, h1 2, Nat.zero_le 4, Nat.le_refl 0, Or.inl rfl, by intro i hi; omega⟩⟩
  · intro l hl; exact ho l hl
  · intro l hl; rfl
  · intro r c hr hc; rfl
  · intro p hp; rfl
  · intro x hx
    have e : cell (fun _ _ => none) x = none := by
      unfold cell
      split <;> rfl
    rw [e]
    refine ⟨?_, by intro a q; cases q⟩
    show lb 0 x = false
    exact lb_zero x
  · intro p hp
    exact ⟨by show 0 ≤ 5; omega, rfl⟩
  · rw [h2, if_neg (by omega), if_neg (by omega)]
    rfl
  · intro l hl; rw [h2, if_neg (by omega), if_pos hl]
  · intro l hl; rw [h2, if_neg (by omega), if_neg (by omega)]
  · intro r c hr hc; rw [h2, if_neg (by omega), if_neg (by omega)]
  · intro p hp; rw [h2, if_neg (by omega), if_neg (by omega)]
  · intro r c hr hc; rw [h2, if_pos (by omega)]; rfl
  · intro p l hp hl; rw [h2, if_neg (by omega), if_neg (by omega)]; rfl
  · rw [h1]; rfl
  · intro l hl; exact ⟨1, rfl, Nat.le_refl 1, by omega⟩
theorem law_ok (xs : Nat → Int32) (L : Nat) (hL : L ≤ 2560) : f_law xs L = some () := by
  obtain ⟨on, e1, ho⟩ := ones_val
  obtain ⟨m, e2, h1, h2, h3⟩ := X10_init_val
  unfold f_law
  rw [e1, bno_s, e2, bno_s]
  exact law_loop hL 600 0 _ (Nat.zero_le L) (by omega) (REL_0 ho h1 h2 h3)
