/-! ===== calls about plays ===== -/
section
variable {D : List (List Nat)} {V E : Nat → Int32} {P : Nat → Nat → Int32} {S : Nat → Int32} {t : List Nat} {T : Bd} {R : Nat → Nat → Nat} {X : S2} {m : St}
theorem X5_refuse (h : INV D V E P S t T R X m) {p d a b : Nat} (hp : p < 2) (hd : d < 2) (ha : a < 7) (hb : b < 7) : f_X5_refusal X.1 (nI p) (nI (stn d a b)) (num D t 0) = some (rsn D T (R p) d a b t) := by
  obtain ⟨hD, hV, hE, hP, hS, hx, hO, hR⟩ := h.1
  rcases num_bd D t 0 with e | ⟨j, e, hj⟩
  · have hn := (num_none D t 0 (by have := hD.2.1; omega)).mp e
    rw [e, X5_refusal_m1]
    unfold rsn
    rw [if_pos hn]
  · rw [e, Nat.zero_add]
    exact X5_refusal hD hO hR hp hd ha hb hj
theorem X10_judge (h : INV D V E P S t T R X m) {p d r c : Nat} (hp : p < 2) (hd : d < 2) (hr : r < 7) (hc : c < 7) : ∃ m1 m2 m3, f_X10_laysNow m = some m1 ∧ f_X10_takesText m1 = some m2 ∧ f_X10_reason m2 (nI p) (nI d) (nI r) (nI c) = some (rsn D T (R p) d (lA d r c) (lB d r c) t, m3) ∧ INV D V E P S t T R X m3 ∧ BR T (ga m3 8) ∧ RR R (ga m3 9) ∧ HL t m3 ∧ gi m3 3 = gi m 3 := by
  obtain ⟨m1, e1, hPB, hi, f1⟩ := INV_PB h
  obtain ⟨m2, e2, hW, f2⟩ := X10_takesText hi.2.2.1
  have hi2 := INV_FR hi f2 (by decide) (by decide) (by decide) (by decide) (by decide)
  have hb := l_bd (d := d) hr hc
  have hPB2 := PB_FR hPB f2 (by decide) (by decide) (by decide)
  obtain ⟨m3, e3, hL, hN, f3⟩ := X10_reason (σ := m2) (D := D) (T := T) (R := R) (p := p) (d := d) (a := lA d r c) (b := lB d r c) hPB2.1 hPB2.2.2.2.2.1 hPB2.2.2.2.2.2.1 hp hd hb.1 hb.2 (hPB2.2.2.2.2.2.2 p hp) hW
  have hl := l_RW (d := d) r c
  rw [hl.1, hl.2] at e3
  exact ⟨m1, m2, m3, e1, e2, e3, INV_FR hi2 f3 (by decide) (by decide) (by decide) (by decide) (by decide), by rw [f3.2 8 (by decide)]; exact hPB2.2.2.2.2.1, by rw [f3.2 9 (by decide)]; exact hPB2.2.2.2.2.2.1, hL, by rw [f3.1 3 (by decide), f2.1 3 (by decide), f1.1 3 (by decide)]⟩
theorem X9_look (h : INV D V E P S t T R X m) : f_X9_lookUp X.1 = some (num D t 0) := by
  unfold f_X9_lookUp
  rw [h.1.2.2.2.2.2.1, X1_numberOf h.1.1 (INV_ok h).1, bno_s]
theorem M_check (h : REL X m) (a d b c : Int32) : ∃ r σ q m', f_X9_check X.1 a d b c = some (r, σ) ∧ f_X10_check m a d b c = some (q, m') ∧ AGR [2, 0] r q m' ∧ REL (σ, X.2) m' := by
  obtain ⟨D, V, E, P, S, t, T, R, h⟩ := h
  obtain ⟨q, e6⟩ : ∃ q, f_X10_in d.toInt64 0 1 = some q := by
    rcases rD d with ⟨_, _, _, _, e4⟩ | ⟨_, e4⟩
    · exact ⟨_, e4⟩
    · exact ⟨_, e4⟩
  unfold f_X9_check f_X10_check f_X10_check_21 f_X10_check_22
  rcases rP a with ⟨p, hp, rfl, e1, e2⟩ | ⟨e1, e2⟩
  · rcases rQ b c with ⟨r, c, hr, hc, rfl, rfl, e3, e4⟩ | ⟨e3, e4⟩
    · rcases rD d with ⟨d, hd, rfl, e5, e6⟩ | ⟨e5, e6⟩
      · obtain ⟨m1, m2, m3, k1, k2, k3, hi, hB, hR, hL, g3⟩ := X10_judge (INV_thr h 0) hp hd hr hc
        have hb := l_bd (d := d) hr hc
        simp only [e1, e2, e3, e4, e5, e6, exq_i, exq_n, bno_s, lt_e, b2t, b2f, g_ttt, g_f, g_tf, g_ttf, if_b, it_, ff_, if_true, if_false, i10, i00, l_of hd hr hc, X9_look h, X5_refuse h hp hd hb.1 hb.2, k1, k2, k3]
        refine ⟨_, _, _, _, rfl, rfl, Or.inl ⟨rfl, ?_⟩, ⟨D, V, E, P, S, t, T, R, hi⟩⟩
        rw [g3]
        rfl
      · simp only [e1, e2, e3, e4, e5, e6, exq_i, exq_n, bno_s, lt_e, b2t, b2f, g_ttt, g_f, g_tf, g_ttf, if_b, it_, ff_, if_true, if_false, i10, i00]
        exact ⟨_, _, _, _, rfl, rfl, Or.inr ⟨0, rfl, by simp, rfl⟩, ⟨D, V, E, P, S, t, T, R, INV_thr h 2⟩⟩
    · simp only [e1, e2, e3, e4, e6, exq_i, exq_n, bno_s, lt_e, b2t, b2f, g_ttt, g_f, g_tf, g_ttf, if_b, it_, ff_, if_true, if_false, i10, i00]
      exact ⟨_, _, _, _, rfl, rfl, Or.inr ⟨2, rfl, by simp, rfl⟩, ⟨D, V, E, P, S, t, T, R, INV_thr h 1⟩⟩
  · simp only [e1, e2, e6, exq_i, exq_n, bno_s, lt_e, b2t, b2f, g_ttt, g_f, g_tf, g_ttf, if_b, it_, ff_, if_true, if_false, i10, i00]
    exact ⟨_, _, _, _, rfl, rfl, Or.inr ⟨2, rfl, by simp, rfl⟩, ⟨D, V, E, P, S, t, T, R, INV_thr h 1⟩⟩
/-- the class makes a play -/
theorem X9_make {tx : List Nat} (hC : CB D V E P S tx T R X.1) (hM : MB D V E P S T R (ga m 0)) (hH : HV V) (hs : SD D) (hh : HIST X m) {p d a b w : Nat} (hp : p < 2) (hd : d < 2) (ha : a < 7) (hb : b < 7) {u : List Nat} (hw : D[w]? = some u) (hr : rsn D T (R p) d a b u = 0) :
    ∃ X' m1 r, tk (R p) (frs (M T d a) b u) = some r ∧ f_X9_makePlay X (nI p) (nI (stn d a b * 32 + w)) = some (scr V T P d a b u, X') ∧ f_X10_save m = some m1 ∧ CB D V E P (updS S p (scr V T P d a b u)) tx (layT T d a b u) (updR R p r) X'.1 ∧ HIST X' m1 ∧ FR [2] [1] m m1 := by
  obtain ⟨X1, m1, e1, e2, e3, e4, f⟩ := X3_save hh ⟨D, V, E, P, S, tx, T, R, hC, hM, hH, hs⟩
  obtain ⟨_, g2, _, g4, g5, g6, _, _⟩ := rsn_0.mp hr
  cases et : tk (R p) (frs (M T d a) b u) with
  | none => exact absurd et g6
  | some r =>
    have hC1 : CB D V E P S tx T R X1.1 := by rw [e3]; exact hC
    have hpt := X5_pointsOf hC1.1 hC1.2.2.2.2.2.2.1 hC1.2.1 hC1.2.2.2.1 hd ha hb hw g2
    obtain ⟨mk, σ1, k1, k2, _, _⟩ := X5_lay hC1 hp hd ha hb hw g2 et
    have hap : ∀ v : Int32, f_X7_addPoints σ1 (nI p) v = some (sa σ1 6 (upd (ga σ1 6) p (ga σ1 6 p + v))) := by
      intro v
      unfold f_X7_addPoints
      rw [X9_isPlayer_n hp, bno_s, if_b, if_pos rfl, ixo_nI hp (by omega), ixo_nI hp (by omega), lt_e, nI_clamp (by omega)]
    refine ⟨(sa σ1 6 (upd (ga σ1 6) p (ga σ1 6 p + scr V T P d a b u)), X1.2), m1, r, rfl, ?_, e2, ?_, e4, f⟩
    · unfold f_X9_makePlay
      simp only [e1, hpt, k1, hap, bno_s, lt_e]
    · obtain ⟨b1, b2, b3, b4, b5, b6, b7, b8⟩ := k2
      refine ⟨b1, b2, b3, b4, ?_, b6, b7, b8⟩
      intro q hq
      show (if q = p then ga σ1 6 p + scr V T P d a b u else ga σ1 6 q) = _
      unfold updS
      by_cases c : q = p
      · rw [if_pos c, if_pos c, b5 p hp]
      · rw [if_neg c, if_neg c, b5 q hq]
theorem M_play (h : REL X m) (a d b c : Int32) : ∃ r X' q m', f_X9_play X a d b c = some (r, X') ∧ f_X10_play m a d b c = some (q, m') ∧ AGR [2, 0, 1] r q m' ∧ REL X' m' := by
  obtain ⟨D, V, E, P, S, t, T, R, h⟩ := h
  obtain ⟨q, e6⟩ : ∃ q, f_X10_in d.toInt64 0 1 = some q := by
    rcases rD d with ⟨_, _, _, _, e4⟩ | ⟨_, e4⟩
    · exact ⟨_, e4⟩
    · exact ⟨_, e4⟩
  unfold f_X9_play f_X10_play f_X10_play_20 f_X10_play_21 f_X10_play_60 f_X10_play_80
  rcases rP a with ⟨p, hp, rfl, e1, e2⟩ | ⟨e1, e2⟩
  · rcases rQ b c with ⟨r, c, hr, hc, rfl, rfl, e3, e4⟩ | ⟨e3, e4⟩
    · rcases rD d with ⟨d, hd, rfl, e5, e6⟩ | ⟨e5, e6⟩
      · obtain ⟨m1, m2, m3, k1, k2, k3, hi, hB, hR, hL, g3⟩ := X10_judge h hp hd hr hc
        have hb := l_bd (d := d) hr hc
        simp only [e1, e2, e3, e4, e5, e6, exq_i, exq_n, bno_s, lt_e, b2t, b2f, g_ttt, g_f, g_tf, g_ttf, if_b, it_, ff_, if_true, if_false, i10, i00, l_of hd hr hc, X9_look h, X5_refuse h hp hd hb.1 hb.2, k1, k2, k3]
        by_cases c0 : rsn D T (R p) d (lA d r c) (lB d r c) t = 0
        · have hmem := (rsn_0.mp c0).1
          rcases num_bd D t 0 with en | ⟨j, en, hj⟩
          · exact absurd hmem ((num_none D t 0 (by have := h.1.1.2.1; omega)).mp en)
          · rw [Nat.zero_add] at en
            have hj30 := (List.getElem?_eq_some_iff.mp hj).1
            have h30 := h.1.1.2.1
            have hi3 := INV_thr hi 0
            have hCt : CB D V E P S [] T R (si X.1 0 0) := by
              obtain ⟨b1, b2, b3, b4, b5, b6, b7, b8⟩ := h.1
              exact ⟨b1, b2, b3, b4, b5, rfl, b7, b8⟩
            obtain ⟨X', m4, rk, et, n1, n2, n3, n4, n5⟩ := X9_make (X := (si X.1 0 0, X.2)) (m := si m3 3 0) hCt hi3.2.1 hi3.2.2.2.1 hi3.2.2.2.2.1 hi3.2.2.2.2.2 hp hd hb.1 hb.2 hj c0
            have hww := (pc_all _ (stn_lt hd hb.1 hb.2) j (by omega)).1
            have hg2 := (rsn_0.mp c0).2.1
            have hM5 : MB D V E P S T R (ga (si m4 5 0) 0) := by
              show MB D V E P S T R (ga m4 0)
              rw [n5.2 0 (by decide)]
              exact hi3.2.1
            have hB5 : BR T (ga (si m4 5 0) 8) := by
              show BR T (ga m4 8)
              rw [n5.2 8 (by decide)]
              exact hB
            have hR5 : RR R (ga (si m4 5 0) 9) := by
              show RR R (ga m4 9)
              rw [n5.2 9 (by decide)]
              exact hR
            have hL5 : HL t (si m4 5 0) := ⟨by
              show gi m4 14 = _
              rw [n5.1 14 (by decide)]
              exact hL.1, hL.2.1, by
              show ∀ i x, _ → ga m4 13 i = _
              rw [n5.2 13 (by decide)]
              exact hL.2.2⟩
            obtain ⟨m6, s1, s2, s3⟩ := X10_makes hM5 hB5 hR5 hp hd hb.1 hg2 et hL5
            have hl := l_RW (d := d) r c
            rw [hl.1, hl.2] at s1
            rw [if_pos c0, if_pos c0]
            simp only [en, hww, n1, n2, s1, exq_i, exq_n, bno_s, lt_e, b2t, b2f, g_ttt, g_f, g_tf, g_ttf, if_b, it_, ff_, if_true, if_false, i10, i00]
            refine ⟨_, _, _, _, rfl, rfl, Or.inl ⟨rfl, ?_⟩, ⟨D, V, E, P, _, [], _, _, n3, s2, ?_, hi3.2.2.2.1, hi3.2.2.2.2.1, ?_⟩⟩
            · rw [s3.1 3 (by decide)]
              show gi m4 3 = 0
              rw [n5.1 3 (by decide)]
              rfl
            · refine ⟨?_, ⟨(by intro x hx; cases hx), Nat.zero_le 7⟩, (by intro i x hi; simp at hi)⟩
              rw [s3.1 5 (by decide)]
              rfl
            · refine HIST_cong n4 ?_ ?_
              · rw [s3.1 2 (by decide)]
                rfl
              · rw [s3.2 1 (by decide)]
                rfl
        · rw [if_neg c0, if_neg c0]
          exact ⟨_, _, _, _, rfl, rfl, Or.inr ⟨1, rfl, by simp, rfl⟩, ⟨D, V, E, P, S, t, T, R, INV_thr hi 3⟩⟩
      · simp only [e1, e2, e3, e4, e5, e6, exq_i, exq_n, bno_s, lt_e, b2t, b2f, g_ttt, g_f, g_tf, g_ttf, if_b, it_, ff_, if_true, if_false, i10, i00]
        exact ⟨_, _, _, _, rfl, rfl, Or.inr ⟨0, rfl, by simp, rfl⟩, ⟨D, V, E, P, S, t, T, R, INV_thr h 2⟩⟩
    · simp only [e1, e2, e3, e4, e6, exq_i, exq_n, bno_s, lt_e, b2t, b2f, g_ttt, g_f, g_tf, g_ttf, if_b, it_, ff_, if_true, if_false, i10, i00]
      exact ⟨_, _, _, _, rfl, rfl, Or.inr ⟨2, rfl, by simp, rfl⟩, ⟨D, V, E, P, S, t, T, R, INV_thr h 1⟩⟩
  · simp only [e1, e2, e6, exq_i, exq_n, bno_s, lt_e, b2t, b2f, g_ttt, g_f, g_tf, g_ttf, if_b, it_, ff_, if_true, if_false, i10, i00]
    exact ⟨_, _, _, _, rfl, rfl, Or.inr ⟨2, rfl, by simp, rfl⟩, ⟨D, V, E, P, S, t, T, R, INV_thr h 1⟩⟩
theorem M_plays (h : REL X m) (a : Int32) : ∃ r σ q m', f_X9_plays X.1 a = some (r, σ) ∧ f_X10_plays m a = some (q, m') ∧ AGR [2] r q m' ∧ REL (σ, X.2) m' := by
  obtain ⟨D, V, E, P, S, t, T, R, h⟩ := h
  obtain ⟨m1, e5, hPB, hi, f1⟩ := INV_PB h
  unfold f_X9_plays f_X10_plays
  rcases rP a with ⟨p, hp, rfl, e1, e2⟩ | ⟨e1, e2⟩
  · have hPB1 : PB D V E P T R (si m1 3 0) := hPB
    obtain ⟨m2, e6, f2⟩ := X10_playsOf hPB1 hp
    simp only [e1, e2, e5, e6, exq_i, exq_n, bno_s, lt_e, b2t, b2f, g_ttt, g_f, g_tf, g_ttf, if_b, it_, ff_, if_true, if_false, i10, i00, X5_countPlays h.1.1 h.1.2.2.2.2.2.2.1 h.1.2.2.2.2.2.2.2 hp]
    refine ⟨_, _, _, _, rfl, rfl, Or.inl ⟨rfl, ?_⟩, ⟨D, V, E, P, S, t, T, R, INV_FR (INV_thr hi 0) f2 (by decide) (by decide) (by decide) (by decide) (by decide)⟩⟩
    rw [f2.1 3 (by decide)]
    rfl
  · simp only [e1, e2, e5, exq_i, exq_n, bno_s, lt_e, b2t, b2f, g_ttt, g_f, g_tf, g_ttf, if_b, it_, ff_, if_true, if_false, i10, i00]
    exact ⟨_, _, _, _, rfl, rfl, Or.inr ⟨2, rfl, by simp, rfl⟩, ⟨D, V, E, P, S, t, T, R, INV_thr hi 1⟩⟩
theorem hd_phi (L : List Nat) : (hd L = -1 ∧ hd (L.map phi) = -1 ∧ L = []) ∨ ∃ x L2, L = x :: L2 ∧ hd L = nI x ∧ hd (L.map phi) = nI (phi x) := by
  cases L with
  | nil => exact Or.inl ⟨rfl, rfl, rfl⟩
  | cons x L => exact Or.inr ⟨x, L, rfl, rfl, rfl⟩
/-- a play of the list, as the two know it -/
theorem c_get (h : INV D V E P S t T R X m) {p c : Nat} (hp : p < 2) (hc : c < 2940) (hr : rcd D T (R p) c = true) : f_X6_ofPlay (nI (phi c)) = some (nI (stn (c / 1470) (cA c) (cB c))) ∧ f_X6_wordOfPlay (nI (phi c)) = some (nI (c % 30)) ∧ f_X6_direction (nI (stn (c / 1470) (cA c) (cB c))) = some (nI (c / 1470)) ∧ f_X6_row (nI (stn (c / 1470) (cA c) (cB c))) = some (nI (c / 30 % 49 / 7)) ∧ f_X6_column (nI (stn (c / 1470) (cA c) (cB c))) = some (nI (c / 30 % 49 % 7)) ∧ f_X5_pointsOf X.1 (nI (phi c)) = some (pts D V T P (phi c)) ∧ f_X5_equityOf X.1 (nI p) (nI (phi c)) = some (pts D V T P (phi c) + vlR E (rem D T (R p) (phi c))) := by
  obtain ⟨hD, hV, hE, hP, hS, hx, hO, hR⟩ := h.1
  have hcb := c_bd c
  have hd : c / 1470 < 2 := by omega
  have e := pc_all _ (stn_lt hd hcb.1 hcb.2) (c % 30) (by omega)
  have hrw := c_RW c
  have e1 := st_row (c / 1470) hd (cA c) hcb.1 (cB c) hcb.2
  have e2 := st_col (c / 1470) hd (cA c) hcb.1 (cB c) hcb.2
  unfold RW CL at hrw
  rw [hrw.1] at e1
  rw [hrw.2] at e2
  have hx4 : phi c < 4096 := by rw [phi_val]; omega
  exact ⟨e.2.1, e.2.2, st_dir (c / 1470) hd (cA c) hcb.1 (cB c) hcb.2, e1, e2, X5_pts hD hO hV hP hx4 hr, X5_equityOf hD hO hV hE hP hR hp hr hx4⟩
theorem M_playAt (h : REL X m) (a b c : Int32) : ∃ r σ q m', f_X9_playAt X.1 a b c = some (r, σ) ∧ f_X10_playAt m a b c = some (q, m') ∧ AGR [2, 0] r q m' ∧ REL (σ, X.2) m' := by
  obtain ⟨D, V, E, P, S, t, T, R, h⟩ := h
  obtain ⟨m1, e5, hPB, hi, f1⟩ := INV_PB h
  obtain ⟨w, w1, w2, rfl⟩ := iI_of c
  have i1 := rIn w 0 5 w1 w2 0 5 rfl rfl
  have k1 : (iI w < (0 : Int32)) = (w < 0) := iI_lt0 w1 w2
  have k2 : (iI w ≤ (5 : Int32)) = (w ≤ 5) := by rw [L5, iI_le w1 w2 (by omega) (by omega)]
  unfold f_X9_playAt f_X10_playAt f_X10_playAt_21 f_X10_playAt_35 f_X9_playAt_40
  rcases rP a with ⟨p, hp, rfl, e1, e2⟩ | ⟨e1, e2⟩
  · obtain ⟨z, z1, z2, rfl⟩ := iI_of b
    obtain ⟨m2, e6, hl2, f2⟩ := X10_codeAt hPB hp z1 z2
    have e7 := X5_numbered h.1.1 h.1.2.2.2.2.2.2.1 h.1.2.2.2.2.2.2.2 hp z1 z2
    rw [fl_phi h.1.1.2.1, ← List.map_drop] at e7
    have hi2 := INV_FR hi f2 (by decide) (by decide) (by decide) (by decide) (by decide)
    have hPB2 := PB_FR hPB f2 (by decide) (by decide) (by decide)
    -- nothing there, or a code
    have key : ((if z < 0 then -1 else hd ((fl (rcd D T (R p)) 2940 0).drop z.toNat)) = -1 ∧ (if z < 0 then -1 else hd (((fl (rcd D T (R p)) 2940 0).drop z.toNat).map phi)) = -1) ∨ ∃ x, x < 2940 ∧ (if z < 0 then -1 else hd ((fl (rcd D T (R p)) 2940 0).drop z.toNat)) = nI x ∧ (if z < 0 then -1 else hd (((fl (rcd D T (R p)) 2940 0).drop z.toNat).map phi)) = nI (phi x) := by
      by_cases k : z < 0
      · exact Or.inl ⟨if_pos k, if_pos k⟩
      · rw [if_neg k, if_neg k]
        rcases hd_phi ((fl (rcd D T (R p)) 2940 0).drop z.toNat) with ⟨q1, q2, _⟩ | ⟨x, L2, q0, q1, q2⟩
        · exact Or.inl ⟨q1, q2⟩
        · have hx : x ∈ fl (rcd D T (R p)) 2940 0 := List.mem_of_mem_drop (i := z.toNat) (by rw [q0]; simp)
          have := fl_mem.mp hx
          exact Or.inr ⟨x, by omega, q1, q2⟩
    rcases key with ⟨q1, q2⟩ | ⟨x, hx, q1, q2⟩
    · rw [q1] at e6
      rw [q2] at e7
      simp only [e1, e2, e5, e6, e7, i1, exq_i, exq_n, bno_s, lt_e, b2t, b2f, g_ttt, g_f, g_tf, g_ttf, if_b, it_, ff_, if_true, if_false, i10, i00]
      exact ⟨_, _, _, _, rfl, rfl, Or.inr ⟨2, rfl, by simp, rfl⟩, ⟨D, V, E, P, S, t, T, R, INV_thr hi2 1⟩⟩
    · obtain ⟨hr, hL⟩ := hl2 x hx q1
      rw [q1] at e6
      rw [q2] at e7
      have hx4 : phi x < 4096 := by rw [phi_val]; omega
      have n1 : ¬ nI (phi x) = -1 := nI_nm1 (by omega)
      have n2 : ¬ nI x = -1 := nI_nm1 (by omega)
      obtain ⟨g1, g2, g3, g4, g5, g6, g7⟩ := c_get h hp hx hr
      have hPB3 : PB D V E P T R (si m2 3 0) := hPB2
      have hL3 : LY D T x (si m2 3 0) := hL
      obtain ⟨m4, e8, hL4, f4⟩ := X10_scoreBy hPB3 hp hx hr hL3
      have hPB4 := PB_FR hPB3 f4 (by decide) (by decide) (by decide)
      have e9 := X10_leaveOf hPB4 hp hx hr hL4
      obtain ⟨a1, a2, a3, a4, a5, a6⟩ := cde hx
      have hi4 := INV_FR (INV_thr hi2 0) f4 (by decide) (by decide) (by decide) (by decide) (by decide)
      have g34 : gi m4 3 = 0 := by rw [f4.1 3 (by decide)]; rfl
      simp only [e1, e2, e5, e6, e7, i1, exq_i, exq_n, bno_s, lt_e, b2t, b2f, g_ttt, g_f, g_tf, g_ttf, if_b, it_, ff_, if_true, if_false, i10, i00, if_neg n1, if_neg n2, k1, k2]
      by_cases c1 : w < 0
      · rw [if_pos c1, decide_eq_false (by omega)]
        simp only [exq_i, exq_n, bno_s, lt_e, b2t, b2f, g_ttt, g_f, g_tf, g_ttf, if_b, it_, ff_, if_true, if_false, i10, i00]
        exact ⟨_, _, _, _, rfl, rfl, Or.inr ⟨0, rfl, by simp, rfl⟩, ⟨D, V, E, P, S, t, T, R, INV_thr hi2 2⟩⟩
      · rw [if_neg c1]
        by_cases c2 : w ≤ 5
        · rw [if_pos c2, decide_eq_true (by omega)]
          simp only [exq_i, exq_n, bno_s, lt_e, b2t, b2f, g_ttt, g_f, g_tf, g_ttf, if_b, it_, ff_, if_true, if_false, i10, i00, e8, e9, g1, g2, g3, g4, g5, g6, g7, a1, a2, a3, a4, a5, a6]
          by_cases d0 : iI w = 0
          · rw [if_pos d0, if_pos d0]
            exact ⟨_, _, _, _, rfl, rfl, Or.inl ⟨rfl, g34⟩, ⟨D, V, E, P, S, t, T, R, hi4⟩⟩
          rw [if_neg d0, if_neg d0]
          by_cases d1 : iI w = 1
          · rw [if_pos d1, if_pos d1]
            exact ⟨_, _, _, _, rfl, rfl, Or.inl ⟨rfl, g34⟩, ⟨D, V, E, P, S, t, T, R, hi4⟩⟩
          rw [if_neg d1, if_neg d1]
          by_cases d2 : iI w = 2
          · rw [if_pos d2, if_pos d2]
            exact ⟨_, _, _, _, rfl, rfl, Or.inl ⟨rfl, g34⟩, ⟨D, V, E, P, S, t, T, R, hi4⟩⟩
          rw [if_neg d2, if_neg d2]
          by_cases d3 : iI w = 3
          · rw [if_pos d3, if_pos d3]
            exact ⟨_, _, _, _, rfl, rfl, Or.inl ⟨rfl, g34⟩, ⟨D, V, E, P, S, t, T, R, hi4⟩⟩
          rw [if_neg d3, if_neg d3]
          by_cases d4 : iI w = 4
          · rw [if_pos d4, if_pos d4]
            exact ⟨_, _, _, _, rfl, rfl, Or.inl ⟨rfl, g34⟩, ⟨D, V, E, P, S, t, T, R, hi4⟩⟩
          rw [if_neg d4, if_neg d4]
          exact ⟨_, _, _, _, rfl, rfl, Or.inl ⟨rfl, g34⟩, ⟨D, V, E, P, S, t, T, R, hi4⟩⟩
        · rw [if_neg c2, decide_eq_false (by omega)]
          simp only [exq_i, exq_n, bno_s, lt_e, b2t, b2f, g_ttt, g_f, g_tf, g_ttf, if_b, it_, ff_, if_true, if_false, i10, i00]
          exact ⟨_, _, _, _, rfl, rfl, Or.inr ⟨0, rfl, by simp, rfl⟩, ⟨D, V, E, P, S, t, T, R, INV_thr hi2 2⟩⟩
  · simp only [e1, e2, e5, i1, exq_i, exq_n, bno_s, lt_e, b2t, b2f, g_ttt, g_f, g_tf, g_ttf, if_b, it_, ff_, if_true, if_false, i10, i00]
    exact ⟨_, _, _, _, rfl, rfl, Or.inr ⟨2, rfl, by simp, rfl⟩, ⟨D, V, E, P, S, t, T, R, INV_thr hi 1⟩⟩
theorem M_bestPlay (h : REL X m) (a : Int32) : ∃ r σ q m', f_X9_bestPlay X.1 a = some (r, σ) ∧ f_X10_bestPlay m a = some (q, m') ∧ AGR [2] r q m' ∧ REL (σ, X.2) m' := by
  obtain ⟨D, V, E, P, S, t, T, R, h⟩ := h
  obtain ⟨m1, e5, hPB, hi, f1⟩ := INV_PB (INV_thr h 0)
  unfold f_X9_bestPlay f_X10_bestPlay
  rcases rP a with ⟨p, hp, rfl, e1, e2⟩ | ⟨e1, e2⟩
  · obtain ⟨m2, e6, g16, _, f2⟩ := X10_findsBest hPB hp
    obtain ⟨hD, hV, hE, hP, hS, hx, hO, hR⟩ := h.1
    simp only [e1, e2, e5, e6, exq_i, exq_n, bno_s, lt_e, b2t, b2f, g_ttt, g_f, g_tf, g_ttf, if_b, it_, ff_, if_true, if_false, i10, i00, X5_best hD hO hV hE hP hR hp, g16]
    refine ⟨_, _, _, _, rfl, rfl, Or.inl ⟨rfl, ?_⟩, ⟨D, V, E, P, S, t, T, R, INV_FR hi f2 (by decide) (by decide) (by decide) (by decide) (by decide)⟩⟩
    rw [f2.1 3 (by decide), f1.1 3 (by decide)]
    rfl
  · simp only [e1, e2, exq_i, exq_n, bno_s, lt_e, b2t, b2f, g_ttt, g_f, g_tf, g_ttf, if_b, it_, ff_, if_true, if_false, i10, i00]
    exact ⟨_, _, _, _, rfl, rfl, Or.inr ⟨2, rfl, by simp, rfl⟩, ⟨D, V, E, P, S, t, T, R, INV_thr h 1⟩⟩
theorem M_playBest (h : REL X m) (a : Int32) : ∃ r X' q m', f_X9_playBest X a = some (r, X') ∧ f_X10_playBest m a = some (q, m') ∧ AGR [2, 1] r q m' ∧ REL X' m' := by
  obtain ⟨D, V, E, P, S, t, T, R, h⟩ := h
  obtain ⟨m1, e5, hPB, hi, f1⟩ := INV_PB h
  unfold f_X9_playBest f_X10_playBest f_X10_playBest_16 f_X10_playBest_34
  rcases rP a with ⟨p, hp, rfl, e1, e2⟩ | ⟨e1, e2⟩
  · obtain ⟨m2, e6, g16, hBC, f2⟩ := X10_findsBest hPB hp
    obtain ⟨hD, hV, hE, hP, hS, hx, hO, hR⟩ := id h.1
    have hi2 := INV_FR hi f2 (by decide) (by decide) (by decide) (by decide) (by decide)
    have hPB2 := PB_FR hPB f2 (by decide) (by decide) (by decide)
    have ebest := X5_best hD hO hV hE hP hR hp
    rw [← g16] at ebest
    rcases hBC with q16 | ⟨i, x, q16, qx, q17⟩
    · have enum : f_X5_playNumbered X.1 (nI p) (gi m2 16) = some (-1) := by
        rw [q16, iI_m1, X5_numbered hD hO hR hp (by omega) (by omega), if_pos (by omega)]
        rfl
      simp only [e1, e2, e5, e6, ebest, enum, q16, exq_i, exq_n, bno_s, lt_e, b2t, b2f, g_ttt, g_f, g_tf, g_ttf, if_b, it_, ff_, if_true, if_false, i10, i00]
      exact ⟨_, _, _, _, rfl, rfl, Or.inr ⟨1, rfl, by simp, rfl⟩, ⟨D, V, E, P, S, t, T, R, INV_thr hi2 2⟩⟩
    · have hxm := fl_mem.mp (List.mem_of_getElem? qx)
      have hx2 : x < 2940 := by omega
      have hr := hxm.2.2
      have hil := (List.getElem?_eq_some_iff.mp qx).1
      have hll := fl_len (rcd D T (R p)) 2940 0
      have hx4 : phi x < 4096 := by rw [phi_val]; omega
      rw [q16] at ebest
      have enum : f_X5_playNumbered X.1 (nI p) (nI i) = some (nI (phi x)) := by
        rw [iI_nI i, X5_numbered hD hO hR hp (by omega) (by omega), if_neg (by omega), fl_phi hD.2.1, Int.toNat_natCast, ← List.map_drop, List.drop_eq_getElem_cons hil]
        have : (fl (rcd D T (R p)) 2940 0)[i] = x := by
          obtain ⟨_, q⟩ := List.getElem?_eq_some_iff.mp qx
          exact q
        rw [this]
        rfl
      have n1 : ¬ nI (phi x) = -1 := nI_nm1 (by omega)
      have n2 : ¬ nI i = -1 := nI_nm1 (by omega)
      obtain ⟨u, r, hu, h7, _, _, ht, hrem⟩ := rcd_true hD.2.1 hx2 hr
      have hcb := c_bd x
      have hd : x / 1470 < 2 := by omega
      have el : rcd D T (R p) x = decide (rsn D T (R p) (x / 1470) (cA x) (cB x) u = 0) := lc_at hd hcb.1 hcb.2 (by omega) hu
      have hr0 : rsn D T (R p) (x / 1470) (cA x) (cB x) u = 0 := by
        rw [hr] at el
        exact of_decide_eq_true el.symm
      have hi3 := INV_thr hi2 0
      obtain ⟨X', m4, rk, et, n3, n4, n5, n6, n7⟩ := X9_make (m := si m2 3 0) h.1 hi3.2.1 hi3.2.2.2.1 hi3.2.2.2.2.1 hi3.2.2.2.2.2 hp hd hcb.1 hcb.2 hu hr0
      have hPB3 : PB D V E P T R (si m2 3 0) := hPB2
      have hPB4 := PB_FR hPB3 n7 (by decide) (by decide) (by decide)
      have hM4 : MB D V E P S T R (ga m4 0) := by rw [n7.2 0 (by decide)]; exact hi3.2.1
      have g17 : gi m4 17 = nI x := by
        rw [n7.1 17 (by decide)]
        exact q17
      obtain ⟨m5, s1, s2, f5⟩ := X10_mayPlay hPB4 hp hx2
      obtain ⟨u2, hu2, hL, _⟩ := s2 hr
      have : u2 = u := by rw [hu] at hu2; exact (Option.some.inj hu2).symm
      subst this
      have hPB5 := PB_FR hPB4 f5 (by decide) (by decide) (by decide)
      have hM5 : MB D V E P S T R (ga m5 0) := by rw [f5.2 0 (by decide)]; exact hM4
      obtain ⟨m6, s3, s4, f6⟩ := X10_makes hM5 hPB5.2.2.2.2.1 hPB5.2.2.2.2.2.1 hp hd hcb.1 h7 et hL
      have hrw := c_RW x
      rw [hrw.1, hrw.2] at s3
      obtain ⟨a1, a2, a3, a4, a5, a6⟩ := cde hx2
      have g17' : gi m5 17 = nI x := by rw [f5.1 17 (by decide)]; exact g17
      have ephi : nI (stn (x / 1470) (cA x) (cB x) * 32 + x % 30) = nI (phi x) := rfl
      rw [ephi] at n3
      simp only [e1, e2, e5, e6, ebest, enum, n3, q16, exq_i, exq_n, bno_s, lt_e, b2t, b2f, g_ttt, g_f, g_tf, g_ttf, if_b, it_, ff_, if_true, if_false, i10, i00, if_neg n1, if_neg n2, n4, g17, s1, g17', a1, a2, a3, a4, a5, a6, s3]
      refine ⟨_, _, _, _, rfl, rfl, Or.inl ⟨rfl, ?_⟩, ⟨D, V, E, P, _, t, _, _, n5, s4, ?_, hi3.2.2.2.1, hi3.2.2.2.2.1, ?_⟩⟩
      · rw [f6.1 3 (by decide), f5.1 3 (by decide), n7.1 3 (by decide)]
        rfl
      · refine ⟨?_, hi3.2.2.1.2.1, ?_⟩
        · rw [f6.1 5 (by decide), f5.1 5 (by decide), n7.1 5 (by decide)]
          exact hi3.2.2.1.1
        · rw [f6.2 4 (by decide), f5.2 4 (by decide), n7.2 4 (by decide)]
          exact hi3.2.2.1.2.2
      · refine HIST_cong n6 ?_ ?_
        · rw [f6.1 2 (by decide), f5.1 2 (by decide)]
        · rw [f6.2 1 (by decide), f5.2 1 (by decide)]
  · obtain ⟨q, hq⟩ : ∃ q : Bool, (gi m1 16 = -1) = (q = true) := by
      by_cases k : gi m1 16 = -1
      · exact ⟨true, by simp [k]⟩
      · exact ⟨false, by simp [k]⟩
    simp only [e1, e2, e5, exq_i, exq_n, bno_s, lt_e, b2t, b2f, g_ttt, g_f, g_tf, g_ttf, if_b, it_, ff_, if_true, if_false, i10, i00, ite_self]
    exact ⟨_, _, _, _, rfl, rfl, Or.inr ⟨2, rfl, by simp, rfl⟩, ⟨D, V, E, P, S, t, T, R, INV_thr hi 1⟩⟩
theorem M_endgame (h : REL X m) (a : Int32) : ∃ r σ q m', f_X9_endgame X.1 a = some (r, σ) ∧ f_X10_endgame m a = some (q, m') ∧ AGR [2, 1] r q m' ∧ REL (σ, X.2) m' := by
  obtain ⟨D, V, E, P, S, t, T, R, h⟩ := h
  obtain ⟨m1, e5, hPB, hi, f1⟩ := INV_PB (INV_thr h 0)
  unfold f_X9_endgame f_X10_endgame f_X10_endgame_42 f_X2_begin
  rcases rP a with ⟨p, hp, rfl, e1, e2⟩ | ⟨e1, e2⟩
  · have hkR := (INV_ok h).2
    have hR0 := hkR 0 (by omega)
    have hR1 := hkR 1 (by omega)
    unfold okR at hR0 hR1
    have hmu : mu R 0 ≤ 22 := by unfold mu; omega
    have hC : CB D V E P S t T R (si X.1 2 0) := h.1
    obtain ⟨v, σ', k1, k2, k3⟩ := X2_bd (D := D) (V := V) (E := E) (P := P) (S := S) (t := t) 44 T R p 0 0 (si X.1 2 0) 0 (by omega) (by omega) hp (by omega) hC rfl (by omega)
    have k1' : f_bd 44 (si X.1 2 0) (nI p) 0 0 = some (v, σ') := k1
    obtain ⟨w, m2, e6, f2, k4⟩ := X10_searched h.2.2.2.1 hPB hp
    have f2' : FR [7, 10, 11, 12, 14, 24] [6, 8, 9, 13, 15, 18, 19, 20, 21, 22, 23] m1 m2 := f2
    have hi2 := INV_FR hi f2' (by decide) (by decide) (by decide) (by decide) (by decide)
    have hi3 : INV D V E P S t T R (σ', X.2) m2 := ⟨k2, hi2.2⟩
    have hREL : ∀ v, REL (σ', X.2) (si m2 3 v) := fun v => ⟨D, V, E, P, S, t, T, R, INV_thr hi3 v⟩
    rcases k4 with ⟨c1, rfl, j, hj, g24⟩ | ⟨c1, g24⟩
    · rcases k3 with ⟨_, rfl, g2⟩ | ⟨c2, _⟩
      · have hf := X2_hasFailed (σ := σ') (k := 0 + (ev D V P 44 T R p 0).2) (by omega) g2
        rw [decide_eq_false (by omega)] at hf
        have n1 : ¬ (400 : Int32) < gi m2 24 := by
          rw [g24]
          exact nI_nlt (a := 400) (by omega) (by omega)
        simp only [e1, e2, e5, e6, k1', hf, exq_i, exq_n, bno_s, lt_e, b2t, b2f, g_ttt, g_f, g_tf, g_ttf, if_b, it_, ff_, if_true, if_false, i10, i00, if_neg n1]
        exact ⟨_, _, _, _, rfl, rfl, Or.inl ⟨rfl, rfl⟩, hREL 0⟩
      · omega
    · rcases k3 with ⟨c2, _⟩ | ⟨c2, g2⟩
      · omega
      · have hf := X2_hasFailed (σ := σ') (k := 401) (by omega) g2
        rw [decide_eq_true (by omega)] at hf
        have n1 : (400 : Int32) < gi m2 24 := by
          rw [g24]
          decide
        simp only [e1, e2, e5, e6, k1', hf, exq_i, exq_n, bno_s, lt_e, b2t, b2f, g_ttt, g_f, g_tf, g_ttf, if_b, it_, ff_, if_true, if_false, i10, i00, if_pos n1]
        exact ⟨_, _, _, _, rfl, rfl, Or.inr ⟨1, rfl, by simp, rfl⟩, hREL 2⟩
  · simp only [e1, e2, exq_i, exq_n, bno_s, lt_e, b2t, b2f, g_ttt, g_f, g_tf, g_ttf, if_b, it_, ff_, if_true, if_false, i10, i00]
    exact ⟨_, _, _, _, rfl, rfl, Or.inr ⟨2, rfl, by simp, rfl⟩, ⟨D, V, E, P, S, t, T, R, INV_thr h 1⟩⟩
theorem M_digest (h : REL X m) : ∃ b m', f_X9_digest X = some (b, X) ∧ f_X10_digest m = some (b, m') ∧ REL X m' := by
  obtain ⟨D, V, E, P, S, t, T, R, h⟩ := h
  have hok := INV_ok h
  have hc : gi m 2 = X.2.2.1 := by
    obtain ⟨o, c, _, _, _, h2, h3, _⟩ := h.2.2.2.2.2
    rw [h2, h3]
  obtain ⟨m', e, _, f⟩ := X10_digest h.2.1 h.2.2.1 hok.2 hc
  exact ⟨_, m', X9_digest h.1 hok.1, e, ⟨D, V, E, P, S, t, T, R, INV_FR h f (by decide) (by decide) (by decide) (by decide) (by decide)⟩⟩
end
