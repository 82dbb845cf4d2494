/-! ===== the two objects side by side; calls that change nothing but the text ===== -/
def INV (D : List (List Nat)) (V E : Nat → Int32) (P : Nat → Nat → Int32) (S : Nat → Int32) (t : List Nat) (T : Bd) (R : Nat → Nat → Nat) (X : S2) (m : St) : Prop := CB D V E P S t T R X.1 ∧ MB D V E P S T R (ga m 0) ∧ TX t m ∧ HV V ∧ SD D ∧ HIST X m
def REL (X : S2) (m : St) : Prop := ∃ (D : List (List Nat)) (V E : Nat → Int32) (P : Nat → Nat → Int32) (S : Nat → Int32) (t : List Nat) (T : Bd) (R : Nat → Nat → Nat), INV D V E P S t T R X m
theorem exq_i {α β : Type} (c : Nat) (t : Nat → Option β) (k : α → Option β) : exq (.inl c) t k = t c := rfl
theorem exq_n {α β : Type} (v : α) (t : Nat → Option β) (k : α → Option β) : exq (.inr v) t k = k v := rfl
theorem b2t : b2i true = 1 := rfl
theorem b2f : b2i false = 0 := rfl
theorem g_ttt (m : St) : f_X10_goes m 1 1 1 = some (true, si m 3 0) := rfl
theorem g_f (m : St) (s z : Int32) : f_X10_goes m 0 s z = some (false, si m 3 1) := rfl
theorem g_tf (m : St) (z : Int32) : f_X10_goes m 1 0 z = some (false, si m 3 2) := rfl
theorem g_ttf (m : St) : f_X10_goes m 1 1 0 = some (false, si m 3 3) := rfl
theorem it_ {α : Type} (x y : α) : (if true = true then x else y) = x := rfl
theorem ff_ {α : Type} (x y : α) : (if false = true then x else y) = y := rfl
theorem i10 {α : Type} (x y : α) : (if (1 : Int32) = 0 then x else y) = y := rfl
theorem i00 {α : Type} (x y : α) : (if (0 : Int32) = 0 then x else y) = x := rfl
/-- class and reference say the same -/
def AGR (l : List Nat) (r : Nat ⊕ Int32) (b : Int32) (m : St) : Prop := (r = .inr b ∧ gi m 3 = 0) ∨ ∃ c, r = .inl c ∧ c ∈ l ∧ gi m 3 = wk l r
theorem rL (a : Int32) : (∃ l : Nat, l < 8 ∧ a = nI l ∧ f_X9_requireLetter a = some (.inr ()) ∧ f_X10_isLetter a = some true) ∨ (f_X9_requireLetter a = some (.inl 0) ∧ f_X10_isLetter a = some false) := by
  obtain ⟨z, h1, h2, rfl⟩ := iI_of a
  unfold f_X9_requireLetter
  rw [X9_isLetter h1 h2, X10_isLetter h1 h2, bno_s, if_b]
  by_cases c : 0 ≤ z ∧ z < 8
  · rw [decide_eq_true c]
    exact Or.inl ⟨z.toNat, by omega, by rw [iI_nI, Int.toNat_of_nonneg c.1], rfl, rfl⟩
  · rw [decide_eq_false c]
    exact Or.inr ⟨rfl, rfl⟩
theorem rP (a : Int32) : (∃ l : Nat, l < 2 ∧ a = nI l ∧ f_X9_requirePlayer a = some (.inr ()) ∧ f_X10_isPlayer a = some true) ∨ (f_X9_requirePlayer a = some (.inl 2) ∧ f_X10_isPlayer a = some false) := by
  obtain ⟨z, h1, h2, rfl⟩ := iI_of a
  unfold f_X9_requirePlayer
  rw [X9_isPlayer h1 h2, X10_isPlayer h1 h2, bno_s, if_b]
  by_cases c : 0 ≤ z ∧ z < 2
  · rw [decide_eq_true c]
    exact Or.inl ⟨z.toNat, by omega, by rw [iI_nI, Int.toNat_of_nonneg c.1], rfl, rfl⟩
  · rw [decide_eq_false c]
    exact Or.inr ⟨rfl, rfl⟩
theorem rQ (a b : Int32) : (∃ r c : Nat, r < 7 ∧ c < 7 ∧ a = nI r ∧ b = nI c ∧ f_X9_requireSquare a b = some (.inr ()) ∧ f_X10_isSquare a b = some true) ∨ (f_X9_requireSquare a b = some (.inl 2) ∧ f_X10_isSquare a b = some false) := by
  obtain ⟨z, h1, h2, rfl⟩ := iI_of a
  obtain ⟨w, h3, h4, rfl⟩ := iI_of b
  unfold f_X9_requireSquare f_X9_requireSquare_20
  rw [X10_isSquare h1 h2 h3 h4]
  simp (disch := omega) only [iI_lt0, L7, iI_le, iI_lt]
  by_cases c : 0 ≤ z ∧ z < 7 ∧ 0 ≤ w ∧ w < 7
  · rw [decide_eq_true c, if_neg (by omega), if_neg (by omega), if_neg (by omega), if_pos (by omega)]
    exact Or.inl ⟨z.toNat, w.toNat, by omega, by omega, by rw [iI_nI, Int.toNat_of_nonneg c.1], by rw [iI_nI, Int.toNat_of_nonneg c.2.2.1], rfl, rfl⟩
  · rw [decide_eq_false c]
    refine Or.inr ⟨?_, rfl⟩
    by_cases k1 : z < 0
    · rw [if_pos k1]
    · rw [if_neg k1]
      by_cases k2 : 7 ≤ z
      · rw [if_pos k2]
      · rw [if_neg k2]
        by_cases k3 : w < 0
        · rw [if_pos k3]
        · rw [if_neg k3, if_neg (by omega)]
theorem rIn (z lo hi : Int) (h1 : -2147483648 ≤ z) (h2 : z < 2147483648) (L H : Int64) (hL : L.toInt = lo) (hH : H.toInt = hi) : f_X10_in (iI z).toInt64 L H = some (decide (lo ≤ z ∧ z ≤ hi)) := by
  rw [X10_in, iI_toInt h1 h2, hL, hH]
theorem rD (a : Int32) : (∃ d : Nat, d < 2 ∧ a = nI d ∧ f_X9_requireDirection a = some (.inr ()) ∧ f_X10_in a.toInt64 0 1 = some true) ∨ (f_X9_requireDirection a = some (.inl 0) ∧ f_X10_in a.toInt64 0 1 = some false) := by
  obtain ⟨z, h1, h2, rfl⟩ := iI_of a
  unfold f_X9_requireDirection
  rw [rIn z 0 1 h1 h2 0 1 rfl rfl]
  simp (disch := omega) only [iI_eq0, L1, iI_eq]
  by_cases c : 0 ≤ z ∧ z ≤ 1
  · rw [decide_eq_true c]
    refine Or.inl ⟨z.toNat, by omega, by rw [iI_nI, Int.toNat_of_nonneg c.1], ?_, rfl⟩
    by_cases k : z = 0
    · rw [if_pos k]
    · rw [if_neg k, if_pos (by omega)]
  · rw [decide_eq_false c, if_neg (by omega), if_neg (by omega)]
    exact Or.inr ⟨rfl, rfl⟩
section
variable {D : List (List Nat)} {V E : Nat → Int32} {P : Nat → Nat → Int32} {S : Nat → Int32} {t : List Nat} {T : Bd} {R : Nat → Nat → Nat} {X : S2} {m : St}
theorem INV_ok (h : INV D V E P S t T R X m) : okW t ∧ ∀ p, p < 2 → okR (R p) := ⟨h.2.2.1.2.1, fun p hp => (h.1.2.2.2.2.2.2.2 p hp).1⟩
theorem INV_FR (h : INV D V E P S t T R X m) {is js : List Nat} {m' : St} (f : FR is js m m') (h2 : 2 ∉ is) (h5 : 5 ∉ is) (h0 : 0 ∉ js) (h1 : 1 ∉ js) (h4 : 4 ∉ js) : INV D V E P S t T R X m' := by
  obtain ⟨a1, a2, a3, a4, a5, a6⟩ := h
  refine ⟨a1, by rw [f.2 0 h0]; exact a2, ⟨by rw [f.1 5 h5]; exact a3.1, a3.2.1, by rw [f.2 4 h4]; exact a3.2.2⟩, a4, a5, HIST_cong a6 (f.1 2 h2) (f.2 1 h1)⟩
theorem INV_thr (h : INV D V E P S t T R X m) (v : Int32) : INV D V E P S t T R X (si m 3 v) := INV_FR h (FR_si m 3 v) (by decide) (by decide) (by decide) (by decide) (by decide)
theorem INV_PB (h : INV D V E P S t T R X m) : ∃ m', f_X10_laysNow m = some m' ∧ PB D V E P T R m' ∧ INV D V E P S t T R X m' ∧ FR [] [8, 9] m m' := by
  obtain ⟨m', e, hB, hR, f⟩ := X10_laysNow (σ := m) h.2.1.2.2.2.2.2.1 h.2.1.2.2.2.2.2.2
  refine ⟨m', e, ?_, INV_FR h f (by decide) (by decide) (by decide) (by decide) (by decide), f⟩
  unfold PB
  rw [f.2 0 (by decide)]
  exact ⟨h.2.1.1, h.2.1.2.1, h.2.1.2.2.1, h.2.1.2.2.2.1, hB, hR, (INV_ok h).2⟩
/-- type -/
theorem M_type (h : REL X m) (a : Int32) : ∃ r σ b m', f_X9_type X.1 a = some (r, σ) ∧ f_X10_type m a = some (b, m') ∧ AGR [0, 1] r b m' ∧ REL (σ, X.2) m' := by
  obtain ⟨D, V, E, P, S, t, T, R, h⟩ := h
  have h8 := (INV_ok h).1.1
  have h7 := (INV_ok h).1.2
  have h5 := h.2.2.1
  have hx := h.1.2.2.2.2.2.1
  have e7 : ((7 : Int32) ≤ nI t.length) = (7 ≤ t.length) := propext (nI_leI (a := 7) (by omega) (by omega))
  have e7' : (nI t.length < (7 : Int32)) = (t.length < 7) := propext (nI_ltI (b := 7) (by omega) (by omega))
  unfold f_X9_type f_X10_type f_X10_type_19
  rw [h5.1]
  simp only [e7]
  rcases rL a with ⟨l, hl, rfl, e1, e2⟩ | ⟨e1, e2⟩
  · simp only [e1, e2, hx, X8_length h8 h7, exq_i, exq_n, bno_s, lt_e, b2t, b2f, g_ttt, g_f, g_tf, g_ttf, if_b, it_, ff_, if_true, if_false, i10, i00, e7']
    by_cases c : t.length < 7
    · have h8' : lt8 (t ++ [l]) := by
        intro x hx
        rcases List.mem_append.mp hx with hx | hx
        · exact h8 x hx
        · rw [List.mem_singleton.mp hx]; exact hl
      have hlen : (t ++ [l]).length = t.length + 1 := by simp
      have e8 : f_X8_length (gi (si X.1 0 (nI (pk (t ++ [l])))) 0) = some (nI (t.length + 1)) := by
        rw [gi_si, X8_length h8' (by omega), hlen]
      have g5 : gi (si m 3 0) 5 = nI t.length := h5.1
      rw [if_pos c, if_neg (by omega), X8_append h8 c hl]
      simp only [bno_s]
      rw [e8, bno_s, g5, ixo_nI (by omega) (by omega), nI_clamp (by omega)]
      refine ⟨_, _, _, _, rfl, rfl, Or.inl ⟨?_, rfl⟩, ⟨D, V, E, P, S, t ++ [l], T, R, ?_⟩⟩
      · show Sum.inr (nI (t.length + 1)) = Sum.inr (gi (si m 3 0) 5 + 1)
        rw [g5, nI_1]
      · obtain ⟨a1, a2, a3, a4, a5, a6⟩ := h
        obtain ⟨b1, b2, b3, b4, b5, b6, b7, b8⟩ := a1
        refine ⟨⟨b1, b2, b3, b4, b5, rfl, b7, b8⟩, a2, ⟨?_, ⟨h8', by omega⟩, ?_⟩, a4, a5, a6⟩
        · show gi (si m 3 0) 5 + 1 = _
          rw [g5, nI_1, hlen]
        · intro i x hi
          show (if i = t.length then nI l else ga m 4 i) = nI x
          by_cases c2 : i = t.length
          · rw [if_pos c2]
            rw [c2] at hi
            simp at hi
            rw [hi]
          · rw [if_neg c2]
            have hil := (List.getElem?_eq_some_iff.mp hi).1
            rw [List.getElem?_append_left (by omega)] at hi
            exact h5.2.2 i x hi
    · rw [if_neg c, if_pos (by omega)]
      exact ⟨_, _, _, _, rfl, rfl, Or.inr ⟨1, rfl, by simp, rfl⟩, ⟨D, V, E, P, S, t, T, R, INV_thr h 2⟩⟩
  · simp only [e1, e2, exq_i, exq_n, bno_s, lt_e, b2t, b2f, g_ttt, g_f, g_tf, g_ttf, if_b, it_, ff_, if_true, if_false, i10, i00, ite_self]
    exact ⟨_, _, _, _, rfl, rfl, Or.inr ⟨0, rfl, by simp, rfl⟩, ⟨D, V, E, P, S, t, T, R, INV_thr h 1⟩⟩
/-- clearText -/
theorem M_clear (h : REL X m) : ∃ b σ m', f_X9_clearText X.1 = some (b, σ) ∧ f_X10_clearText m = some (b, m') ∧ REL (σ, X.2) m' := by
  obtain ⟨D, V, E, P, S, t, T, R, h⟩ := h
  have h8 := (INV_ok h).1.1
  have h7 := (INV_ok h).1.2
  have h5 := h.2.2.1
  have hx := h.1.2.2.2.2.2.1
  have g5 : gi (si m 3 0) 5 = nI t.length := h5.1
  unfold f_X9_clearText f_X10_clearText
  rw [hx, X8_length h8 h7, bno_s, lt_e, lt_e, lt_e, g5]
  refine ⟨_, _, _, rfl, rfl, ⟨D, V, E, P, S, [], T, R, ?_⟩⟩
  obtain ⟨a1, a2, a3, a4, a5, a6⟩ := h
  obtain ⟨b1, b2, b3, b4, b5, b6, b7, b8⟩ := a1
  exact ⟨⟨b1, b2, b3, b4, b5, rfl, b7, b8⟩, a2, ⟨rfl, ⟨(by intro x hx; cases hx), Nat.zero_le 7⟩, (by intro i x hi; simp at hi)⟩, a4, a5, a6⟩
/-- lookUp -/
theorem M_look (h : REL X m) : ∃ b m', f_X9_lookUp X.1 = some b ∧ f_X10_lookUp m = some (b, m') ∧ REL X m' := by
  obtain ⟨D, V, E, P, S, t, T, R, h⟩ := h
  obtain ⟨m1, e1, hW, f1⟩ := X10_takesText (t := t) (σ := si m 3 0) h.2.2.1
  have hi := INV_FR (INV_thr h 0) f1 (by decide) (by decide) (by decide) (by decide) (by decide)
  unfold f_X9_lookUp f_X10_lookUp
  rw [h.1.2.2.2.2.2.1, X1_numberOf h.1.1 (INV_ok h).1, bno_s, lt_e, e1, bno_s, X10_foundAt hi.2.1.1 hW, bno_s]
  exact ⟨_, _, rfl, rfl, ⟨D, V, E, P, S, t, T, R, hi⟩⟩
/-- tileAt -/
theorem M_tileAt (h : REL X m) (a b : Int32) : ∃ r σ c m', f_X9_tileAt X.1 a b = some (r, σ) ∧ f_X10_tileAt m a b = some (c, m') ∧ AGR [2] r c m' ∧ REL (σ, X.2) m' := by
  obtain ⟨D, V, E, P, S, t, T, R, h⟩ := h
  have hi0 := INV_thr h 0
  have hi1 := INV_thr h 1
  unfold f_X9_tileAt f_X10_tileAt
  rcases rQ a b with ⟨r, c, hr, hc, rfl, rfl, e1, e2⟩ | ⟨e1, e2⟩
  · have ea : (257 : Int32) + 7 * nI r + nI c = nI (257 + (7 * r + c)) := by
      simp only [L257, L7, iI_nI, iI_mul, iI_add]
      congr 1 <;> omega
    simp only [e1, e2, X9_squareOf hr hc, exq_i, exq_n, bno_s, lt_e, b2t, b2f, g_ttt, g_f, g_tf, g_ttf, if_b, it_, ff_, if_true, if_false, i10, i00]
    rw [sq_letter h.1.2.2.2.2.2.2.1 hr (by omega), bno_s, ea, ixo_nI (by omega) (by omega), nI_clamp (by omega)]
    refine ⟨_, _, _, _, rfl, rfl, Or.inl ⟨?_, rfl⟩, ⟨D, V, E, P, S, t, T, R, hi0⟩⟩
    show Sum.inr (enc (M T 0 r c)) = Sum.inr (ga m 0 (257 + (7 * r + c)))
    rw [h.2.1.2.2.2.2.2.1.2 r c hr hc]
    rfl
  · simp only [e1, e2, exq_i, exq_n, bno_s, lt_e, b2t, b2f, g_ttt, g_f, g_tf, g_ttf, if_b, it_, ff_, if_true, if_false, i10, i00]
    exact ⟨_, _, _, _, rfl, rfl, Or.inr ⟨2, rfl, by simp, rfl⟩, ⟨D, V, E, P, S, t, T, R, hi1⟩⟩
/-- onRack -/
theorem M_onRack (h : REL X m) (a b : Int32) : ∃ r σ c m', f_X9_onRack X.1 a b = some (r, σ) ∧ f_X10_onRack m a b = some (c, m') ∧ AGR [2, 0] r c m' ∧ REL (σ, X.2) m' := by
  obtain ⟨D, V, E, P, S, t, T, R, h⟩ := h
  have hk := (INV_ok h).2
  unfold f_X9_onRack f_X10_onRack
  rcases rP a with ⟨p, hp, rfl, e1, e2⟩ | ⟨e1, e2⟩
  · rcases rL b with ⟨l, hl, rfl, e3, e4⟩ | ⟨e3, e4⟩
    · have ea : (355 : Int32) + 8 * nI p + nI l = nI (355 + (8 * p + l)) := by
        simp only [L355, L8, iI_nI, iI_mul, iI_add]
        congr 1 <;> omega
      simp only [e1, e2, e3, e4, exq_i, exq_n, bno_s, lt_e, b2t, b2f, g_ttt, g_f, g_tf, g_ttf, if_b, it_, ff_, if_true, if_false, i10, i00, X7_rack h.1.2.2.2.2.2.2.2 hp, X4_count (hk p hp) hl]
      rw [ea, ixo_nI (by omega) (by omega), nI_clamp (by omega)]
      refine ⟨_, _, _, _, rfl, rfl, Or.inl ⟨?_, rfl⟩, ⟨D, V, E, P, S, t, T, R, INV_thr h 0⟩⟩
      show Sum.inr (nI (R p l)) = Sum.inr (ga m 0 (355 + (8 * p + l)))
      rw [h.2.1.2.2.2.2.2.2 p l hp hl]
    · simp only [e1, e2, e3, e4, exq_i, exq_n, bno_s, lt_e, b2t, b2f, g_ttt, g_f, g_tf, g_ttf, if_b, it_, ff_, if_true, if_false, i10, i00]
      exact ⟨_, _, _, _, rfl, rfl, Or.inr ⟨0, rfl, by simp, rfl⟩, ⟨D, V, E, P, S, t, T, R, INV_thr h 2⟩⟩
  · obtain ⟨q, e4⟩ : ∃ q, f_X10_isLetter b = some q := by
      rcases rL b with ⟨l, _, _, _, e4⟩ | ⟨_, e4⟩
      · exact ⟨_, e4⟩
      · exact ⟨_, e4⟩
    simp only [e1, e2, e4, exq_i, exq_n, bno_s, lt_e, b2t, b2f, g_ttt, g_f, g_tf, g_ttf, if_b, it_, ff_, if_true, if_false, i10, i00]
    exact ⟨_, _, _, _, rfl, rfl, Or.inr ⟨2, rfl, by simp, rfl⟩, ⟨D, V, E, P, S, t, T, R, INV_thr h 1⟩⟩
/-- score -/
theorem M_score (h : REL X m) (a : Int32) : ∃ r σ c m', f_X9_score X.1 a = some (r, σ) ∧ f_X10_score m a = some (c, m') ∧ AGR [2] r c m' ∧ REL (σ, X.2) m' := by
  obtain ⟨D, V, E, P, S, t, T, R, h⟩ := h
  unfold f_X9_score f_X10_score
  rcases rP a with ⟨p, hp, rfl, e1, e2⟩ | ⟨e1, e2⟩
  · have ea : (371 : Int32) + nI p = nI (371 + p) := nI_add 371 p
    simp only [e1, e2, X7_points h.1.2.2.2.2.1 hp, exq_i, exq_n, bno_s, lt_e, b2t, b2f, g_ttt, g_f, g_tf, g_ttf, if_b, it_, ff_, if_true, if_false, i10, i00]
    rw [ea, ixo_nI (by omega) (by omega), nI_clamp (by omega)]
    refine ⟨_, _, _, _, rfl, rfl, Or.inl ⟨?_, rfl⟩, ⟨D, V, E, P, S, t, T, R, INV_thr h 0⟩⟩
    show Sum.inr (S p) = Sum.inr (ga m 0 (371 + p))
    rw [h.2.1.2.2.2.2.1 p hp]
  · simp only [e1, e2, exq_i, exq_n, bno_s, lt_e, b2t, b2f, g_ttt, g_f, g_tf, g_ttf, if_b, it_, ff_, if_true, if_false, i10, i00]
    exact ⟨_, _, _, _, rfl, rfl, Or.inr ⟨2, rfl, by simp, rfl⟩, ⟨D, V, E, P, S, t, T, R, INV_thr h 1⟩⟩
/-- a square as line and place along a direction -/
def lA (d r c : Nat) : Nat := if d = 0 then r else c
def lB (d r c : Nat) : Nat := if d = 0 then c else r
theorem l_bd {d r c : Nat} (hr : r < 7) (hc : c < 7) : lA d r c < 7 ∧ lB d r c < 7 := by
  unfold lA lB
  split <;> omega
theorem l_RW {d : Nat} (r c : Nat) : RW d (lA d r c) (lB d r c) = r ∧ CL d (lA d r c) (lB d r c) = c := by
  unfold RW CL lA lB
  by_cases k : d = 0
  · simp only [if_pos k]
    exact ⟨trivial, trivial⟩
  · simp only [if_neg k]
    exact ⟨trivial, trivial⟩
theorem l_M (T : Bd) {d : Nat} (r c : Nat) : M T d (lA d r c) (lB d r c) = T r c := by
  unfold M lA lB
  by_cases k : d = 0
  · simp only [if_pos k]
  · simp only [if_neg k]
theorem l_of {d r c : Nat} (hd : d < 2) (hr : r < 7) (hc : c < 7) : f_X6_of (nI d) (nI r) (nI c) = some (nI (stn d (lA d r c) (lB d r c))) := by
  have hb := l_bd (d := d) hr hc
  have e := of_all d hd (lA d r c) hb.1 (lB d r c) hb.2
  have hl := l_RW (d := d) r c
  unfold RW CL at hl
  rw [hl.1, hl.2] at e
  exact e
/-- crossSet -/
theorem M_crossSet (h : REL X m) (a b d : Int32) : ∃ r σ c m', f_X9_crossSet X.1 a b d = some (r, σ) ∧ f_X10_crossSet m a b d = some (c, m') ∧ AGR [2, 0] r c m' ∧ REL (σ, X.2) m' := by
  obtain ⟨D, V, E, P, S, t, T, R, h⟩ := h
  unfold f_X9_crossSet f_X10_crossSet
  rcases rQ a b with ⟨r, c, hr, hc, rfl, rfl, e1, e2⟩ | ⟨e1, e2⟩
  · rcases rD d with ⟨d, hd, rfl, e3, e4⟩ | ⟨e3, e4⟩
    · obtain ⟨m1, e5, hPB, hi, f1⟩ := INV_PB (INV_thr h 0)
      have hb := l_bd (d := d) hr hc
      have ht : f_X10_hasTile m1 (nI r) (nI c) = some (T r c).isSome := by
        rw [iI_nI, iI_nI]
        exact X10_hasTile hPB.2.2.2.2.1 (by omega) (by omega) (by omega) (by omega)
      simp only [e1, e2, e3, e4, exq_i, exq_n, bno_s, lt_e, b2t, b2f, g_ttt, g_f, g_tf, g_ttf, if_b, it_, ff_, if_true, if_false, i10, i00, l_of hd hr hc, X5_crossLetters h.1.1 h.1.2.2.2.2.2.2.1 hd hb.1 hb.2, e5, ht, l_M]
      cases eT : T r c with
      | some y =>
        have hs : (some y).isSome = true := rfl
        simp only [if_pos hs]
        refine ⟨_, _, _, _, rfl, rfl, Or.inl ⟨rfl, ?_⟩, ⟨D, V, E, P, S, t, T, R, hi⟩⟩
        rw [f1.1 3 (by decide)]
        rfl
      | none =>
        have hM : M T (1 - d) (lB d r c : Nat) (lA d r c : Nat) = none := by rw [← M_turn hd, l_M]; exact eT
        obtain ⟨m2, e6, f2⟩ := X10_crossOf (σ := m1) hd hb.1 hb.2 hM hPB.1 hPB.2.2.2.2.1
        have hl := l_RW (d := d) r c
        rw [hl.1, hl.2] at e6
        have hs : ¬ ((none : Option Nat).isSome = true) := by simp
        simp only [if_neg hs, e6, exq_i, exq_n, bno_s, lt_e, b2t, b2f, g_ttt, g_f, g_tf, g_ttf, if_b, it_, ff_, if_true, if_false]
        refine ⟨_, _, _, _, rfl, rfl, Or.inl ⟨rfl, ?_⟩, ⟨D, V, E, P, S, t, T, R, INV_FR hi f2 (by decide) (by decide) (by decide) (by decide) (by decide)⟩⟩
        rw [f2.1 3 (by decide), f1.1 3 (by decide)]
        rfl
    · simp only [e1, e2, e3, e4, exq_i, exq_n, bno_s, lt_e, b2t, b2f, g_ttt, g_f, g_tf, g_ttf, if_b, it_, ff_, if_true, if_false, i10, i00]
      exact ⟨_, _, _, _, rfl, rfl, Or.inr ⟨0, rfl, by simp, rfl⟩, ⟨D, V, E, P, S, t, T, R, INV_thr h 2⟩⟩
  · obtain ⟨q, e4⟩ : ∃ q, f_X10_in d.toInt64 0 1 = some q := by
      rcases rD d with ⟨_, _, _, _, e4⟩ | ⟨_, e4⟩
      · exact ⟨_, e4⟩
      · exact ⟨_, e4⟩
    simp only [e1, e2, e4, exq_i, exq_n, bno_s, lt_e, b2t, b2f, g_ttt, g_f, g_tf, g_ttf, if_b, it_, ff_, if_true, if_false, i10, i00]
    exact ⟨_, _, _, _, rfl, rfl, Or.inr ⟨2, rfl, by simp, rfl⟩, ⟨D, V, E, P, S, t, T, R, INV_thr h 1⟩⟩
/-- anchors -/
theorem M_anchors (h : REL X m) : ∃ b m', f_X9_anchors X.1 = some b ∧ f_X10_anchors m = some (b, m') ∧ REL X m' := by
  obtain ⟨D, V, E, P, S, t, T, R, h⟩ := h
  obtain ⟨m1, e5, hPB, hi, f1⟩ := INV_PB (INV_thr h 0)
  unfold f_X10_anchors
  rw [X9_anchors h.1.2.2.2.2.2.2.1, lt_e, e5, bno_s, X10_anchorsNow hPB.2.2.2.2.1, bno_s]
  exact ⟨_, _, rfl, rfl, ⟨D, V, E, P, S, t, T, R, hi⟩⟩
/-- isAnchor -/
theorem M_isAnchor (h : REL X m) (a b : Int32) : ∃ (r : Nat ⊕ Bool) (σ : St) (c : Bool) (m' : St), f_X9_isAnchor X.1 a b = some (r, σ) ∧ f_X10_isAnchor m a b = some (c, m') ∧ ((r = .inr c ∧ gi m' 3 = 0) ∨ (r = .inl 2 ∧ gi m' 3 = 1)) ∧ REL (σ, X.2) m' := by
  obtain ⟨D, V, E, P, S, t, T, R, h⟩ := h
  obtain ⟨m1, e5, hPB, hi, f1⟩ := INV_PB h
  obtain ⟨k, ek, hk⟩ := X0_anchorSquares h.1.2.2.2.2.2.2.1
  unfold f_X9_isAnchor f_X10_isAnchor
  rw [e5, bno_s]
  rcases rQ a b with ⟨r, c, hr, hc, rfl, rfl, e1, e2⟩ | ⟨e1, e2⟩
  · have hB : BR T (ga (si m1 3 0) 8) := hPB.2.2.2.2.1
    have e8 : iI (adr 0 r c) = nI (8 * r + c) := by
      unfold adr
      rw [if_pos rfl, iI_nI]
      congr 1
    have hb := hk (8 * r + c) (by omega)
    rw [show (8 * r + c) % 8 = c by omega, show (8 * r + c) / 8 = r by omega, decide_eq_true ⟨hc, hr⟩, Bool.true_and] at hb
    simp only [e1, e2, ek, X9_squareOf hr hc, e8, exq_i, exq_n, bno_s, lt_e, b2t, b2f, g_ttt, g_f, g_tf, g_ttf, if_b, it_, ff_, if_true, if_false, i10, i00, X10_isAnchorNow hB hr hc, cmp_0, lb_bit0]
    rw [lb_shr (by omega), Nat.add_zero, hb]
    cases isA T r c with
    | true => exact ⟨_, _, _, _, rfl, rfl, Or.inl ⟨rfl, rfl⟩, ⟨D, V, E, P, S, t, T, R, INV_thr hi 0⟩⟩
    | false => exact ⟨_, _, _, _, rfl, rfl, Or.inl ⟨rfl, rfl⟩, ⟨D, V, E, P, S, t, T, R, INV_thr hi 0⟩⟩
  · simp only [e1, e2, exq_i, exq_n, bno_s, lt_e, b2t, b2f, g_ttt, g_f, g_tf, g_ttf, if_b, it_, ff_, if_true, if_false, i10, i00]
    exact ⟨_, _, _, _, rfl, rfl, Or.inr ⟨rfl, rfl⟩, ⟨D, V, E, P, S, t, T, R, INV_thr hi 1⟩⟩
end
