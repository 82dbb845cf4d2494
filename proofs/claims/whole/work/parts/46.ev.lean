/-! ===== the endgame as a tree: its value and how many positions it has ===== -/
def mxI (a b : Int32) : Int32 := if a < b then b else a
def mu (R : Nat → Nat → Nat) (q : Nat) : Nat := 2 * (tot (R 0) + tot (R 1)) + (2 - q)
def fin (V : Nat → Int32) (R : Nat → Nat → Nat) (m : Nat) : Int32 := if tot (R m) = 0 then 2 * vlR V (R (1 - m)) else if tot (R (1 - m)) = 0 then -2 * vlR V (R m) else vlR V (R (1 - m)) - vlR V (R m)
def fo (g : Nat → Int32 × Nat) : List Nat → Int32 × Nat → Int32 × Nat
  | [], a => a
  | x :: L, a => fo g L (mxI a.1 (g x).1, a.2 + (g x).2)
def ev (D : List (List Nat)) (V : Nat → Int32) (P : Nat → Nat → Int32) : Nat → Bd → (Nat → Nat → Nat) → Nat → Nat → Int32 × Nat
  | 0, _, _, _, _ => (0, 1)
  | n + 1, T, R, m, q => if tot (R 0) = 0 ∨ tot (R 1) = 0 ∨ 2 ≤ q then (fin V R m, 1) else
    fo (fun x => (pts D V T P x - (ev D V P n (lyx D T x) (updR R m (rem D T (R m) x)) (1 - m) 0).1, (ev D V P n (lyx D T x) (updR R m (rem D T (R m) x)) (1 - m) 0).2)) (fl (lc D T (R m)) 4096 0) (-(ev D V P n T R (1 - m) (q + 1)).1, 1 + (ev D V P n T R (1 - m) (q + 1)).2)
def chv (D : List (List Nat)) (V : Nat → Int32) (P : Nat → Nat → Int32) (n : Nat) (T : Bd) (R : Nat → Nat → Nat) (m : Nat) (x : Nat) : Int32 × Nat := (pts D V T P x - (ev D V P n (lyx D T x) (updR R m (rem D T (R m) x)) (1 - m) 0).1, (ev D V P n (lyx D T x) (updR R m (rem D T (R m) x)) (1 - m) 0).2)
theorem fo_cnt (g : Nat → Int32 × Nat) : ∀ (L : List Nat) (a : Int32) (k : Nat), k ≤ (fo g L (a, k)).2 ∧ ∀ b j, (fo g L (b, k + j)).2 = (fo g L (a, k)).2 + j
  | [], _, _ => ⟨Nat.le_refl _, fun _ _ => rfl⟩
  | x :: L, a, k => by
    have h := fo_cnt g L (mxI a (g x).1) (k + (g x).2)
    refine ⟨?_, ?_⟩
    · show k ≤ (fo g L (mxI a (g x).1, k + (g x).2)).2
      have := h.1
      omega
    · intro b j
      show (fo g L (mxI b (g x).1, k + j + (g x).2)).2 = (fo g L (mxI a (g x).1, k + (g x).2)).2 + j
      rw [show k + j + (g x).2 = k + (g x).2 + j by omega]
      exact h.2 _ _
theorem ev_pos {D : List (List Nat)} {V : Nat → Int32} {P : Nat → Nat → Int32} : ∀ (n : Nat) (T : Bd) (R : Nat → Nat → Nat) (m q : Nat), 1 ≤ (ev D V P n T R m q).2
  | 0, _, _, _, _ => Nat.le_refl _
  | n + 1, T, R, m, q => by
    rw [ev]
    by_cases c : tot (R 0) = 0 ∨ tot (R 1) = 0 ∨ 2 ≤ q
    · rw [if_pos c]
      exact Nat.le_refl _
    · rw [if_neg c]
      exact Nat.le_trans (Nat.le_add_right 1 _) (fo_cnt _ _ _ _).1
theorem one_sub : ∀ m, m < 2 → (1 : Int32) - nI m = nI (1 - m) := by decide +kernel
section
variable {D : List (List Nat)} {V E : Nat → Int32} {P : Nat → Nat → Int32} {S : Nat → Int32} {t : List Nat} {T : Bd} {R : Nat → Nat → Nat} {σ : St}
theorem X2_isOut (hR : KC R σ) {p : Nat} (hp : p < 2) : f_X2_isOut σ (nI p) = some (decide (tot (R p) = 0)) := by
  have hk := (hR p hp).1
  have hb := pr_lt hk
  unfold f_X2_isOut
  rw [X7_rack hR hp, bno_s]
  have e1 : (nI (pr (R p)) = (0 : Int32)) = (tot (R p) = 0) := propext ((nI_eq (b := 0) (by omega) (by omega)).trans (pr_0 hk))
  simp only [e1]
  by_cases c : tot (R p) = 0
  · rw [if_pos c, decide_eq_true c]
  · rw [if_neg c, decide_eq_false c]
theorem X2_hasEnded (hR : KC R σ) {q : Nat} (hq : q ≤ 2) : f_X2_hasEnded σ (nI q) = some (decide (tot (R 0) = 0 ∨ tot (R 1) = 0 ∨ 2 ≤ q)) := by
  have o0 : f_X2_isOut σ 0 = _ := X2_isOut hR (p := 0) (by omega)
  have o1 : f_X2_isOut σ 1 = _ := X2_isOut hR (p := 1) (by omega)
  have e1 : (nI q < (2 : Int32)) = (q < 2) := propext (nI_ltI (b := 2) (by omega) (by omega))
  unfold f_X2_hasEnded f_X2_hasEnded_21
  rw [o0, bno_s, if_b, o1, bno_s, if_b]
  simp only [e1]
  by_cases c0 : tot (R 0) = 0
  · rw [decide_eq_true c0, if_pos rfl, decide_eq_true (Or.inl c0)]
  · rw [decide_eq_false c0, if_neg (by simp)]
    by_cases c1 : tot (R 1) = 0
    · rw [decide_eq_true c1, if_pos rfl, decide_eq_true (Or.inr (Or.inl c1))]
    · rw [decide_eq_false c1, if_neg (by simp)]
      by_cases c2 : q < 2
      · rw [if_pos c2, decide_eq_false (by omega)]
      · rw [if_neg c2, decide_eq_true (by omega)]
theorem X2_final (hV : VC V σ) (hR : KC R σ) {m : Nat} (hm : m < 2) : f_X2_finalDifference σ (nI m) = some (fin V R m) := by
  unfold f_X2_finalDifference fin
  rw [one_sub m hm, X7_valueOfRack hV hR hm, bno_s, X7_valueOfRack hV hR (show 1 - m < 2 by omega), bno_s, X2_isOut hR hm, bno_s, if_b, X2_isOut hR (show 1 - m < 2 by omega), bno_s, if_b]
  by_cases c0 : tot (R m) = 0
  · rw [decide_eq_true c0, if_pos rfl, if_pos c0]
  · rw [decide_eq_false c0, if_neg (by simp), if_neg c0]
    by_cases c1 : tot (R (1 - m)) = 0
    · rw [decide_eq_true c1, if_pos rfl, if_pos c1]
    · rw [decide_eq_false c1, if_neg (by simp), if_neg c1]
theorem X2_hasFailed {k : Nat} (hk : k ≤ 401) (h : gi σ 2 = nI k) : f_X2_hasFailed σ = some (decide (400 < k)) := by
  have e1 : (nI k ≤ (400 : Int32)) = (k ≤ 400) := propext (nI_leI (b := 400) (by omega) (by omega))
  unfold f_X2_hasFailed
  rw [h]
  simp only [e1]
  by_cases c : k ≤ 400
  · rw [if_pos c, decide_eq_false (by omega)]
  · rw [if_neg c, decide_eq_true (by omega)]
theorem mu_play {q : Nat} (hq : q < 2) {m : Nat} (hm : m < 2) {r : Nat → Nat} (h : tot r < tot (R m)) : mu (updR R m r) 0 < mu R q := by
  unfold mu updR
  rcases (by omega : m = 0 ∨ m = 1) with rfl | rfl
  · rw [if_pos rfl, if_neg (by omega)]
    omega
  · rw [if_neg (by omega), if_pos rfl]
    omega
/-- what is known of a play of the class's list -/
theorem lc_known (hD : ∀ t ∈ D, okW t ∧ 2 ≤ t.length) {Rp : Nat → Nat} {x : Nat} (hx : x < 4096) (h : lc D T Rp x = true) : ∃ u r, D[x % 32]? = some u ∧ xd x < 2 ∧ xa x < 7 ∧ xb x < 7 ∧ x = stn (xd x) (xa x) (xb x) * 32 + x % 32 ∧ lt8 u ∧ xb x + u.length ≤ 7 ∧ agr (M T (xd x) (xa x)) (xb x) u = true ∧ tk Rp (frs (M T (xd x) (xa x)) (xb x) u) = some r ∧ rem D T Rp x = r ∧ lyx D T x = layT T (xd x) (xa x) (xb x) u ∧ tot r < tot Rp := by
  obtain ⟨u, hu, h1, h2, h3, h4, h5⟩ := lc_true hx h
  obtain ⟨_, g2, _, g4, g5, g6, _, _⟩ := rsn_0.mp h5
  obtain ⟨⟨u8, u7⟩, _⟩ := hD u (List.mem_of_getElem? hu)
  cases et : tk Rp (frs (M T (xd x) (xa x)) (xb x) u) with
  | none => exact absurd et g6
  | some r =>
    have ht := tk_ok _ _ _ (frs_lt8 _ u _ u8) et
    have hl : 0 < (frs (M T (xd x) (xa x)) (xb x) u).length := List.length_pos_iff.mpr g5
    refine ⟨u, r, hu, h1, h2, h3, h4, u8, g2, g4, et, ?_, ?_, by omega⟩
    · unfold rem
      rw [hu]
      show (tk Rp (frs (M T (xd x) (xa x)) (xb x) u)).getD Rp = r
      rw [et]
      rfl
    · unfold lyx
      rw [hu]
      rfl
theorem X2_bd : ∀ (n : Nat) (T : Bd) (R : Nat → Nat → Nat) (m q dep : Nat) (σ : St) (k : Nat), mu R q < n → dep + mu R q ≤ 40 → m < 2 → q ≤ 2 → CB D V E P S t T R σ → gi σ 2 = nI k → k ≤ 400 →
    ∃ v σ', f_bd n σ (nI m) (nI q) (nI dep) = some (v, σ') ∧ CB D V E P S t T R σ' ∧ ((k + (ev D V P n T R m q).2 ≤ 400 ∧ v = (ev D V P n T R m q).1 ∧ gi σ' 2 = nI (k + (ev D V P n T R m q).2)) ∨ (400 < k + (ev D V P n T R m q).2 ∧ gi σ' 2 = nI 401)) := by
  intro n
  induction n with
  | zero =>
    intro T R m q dep σ k hmu
    omega
  | succ n ih =>
    intro T R m q dep σ k hmu hdep hm hq h hk hk4
    obtain ⟨hD, hV, hE, hP, hS, hx, hO, hR⟩ := id h
    -- the loop over the plays
    have loop : q < 2 → ¬ (tot (R 0) = 0 ∨ tot (R 1) = 0 ∨ 2 ≤ q) → ∀ (L : List Nat) (i N : Nat) (best : Int32) (σ : St) (k : Nat), isS (lc D T (R m)) L → i + L.length ≤ 4096 → L.length < N → CB D V E P S t T R σ → gi σ 2 = nI k → k ≤ 401 →
        ∃ v σ', f_X2_bestDifference_66 (f_bd n) N σ (nI m) (nI dep) best (hd L) (nI i) = some (v, σ') ∧ CB D V E P S t T R σ' ∧ (((fo (chv D V P n T R m) L (best, k)).2 ≤ 400 ∧ v = (fo (chv D V P n T R m) L (best, k)).1 ∧ gi σ' 2 = nI (fo (chv D V P n T R m) L (best, k)).2) ∨ (400 < (fo (chv D V P n T R m) L (best, k)).2 ∧ gi σ' 2 = nI 401)) := by
      intro hq2 hne L
      induction L with
      | nil =>
        intro i N best σ k hL hi hN h hk hk4
        obtain ⟨N, rfl⟩ : ∃ j, N = j + 1 := ⟨N - 1, by omega⟩
        have hdn : hd [] = -1 := rfl
        rw [f_X2_bestDifference_66, if_pos hdn]
        refine ⟨best, σ, ?_, h, ?_⟩
        · by_cases c : (4096 : Int32) ≤ nI i
          · rw [if_pos c]
          · rw [if_neg c]
        · by_cases c : k ≤ 400
          · exact Or.inl ⟨c, rfl, hk⟩
          · have : k = 401 := by omega
            subst this
            exact Or.inr ⟨by show 400 < 401; omega, hk⟩
      | cons x L ihL =>
        intro i N best σ k hL hi hN h hk hk4
        obtain ⟨N, rfl⟩ : ∃ j, N = j + 1 := ⟨N - 1, by omega⟩
        have hi2 : i + (L.length + 1) ≤ 4096 := hi
        have h1 := isS_cons hL
        have c : ¬ (4096 : Int32) ≤ nI i := nI_ge (b := 4096) (by omega) (by omega)
        obtain ⟨hD, hV, hE, hP, hS, hx, hO, hR⟩ := id h
        rw [f_X2_bestDifference_66, if_neg c, if_neg (show ¬ hd (x :: L) = -1 from nI_nm1 (by omega)), X2_hasFailed hk4 hk, bno_s, if_b]
        by_cases c4 : 400 < k
        · rw [decide_eq_true c4, if_pos rfl]
          refine ⟨best, σ, rfl, h, Or.inr ⟨?_, by rw [hk]; congr 1; omega⟩⟩
          exact Nat.lt_of_lt_of_le c4 (fo_cnt _ _ _ _).1
        · rw [decide_eq_false c4, if_neg (by simp)]
          obtain ⟨u, r, hu, a1, a2, a3, a4, u8, a5, a6, a7, a8, a9, a10⟩ := lc_known (T := T) hD.2.2.1 h1.1 h1.2.1
          have hR0 : ∀ y, y < 2 → okR (R y) := fun y hy => (hR y hy).1
          obtain ⟨mk, σ1, e1, b1, b2, b3⟩ := X5_lay h hm a1 a2 a3 hu a5 a7
          rw [← a4] at e1
          have hmu2 : mu (updR R m r) 0 < mu R q := mu_play hq2 hm a10
          obtain ⟨v4, σ2, e2, d1, d2⟩ := ih (layT T (xd x) (xa x) (xb x) u) (updR R m r) (1 - m) 0 (dep + 1) σ1 k (by omega) (by omega) (by omega) (by omega) b1 (by rw [b3]; exact hk) (by omega)
          obtain ⟨σ3, e3, g1, g2⟩ := X0_takeAway hO.1 a2 u8 a5 a6 b2 d1
          obtain ⟨σ4, e4, j1, _, j2, _⟩ := X7_changeRack g1 hm (hR m hm).1
          have j1' : CB D V E P S t T R σ4 := by
            rw [updR_same, updR_self] at j1
            exact j1
          have hpts := X5_pts hD hO hV hP h1.1 h1.2.1
          have hap : f_X2_afterPlay (f_bd n) σ (nI m) (nI x) (nI dep) = some (pts D V T P x - v4, σ4) := by
            unfold f_X2_afterPlay
            rw [hpts, bno_s, X7_rack hR hm, bno_s, e1, bno_s, one_sub m hm, nI_1]
            show bno (f_bd n σ1 (nI (1 - m)) (nI 0) (nI (dep + 1))) _ = _
            rw [e2, bno_s, e3, bno_s, e4, bno_s]
          have hnx := X5_nx j1'.1 j1'.2.2.2.2.2.2.1 j1'.2.2.2.2.2.2.2 hm hL
          show ∃ v σ', bno (f_X2_afterPlay (f_bd n) σ (nI m) (nI x) (nI dep)) _ = _ ∧ _
          rw [hap, bno_s]
          show ∃ v σ', bno (f_X5_nextPlay σ4 (nI m) (nI x + 1)) _ = _ ∧ _
          rw [hnx, bno_s, nI_1 i]
          have ech : ev D V P n (layT T (xd x) (xa x) (xb x) u) (updR R m r) (1 - m) 0 = ev D V P n (lyx D T x) (updR R m (rem D T (R m) x)) (1 - m) 0 := by rw [a8, a9]
          have gi4 : gi σ4 2 = gi σ2 2 := by rw [j2, g2]
          rcases d2 with ⟨d3, d4, d5⟩ | ⟨d3, d5⟩
          · obtain ⟨v, σ', f1, f2, f3⟩ := ihL (i + 1) N (mxI best (pts D V T P x - v4)) σ4 (k + (ev D V P n (layT T (xd x) (xa x) (xb x) u) (updR R m r) (1 - m) 0).2) h1.2.2.1 (by omega) (by simp at hN; omega) j1' (by rw [gi4]; exact d5) (by omega)
            refine ⟨v, σ', f1, f2, ?_⟩
            show ((fo (chv D V P n T R m) L (mxI best (chv D V P n T R m x).1, k + (chv D V P n T R m x).2)).2 ≤ 400 ∧ _) ∨ _
            have ec : chv D V P n T R m x = (pts D V T P x - v4, (ev D V P n (layT T (xd x) (xa x) (xb x) u) (updR R m r) (1 - m) 0).2) := by
              unfold chv
              rw [← ech, d4]
            rw [ec]
            have efo : fo (chv D V P n T R m) (x :: L) (best, k) = fo (chv D V P n T R m) L (mxI best (pts D V T P x - v4), k + (ev D V P n (layT T (xd x) (xa x) (xb x) u) (updR R m r) (1 - m) 0).2) := by
              show fo (chv D V P n T R m) L (mxI best (chv D V P n T R m x).1, k + (chv D V P n T R m x).2) = _
              rw [ec]
            rw [efo]
            exact f3
          · obtain ⟨v, σ', f1, f2, f3⟩ := ihL (i + 1) N (mxI best (pts D V T P x - v4)) σ4 401 h1.2.2.1 (by omega) (by simp at hN; omega) j1' (by rw [gi4]; exact d5) (by omega)
            refine ⟨v, σ', f1, f2, Or.inr ⟨?_, ?_⟩⟩
            · show 400 < (fo (chv D V P n T R m) L (mxI best (chv D V P n T R m x).1, k + (chv D V P n T R m x).2)).2
              have := (fo_cnt (chv D V P n T R m) L (mxI best (chv D V P n T R m x).1) (k + (chv D V P n T R m x).2)).1
              have ec : (chv D V P n T R m x).2 = (ev D V P n (layT T (xd x) (xa x) (xb x) u) (updR R m r) (1 - m) 0).2 := by
                unfold chv
                rw [← ech]
              omega
            · rcases f3 with ⟨f4, _, _⟩ | ⟨_, f5⟩
              · have := (fo_cnt (chv D V P n T R m) L (mxI best (pts D V T P x - v4)) 401).1
                omega
              · exact f5
    have e40 : nI dep ≤ (40 : Int32) := nI_le (b := 40) (by omega) (by omega)
    show ∃ v σ', f_X2_bestDifference (f_bd n) σ (nI m) (nI q) (nI dep) = _ ∧ _
    unfold f_X2_bestDifference f_X2_bestDifference_19 f_X2_bestDifference_37
    rw [if_pos e40, lt_e, hk, nI_1]
    have h1 : CB D V E P S t T R (si σ 2 (nI (k + 1))) := h
    have hf := X2_hasFailed (σ := si σ 2 (nI (k + 1))) (k := k + 1) (by omega) rfl
    have hfd : f_X2_finalDifference (si σ 2 (nI (k + 1))) (nI m) = _ := X2_final (σ := si σ 2 (nI (k + 1))) hV hR hm
    rw [hf, bno_s, if_b, hfd, bno_s]
    by_cases c : 400 < k + 1
    · rw [decide_eq_true c, if_pos rfl]
      refine ⟨_, _, rfl, h1, Or.inr ⟨?_, ?_⟩⟩
      · have := ev_pos (D := D) (V := V) (P := P) (n + 1) T R m q
        omega
      · rw [gi_si]
        congr 1
        omega
    · rw [decide_eq_false c, if_neg (by simp), X2_hasEnded (σ := si σ 2 (nI (k + 1))) hR hq, bno_s, if_b, ev]
      by_cases c2 : tot (R 0) = 0 ∨ tot (R 1) = 0 ∨ 2 ≤ q
      · rw [decide_eq_true c2, if_pos rfl, if_pos c2]
        exact ⟨_, _, rfl, h1, Or.inl ⟨by show k + 1 ≤ 400; omega, rfl, rfl⟩⟩
      · rw [decide_eq_false c2, if_neg (by simp), if_neg c2]
        have hq2 : q < 2 := by omega
        have hmu1 : mu R (q + 1) < mu R q := by unfold mu; omega
        obtain ⟨v1, σ1, e1, b1, b2⟩ := ih T R (1 - m) (q + 1) (dep + 1) (si σ 2 (nI (k + 1))) (k + 1) (by omega) (by omega) (by omega) (by omega) h1 rfl (by omega)
        have hpa : f_X2_afterPass (f_bd n) (si σ 2 (nI (k + 1))) (nI m) (nI q) (nI dep) = some (-v1, σ1) := by
          unfold f_X2_afterPass
          rw [one_sub m hm, nI_1, nI_1, e1, bno_s]
        have hn0 := X5_n0 b1.1 b1.2.2.2.2.2.2.1 b1.2.2.2.2.2.2.2 hm
        rw [hpa, bno_s]
        show ∃ v σ', bno (f_X5_nextPlay σ1 (nI m) 0) _ = _ ∧ _
        rw [hn0, bno_s]
        have hlen := fl_len (lc D T (R m)) 4096 0
        have ech : (fun x => (pts D V T P x - (ev D V P n (lyx D T x) (updR R m (rem D T (R m) x)) (1 - m) 0).1, (ev D V P n (lyx D T x) (updR R m (rem D T (R m) x)) (1 - m) 0).2)) = chv D V P n T R m := rfl
        rw [ech]
        have hcn := fo_cnt (chv D V P n T R m) (fl (lc D T (R m)) 4096 0)
        rcases b2 with ⟨b3, b4, b5⟩ | ⟨b3, b5⟩
        · obtain ⟨v, σ', f1, f2, f3⟩ := loop hq2 c2 (fl (lc D T (R m)) 4096 0) 0 FU (-v1) σ1 (k + 1 + (ev D V P n T R (1 - m) (q + 1)).2) (isS_0 _) (by omega) (FU_big (by omega)) b1 b5 (by omega)
          refine ⟨v, σ', f1, f2, ?_⟩
          have e9 := (hcn (-(ev D V P n T R (1 - m) (q + 1)).1) (1 + (ev D V P n T R (1 - m) (q + 1)).2)).2 (-v1) k
          rw [show 1 + (ev D V P n T R (1 - m) (q + 1)).2 + k = k + 1 + (ev D V P n T R (1 - m) (q + 1)).2 by omega] at e9
          have e8 : ∀ (g : Nat → Int32 × Nat) (L : List Nat) (a : Int32) (i j : Nat), (fo g L (a, i)).1 = (fo g L (a, j)).1 := by
            intro g L
            induction L with
            | nil => intro a i j; rfl
            | cons y L ihy => intro a i j; exact ihy _ _ _
          rw [e9] at f3
          rcases f3 with ⟨f4, f5, f6⟩ | ⟨f4, f5⟩
          · refine Or.inl ⟨by omega, ?_, by rw [f6]; congr 1; omega⟩
            rw [f5, b4]
            exact e8 _ _ _ _ _
          · exact Or.inr ⟨by omega, f5⟩
        · obtain ⟨v, σ', f1, f2, f3⟩ := loop hq2 c2 (fl (lc D T (R m)) 4096 0) 0 FU (-v1) σ1 401 (isS_0 _) (by omega) (FU_big (by omega)) b1 b5 (by omega)
          refine ⟨v, σ', f1, f2, Or.inr ⟨?_, ?_⟩⟩
          · have := (hcn (-(ev D V P n T R (1 - m) (q + 1)).1) (1 + (ev D V P n T R (1 - m) (q + 1)).2)).1
            omega
          · rcases f3 with ⟨f4, _, _⟩ | ⟨_, f5⟩
            · have := (hcn (-v1) 401).1
              omega
            · exact f5
end
