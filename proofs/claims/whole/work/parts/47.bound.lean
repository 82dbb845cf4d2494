/-! ===== how large the endgame's values get ===== -/
def bdd (x : Int32) (a b : Int) : Prop := ∃ z : Int, x = iI z ∧ a ≤ z ∧ z ≤ b
theorem bdd_mo {x : Int32} {a b c d : Int} (h : bdd x a b) (h1 : c ≤ a) (h2 : b ≤ d) : bdd x c d := by
  obtain ⟨z, e, k1, k2⟩ := h
  exact ⟨z, e, by omega, by omega⟩
theorem bdd_add {x y : Int32} {a b c d : Int} (h : bdd x a b) (h2 : bdd y c d) : bdd (x + y) (a + c) (b + d) := by
  obtain ⟨z, rfl, k1, k2⟩ := h
  obtain ⟨w, rfl, l1, l2⟩ := h2
  exact ⟨z + w, iI_add z w, by omega, by omega⟩
theorem bdd_sub {x y : Int32} {a b c d : Int} (h : bdd x a b) (h2 : bdd y c d) : bdd (x - y) (a - d) (b - c) := by
  obtain ⟨z, rfl, k1, k2⟩ := h
  obtain ⟨w, rfl, l1, l2⟩ := h2
  exact ⟨z - w, iI_sub z w, by omega, by omega⟩
theorem bdd_neg {x : Int32} {a b : Int} (h : bdd x a b) : bdd (-x) (-b) (-a) := by
  obtain ⟨z, rfl, k1, k2⟩ := h
  exact ⟨-z, iI_neg z, by omega, by omega⟩
theorem bdd_mul {x y : Int32} {b d : Int} (h : bdd x 0 b) (h2 : bdd y 0 d) : bdd (x * y) 0 (b * d) := by
  obtain ⟨z, rfl, k1, k2⟩ := h
  obtain ⟨w, rfl, l1, l2⟩ := h2
  exact ⟨z * w, iI_mul z w, Int.mul_nonneg k1 l1, Int.mul_le_mul k2 l2 l1 (by omega)⟩
theorem bdd_mx {x y : Int32} {a b : Int} (h : bdd x a b) (h2 : bdd y a b) : bdd (mxI x y) a b := by
  unfold mxI
  split
  · exact h2
  · exact h
theorem bdd_lit (z : Int) : bdd (iI z) z z := ⟨z, rfl, Int.le_refl _, Int.le_refl _⟩
/-- the letters' values -/
def HV (V : Nat → Int32) : Prop := ∀ l, l < 8 → ∃ n : Nat, V l = nI n ∧ 1 ≤ n ∧ n ≤ 10
theorem HV_bdd {V : Nat → Int32} (h : HV V) {l : Nat} (hl : l < 8) : bdd (V l) 0 10 := by
  obtain ⟨n, e, h1, h2⟩ := h l hl
  exact ⟨n, by rw [e, iI_nI], by omega, by omega⟩
theorem vlW_bdd {V : Nat → Int32} (h : HV V) : ∀ (t : List Nat), lt8 t → bdd (vlW V t) 0 (10 * t.length)
  | [], _ => bdd_lit 0
  | x :: t, h8 => by
    obtain ⟨hx, h8⟩ := lt8_cons.mp h8
    have := bdd_add (HV_bdd h hx) (vlW_bdd h t h8)
    refine bdd_mo this (by omega) ?_
    simp only [List.length_cons]
    omega
theorem xtr_bdd {V : Nat → Int32} (h : HV V) {x : Nat} (hx : x < 8) (q : Int32) : bdd (xtr V x q) 0 20 := by
  unfold xtr
  split
  · exact bdd_mo (HV_bdd h hx) (by omega) (by omega)
  · split
    · exact bdd_mul (bdd_mo (bdd_lit 2) (by omega) (Int.le_refl _)) (HV_bdd h hx)
    · exact bdd_mo (bdd_lit 0) (by omega) (by omega)
theorem wfa_bdd (q : Int32) : bdd (wfa q) 0 3 := by
  unfold wfa
  split
  · exact bdd_mo (bdd_lit 2) (by omega) (by omega)
  · split
    · exact bdd_mo (bdd_lit 3) (by omega) (by omega)
    · exact bdd_mo (bdd_lit 1) (by omega) (by omega)
section
variable {V : Nat → Int32} {T : Bd} {P : Nat → Nat → Int32} {d a : Nat}
theorem xpt_bdd (h : HV V) (hT : okT T) {j x : Nat} (hx : x < 8) : bdd (xpt V T P d a j x) 0 270 := by
  unfold xpt
  have hok := thr_ok hT (e := 1 - d) (b := j) (p := a) hx
  split
  · exact bdd_mo (bdd_lit 0) (by omega) (by omega)
  · have h7 := hok.2
    have h1 := bdd_mo (vlW_bdd h _ hok.1) (Int.le_refl _) (show ((10 : Int) * (thr (M T (1 - d) j) a x).length : Int) ≤ 70 by omega)
    exact bdd_mul (bdd_add h1 (xtr_bdd h hx _)) (wfa_bdd _)
theorem sS_bdd (h : HV V) : ∀ (u : List Nat) (j : Nat), lt8 u → bdd (sS V T P d a j u) 0 (20 * (frs (M T d a) j u).length)
  | [], _, _ => bdd_lit 0
  | x :: u, j, h8 => by
    obtain ⟨hx, h8⟩ := lt8_cons.mp h8
    have ih := sS_bdd h u (j + 1) h8
    rw [sS, frs]
    by_cases c : (M T d a j).isSome = true
    · rw [if_pos c, if_pos c, Int32.zero_add]
      exact ih
    · rw [if_neg c, if_neg c]
      refine bdd_mo (bdd_add (xtr_bdd h hx _) ih) (by omega) ?_
      simp only [List.length_cons]
      omega
theorem sX_bdd (h : HV V) (hT : okT T) : ∀ (u : List Nat) (j : Nat), lt8 u → bdd (sX V T P d a j u) 0 (270 * (frs (M T d a) j u).length)
  | [], _, _ => bdd_lit 0
  | x :: u, j, h8 => by
    obtain ⟨hx, h8⟩ := lt8_cons.mp h8
    have ih := sX_bdd h hT u (j + 1) h8
    rw [sX, frs]
    by_cases c : (M T d a j).isSome = true
    · rw [if_pos c, if_pos c, Int32.zero_add]
      exact ih
    · rw [if_neg c, if_neg c]
      refine bdd_mo (bdd_add (xpt_bdd h hT hx) ih) (by omega) ?_
      simp only [List.length_cons]
      omega
theorem sF_bdd : ∀ (u : List Nat) (j : Nat), bdd (sF T P d a j u) 0 ((3 ^ (frs (M T d a) j u).length : Nat) : Int)
  | [], _ => bdd_mo (bdd_lit 1) (by omega) (by simp [frs])
  | x :: u, j => by
    have ih := sF_bdd u (j + 1)
    rw [sF, frs]
    by_cases c : (M T d a j).isSome = true
    · rw [if_pos c, if_pos c, Int32.one_mul]
      exact ih
    · rw [if_neg c, if_neg c]
      refine bdd_mo (bdd_mul (wfa_bdd _) ih) (Int.le_refl _) ?_
      simp only [List.length_cons]
      rw [Nat.pow_succ]
      omega
theorem scr_num (f : Nat) (hf : f ≤ 5) : (70 + 20 * (f : Int)) * ((3 ^ f : Nat) : Int) + 270 * f + 20 ≤ 42680 := by
  match f, hf with
  | 0, _ => decide
  | 1, _ => decide
  | 2, _ => decide
  | 3, _ => decide
  | 4, _ => decide
  | 5, _ => decide
  | f + 6, h => omega
theorem scr_bdd (h : HV V) (hT : okT T) {u : List Nat} (hu : lt8 u) (h7 : u.length ≤ 7) {b : Nat} (hf : (frs (M T d a) b u).length ≤ 5) : bdd (scr V T P d a b u) 0 42680 := by
  unfold scr
  have h1 := bdd_add (bdd_mo (vlW_bdd h u hu) (Int.le_refl _) (show ((10 : Int) * u.length : Int) ≤ 70 by omega)) (sS_bdd (T := T) (P := P) (d := d) (a := a) h u b hu)
  have h2 := bdd_mul (bdd_mo h1 (by omega) (Int.le_refl _)) (sF_bdd (T := T) (P := P) (d := d) (a := a) u b)
  have h3 := bdd_add h2 (sX_bdd (P := P) (d := d) (a := a) h hT u b hu)
  have h4 : bdd (bon (frs (M T d a) b u).length) 0 20 := by
    unfold bon
    split
    · exact bdd_mo (bdd_lit 20) (by omega) (by omega)
    · exact bdd_mo (bdd_lit 0) (by omega) (by omega)
  exact bdd_mo (bdd_add h3 h4) (by omega) (scr_num _ hf)
end
theorem vlR_nat {V : Nat → Int32} (h : HV V) {R : Nat → Nat} : ∃ s : Nat, vlR V R = nI s ∧ tot R ≤ s ∧ s ≤ 10 * tot R := by
  obtain ⟨n0, e0, a0, b0⟩ := h 0 (by omega)
  obtain ⟨n1, e1, a1, b1⟩ := h 1 (by omega)
  obtain ⟨n2, e2, a2, b2⟩ := h 2 (by omega)
  obtain ⟨n3, e3, a3, b3⟩ := h 3 (by omega)
  obtain ⟨n4, e4, a4, b4⟩ := h 4 (by omega)
  obtain ⟨n5, e5, a5, b5⟩ := h 5 (by omega)
  obtain ⟨n6, e6, a6, b6⟩ := h 6 (by omega)
  obtain ⟨n7, e7, a7, b7⟩ := h 7 (by omega)
  have mulN : ∀ a b : Nat, nI a * nI b = nI (a * b) := fun a b => by rw [iI_nI, iI_nI, iI_nI, iI_mul]; congr 1
  have le1 : ∀ a b : Nat, 1 ≤ b → a ≤ a * b := fun a b hb => Nat.le_mul_of_pos_right a hb
  have le2 : ∀ a b : Nat, b ≤ 10 → a * b ≤ 10 * a := fun a b hb => by rw [Nat.mul_comm 10]; exact Nat.mul_le_mul_left _ hb
  refine ⟨R 0 * n0 + R 1 * n1 + R 2 * n2 + R 3 * n3 + R 4 * n4 + R 5 * n5 + R 6 * n6 + R 7 * n7, ?_, ?_, ?_⟩
  · show ((((((((0 + nI (R 0) * V 0) + nI (R 1) * V 1) + nI (R 2) * V 2) + nI (R 3) * V 3) + nI (R 4) * V 4) + nI (R 5) * V 5) + nI (R 6) * V 6) + nI (R 7) * V 7) = _
    rw [e0, e1, e2, e3, e4, e5, e6, e7, Int32.zero_add]
    simp only [mulN, nI_add]
  · unfold tot
    have := le1 (R 0) n0 a0
    have := le1 (R 1) n1 a1
    have := le1 (R 2) n2 a2
    have := le1 (R 3) n3 a3
    have := le1 (R 4) n4 a4
    have := le1 (R 5) n5 a5
    have := le1 (R 6) n6 a6
    have := le1 (R 7) n7 a7
    omega
  · unfold tot
    have := le2 (R 0) n0 b0
    have := le2 (R 1) n1 b1
    have := le2 (R 2) n2 b2
    have := le2 (R 3) n3 b3
    have := le2 (R 4) n4 b4
    have := le2 (R 5) n5 b5
    have := le2 (R 6) n6 b6
    have := le2 (R 7) n7 b7
    omega
theorem vlR_0 {V : Nat → Int32} (h : HV V) {R : Nat → Nat} (hR : okR R) : (vlR V R = 0) = (tot R = 0) := by
  obtain ⟨s, e, h1, h2⟩ := vlR_nat h (R := R)
  unfold okR at hR
  rw [e]
  apply propext
  rw [show (0 : Int32) = nI 0 from rfl, nI_eq (by omega) (by omega)]
  omega
theorem vlR_bdd {V : Nat → Int32} (h : HV V) {R : Nat → Nat} (hR : okR R) : bdd (vlR V R) 0 50 := by
  obtain ⟨s, e, h1, h2⟩ := vlR_nat h (R := R)
  unfold okR at hR
  exact ⟨s, by rw [e, iI_nI], by omega, by omega⟩
theorem fin_bdd {V : Nat → Int32} (h : HV V) {R : Nat → Nat → Nat} (hR : ∀ p, p < 2 → okR (R p)) {m : Nat} (hm : m < 2) : bdd (fin V R m) (-100) 100 := by
  have h1 := vlR_bdd h (hR m hm)
  have h2 := vlR_bdd h (hR (1 - m) (by omega))
  unfold fin
  split
  · exact bdd_mo (bdd_mul (bdd_mo (bdd_lit 2) (by omega) (Int.le_refl _)) h2) (by omega) (by omega)
  · split
    · have e : -2 * vlR V (R m) = -(2 * vlR V (R m)) := Int32.neg_mul 2 _
      rw [e]
      exact bdd_mo (bdd_neg (bdd_mul (bdd_mo (bdd_lit 2) (by omega) (Int.le_refl _)) h1)) (by omega) (by omega)
    · exact bdd_mo (bdd_sub h2 h1) (by omega) (by omega)
theorem fo_bdd {g : Nat → Int32 × Nat} {a b : Int} : ∀ (L : List Nat) (x : Int32) (k : Nat), bdd x a b → (∀ y ∈ L, bdd (g y).1 a b) → bdd (fo g L (x, k)).1 a b
  | [], _, _, h, _ => h
  | y :: L, x, k, h, hg => fo_bdd L (mxI x (g y).1) _ (bdd_mx h (hg y (by simp))) (fun z hz => hg z (by simp [hz]))
theorem okR_updR {R : Nat → Nat → Nat} (hR : ∀ p, p < 2 → okR (R p)) {m : Nat} {r : Nat → Nat} (hr : tot r ≤ 5) : ∀ p, p < 2 → okR (updR R m r p) := by
  intro p hp
  unfold updR
  by_cases c : p = m
  · rw [if_pos c]; exact hr
  · rw [if_neg c]; exact hR p hp
theorem ev_bdd {D : List (List Nat)} {V : Nat → Int32} {P : Nat → Nat → Int32} (hD : ∀ t ∈ D, okW t ∧ 2 ≤ t.length) (h : HV V) : ∀ (n : Nat) (T : Bd) (R : Nat → Nat → Nat) (m q : Nat), mu R q < n → m < 2 → okT T → (∀ p, p < 2 → okR (R p)) →
    bdd (ev D V P n T R m q).1 (-(43000 * ((tot (R 0) + tot (R 1) : Nat) : Int) + 100)) (43000 * ((tot (R 0) + tot (R 1) : Nat) : Int) + 100)
  | 0, T, R, m, q, hmu, _, _, _ => by omega
  | n + 1, T, R, m, q, hmu, hm, hT, hR => by
    rw [ev]
    by_cases c : tot (R 0) = 0 ∨ tot (R 1) = 0 ∨ 2 ≤ q
    · rw [if_pos c]
      exact bdd_mo (fin_bdd h hR hm) (by omega) (by omega)
    · rw [if_neg c]
      have hq2 : q < 2 := by omega
      have hmu1 : mu R (q + 1) < mu R q := by unfold mu; omega
      have hp := bdd_neg (ev_bdd (P := P) hD h n T R (1 - m) (q + 1) (by omega) (by omega) hT hR)
      refine fo_bdd _ _ _ (bdd_mo hp (by omega) (by omega)) ?_
      intro x hx
      have hx := fl_mem.mp hx
      obtain ⟨u, r, hu, a1, a2, a3, a4, u8, a5, a6, a7, a8, a9, a10⟩ := lc_known (T := T) hD (show x < 4096 by omega) hx.2.2
      have hmu2 : mu (updR R m r) 0 < mu R q := mu_play hq2 hm a10
      have hRm := hR m hm
      unfold okR at hRm
      have hc := ev_bdd (P := P) hD h n (layT T (xd x) (xa x) (xb x) u) (updR R m r) (1 - m) 0 (by omega) (by omega) (okT_layT u hT a2 a5 u8) (okR_updR hR (by omega))
      have htk := tk_ok _ _ _ (frs_lt8 _ u _ u8) a7
      have hpt : bdd (pts D V T P x) 0 42680 := by
        unfold pts
        rw [hu]
        exact scr_bdd h hT u8 (by omega) (by omega)
      have htot : tot (updR R m r 0) + tot (updR R m r 1) + 1 ≤ tot (R 0) + tot (R 1) := by
        unfold updR
        rcases (by omega : m = 0 ∨ m = 1) with rfl | rfl
        · rw [if_pos rfl, if_neg (by omega)]
          omega
        · rw [if_neg (by omega), if_pos rfl]
          omega
      show bdd (pts D V T P x - (ev D V P n (lyx D T x) (updR R m (rem D T (R m) x)) (1 - m) 0).1) _ _
      rw [a8, a9]
      exact bdd_mo (bdd_sub hpt hc) (by omega) (by omega)
