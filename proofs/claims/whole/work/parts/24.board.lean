/-! ===== the board: one table of tiles, seen by rows and columns, or along a direction ===== -/
abbrev Bd : Type := Int → Int → Option Nat
def okT (T : Bd) : Prop := ∀ r c a, T r c = some a → 0 ≤ r ∧ r < 7 ∧ 0 ≤ c ∧ c < 7 ∧ a < 8
def enc (o : Option Nat) : Int32 := match o with
  | none => -1
  | some a => nI a
def cell (T : Bd) (z : Int) : Option Nat := if 0 ≤ z ∧ z < 64 then T (z / 8) (z % 8) else none
/-- along direction d (0: to the right, 1: down): line a, place b -/
def M (T : Bd) (d : Nat) (a b : Int) : Option Nat := if d = 0 then T a b else T b a
def adr (d : Nat) (a b : Int) : Int := if d = 0 then 8 * a + b else 8 * b + a
def st (d : Nat) : Int := if d = 0 then 1 else 8
theorem T_out {T : Bd} (h : okT T) {r c : Int} (hr : r < 0 ∨ 7 ≤ r ∨ c < 0 ∨ 7 ≤ c) : T r c = none := by
  cases e : T r c with
  | none => rfl
  | some a =>
    have := h r c a e
    omega
theorem M_ok {T : Bd} (h : okT T) {d : Nat} {a b : Int} {l : Nat} (e : M T d a b = some l) : 0 ≤ a ∧ a < 7 ∧ 0 ≤ b ∧ b < 7 ∧ l < 8 := by
  unfold M at e
  by_cases c : d = 0
  · rw [if_pos c] at e
    exact h a b l e
  · rw [if_neg c] at e
    have := h b a l e
    omega
theorem M_some {T : Bd} (h : okT T) {d : Nat} {a b : Int} (e : (M T d a b).isSome = true) : 0 ≤ a ∧ a < 7 ∧ 0 ≤ b ∧ b < 7 := by
  obtain ⟨l, hl⟩ := Option.isSome_iff_exists.mp e
  have := M_ok h hl
  omega
theorem cell_rc {T : Bd} (h : okT T) {r c : Int} (h1 : -1 ≤ r) (h2 : r ≤ 7) (h3 : -1 ≤ c) (h4 : c ≤ 7) : cell T (8 * r + c) = T r c := by
  unfold cell
  by_cases k : 0 ≤ c
  · by_cases k2 : 0 ≤ 8 * r + c ∧ 8 * r + c < 64
    · rw [if_pos k2, show (8 * r + c) / 8 = r by omega, show (8 * r + c) % 8 = c by omega]
    · rw [if_neg k2, T_out h (by omega)]
  · rw [T_out h (r := r) (c := c) (by omega)]
    by_cases k2 : 0 ≤ 8 * r + c ∧ 8 * r + c < 64
    · rw [if_pos k2, T_out h (by omega)]
    · rw [if_neg k2]
theorem cell_adr {T : Bd} (h : okT T) {d : Nat} {a b : Int} (h1 : -1 ≤ a) (h2 : a ≤ 7) (h3 : -1 ≤ b) (h4 : b ≤ 7) : cell T (adr d a b) = M T d a b := by
  unfold adr M
  by_cases c : d = 0
  · rw [if_pos c, if_pos c, cell_rc h h1 h2 h3 h4]
  · rw [if_neg c, if_neg c, cell_rc h h3 h4 h1 h2]
theorem adr_next (d : Nat) (a b : Int) : adr d a b + st d = adr d a (b + 1) := by
  unfold adr st
  by_cases c : d = 0
  · simp only [if_pos c]; omega
  · simp only [if_neg c]; omega
theorem adr_prev (d : Nat) (a b : Int) : adr d a b - st d = adr d a (b - 1) := by
  unfold adr st
  by_cases c : d = 0
  · simp only [if_pos c]; omega
  · simp only [if_neg c]; omega
theorem adr_far (d : Nat) (a b n : Int) : adr d a b + n * st d = adr d a (b + n) := by
  unfold adr st
  by_cases c : d = 0
  · simp only [if_pos c]; omega
  · simp only [if_neg c]; omega
theorem adr_bd {d : Nat} {a b : Int} (h1 : -1 ≤ a) (h2 : a ≤ 7) (h3 : -1 ≤ b) (h4 : b ≤ 7) : -9 ≤ adr d a b ∧ adr d a b ≤ 63 := by
  unfold adr
  by_cases c : d = 0
  · rw [if_pos c]; omega
  · rw [if_neg c]; omega
theorem adr_inj {d : Nat} {a b b2 : Int} (h : adr d a b = adr d a b2) : b = b2 := by
  unfold adr at h
  by_cases c : d = 0
  · simp only [if_pos c] at h; omega
  · simp only [if_neg c] at h; omega
theorem adr_turn {d : Nat} (hd : d < 2) (a b : Int) : adr d a b = adr (1 - d) b a := by
  unfold adr
  by_cases c : d = 0
  · subst c; rfl
  · have : d = 1 := by omega
    subst this; rfl
theorem M_turn {T : Bd} {d : Nat} (hd : d < 2) (a b : Int) : M T d a b = M T (1 - d) b a := by
  unfold M
  by_cases c : d = 0
  · subst c; rfl
  · have : d = 1 := by omega
    subst this; rfl
/-- the class's board holds the tiles -/
def OC (T : Bd) (σ : St) : Prop := okT T ∧ ∀ x : Nat, x < 64 → lb (gl σ 0) x = (cell T x).isSome ∧ ∀ a, cell T x = some a → ga σ 1 x = nI a
theorem X0_hasTile {T : Bd} {σ : St} (h : OC T σ) {z : Int} (h1 : -2147483648 ≤ z) (h2 : z < 2147483648) : f_X0_hasTile σ (iI z) = some (cell T z).isSome := by
  unfold f_X0_hasTile
  simp (disch := omega) only [iI_lt0, L64, iI_le]
  by_cases c1 : z < 0
  · rw [if_pos c1]
    unfold cell
    rw [if_neg (by omega)]
    rfl
  · rw [if_neg c1]
    by_cases c2 : 64 ≤ z
    · rw [if_pos c2]
      unfold cell
      rw [if_neg (by omega)]
      rfl
    · rw [if_neg c2]
      obtain ⟨n, rfl⟩ : ∃ n : Nat, z = n := ⟨z.toNat, by omega⟩
      have hb := (h.2 n (by omega)).1
      rw [← iI_nI]
      simp only [cmp_0, lb_bit0]
      rw [lb_shr (by omega), Nat.add_zero, hb]
      cases (cell T n).isSome <;> rfl
theorem X0_letter {T : Bd} {σ : St} (h : OC T σ) {z : Int} (h1 : -2147483648 ≤ z) (h2 : z < 2147483648) : f_X0_letter σ (iI z) = some (enc (cell T z)) := by
  unfold f_X0_letter
  rw [X0_hasTile h h1 h2, bno_s, if_b]
  cases e : cell T z with
  | none => rfl
  | some a =>
    have hz : 0 ≤ z ∧ z < 64 := by
      unfold cell at e
      by_cases c : 0 ≤ z ∧ z < 64
      · exact c
      · rw [if_neg c] at e
        cases e
    obtain ⟨n, rfl⟩ : ∃ n : Nat, z = n := ⟨z.toNat, by omega⟩
    rw [ixo_iI (by omega) (by omega) (by omega), iI_nat (by omega) (by omega)]
    have := (h.2 n (by omega)).2 a e
    show some (ga σ 1 (n : Int).toNat) = some (nI a)
    rw [Int.toNat_natCast, this]
/-! ===== a line and the word through a place of it ===== -/
def lo (g : Int → Option Nat) : Nat → Int → Int
  | 0, p => p
  | n + 1, p => if (g (p - 1)).isSome then lo g n (p - 1) else p
def up (g : Int → Option Nat) : Nat → Int → List Nat
  | 0, _ => []
  | n + 1, q => match g q with
    | none => []
    | some a => a :: up g n (q + 1)
def put1 (g : Int → Option Nat) (p : Int) (l : Nat) : Int → Option Nat := fun i => if i = p then some l else g i
def thr (g : Int → Option Nat) (p : Int) (l : Nat) : List Nat := up (put1 g p l) 7 (lo g 7 p)
theorem lo_bd {g : Int → Option Nat} (hg : ∀ i, (g i).isSome = true → 0 ≤ i) : ∀ (n : Nat) (p : Int), 0 ≤ p → 0 ≤ lo g n p ∧ lo g n p ≤ p
  | 0, p, h => ⟨h, Int.le_refl _⟩
  | n + 1, p, h => by
    unfold lo
    by_cases c : (g (p - 1)).isSome = true
    · rw [if_pos c]
      have := lo_bd hg n (p - 1) (hg _ c)
      omega
    · rw [if_neg c]
      omega
theorem X0_thr_up {T : Bd} {σ : St} (h : OC T σ) {e : Nat} {b p : Int} {l : Nat} (hb1 : 0 ≤ b) (hb2 : b < 7) (hp1 : 0 ≤ p) (hp2 : p < 7) (hl : l < 8) : ∀ (m k n : Nat) (q : Int) (w : List Nat), k + m = 7 → m < n → w.length = k → lt8 w → 0 ≤ q → q ≤ 7 →
    f_X0_wordThrough_42 σ n (iI (adr e b p)) (nI l) (iI (st e)) (iI (adr e b q)) (nI (pk w)) (iI k) = some (nI (pk (w ++ up (put1 (M T e b) p l) m q))) := by
  intro m
  induction m with
  | zero =>
    intro k n q w hk hn hw h8 q1 q2
    obtain ⟨n, rfl⟩ : ∃ j, n = j + 1 := ⟨n - 1, by omega⟩
    rw [f_X0_wordThrough_42]
    simp (disch := omega) only [L7, iI_le]
    rw [if_pos (by omega)]
    show _ = some (nI (pk (w ++ [])))
    rw [List.append_nil]
  | succ m ih =>
    intro k n q w hk hn hw h8 q1 q2
    obtain ⟨n, rfl⟩ : ∃ j, n = j + 1 := ⟨n - 1, by omega⟩
    have b1 := adr_bd (d := e) (a := b) (b := p) (by omega) (by omega) (by omega) (by omega)
    have b2 := adr_bd (d := e) (a := b) (b := q) (by omega) (by omega) (by omega) (by omega)
    have go : ∀ a : Nat, a < 8 → put1 (M T e b) p l q = some a → bno (f_X8_append (nI (pk w)) (nI a)) (fun r1 => f_X0_wordThrough_42 σ n (iI (adr e b p)) (nI l) (iI (st e)) (iI (adr e b q) + iI (st e)) r1 (iI k + 1)) = some (nI (pk (w ++ up (put1 (M T e b) p l) (m + 1) q))) := by
      intro a ha hpa
      have q3 : q ≤ 6 := by
        unfold put1 at hpa
        by_cases c : q = p
        · omega
        · rw [if_neg c] at hpa
          have := M_ok h.1 hpa
          omega
      rw [X8_append h8 (by omega) ha, bno_s, iI_add, adr_next, iI_1, iI_add]
      have := ih (k + 1) n (q + 1) (w ++ [a]) (by omega) (by omega) (by simp [hw]) (by intro x hx; rcases List.mem_append.mp hx with hx | hx; exact h8 x hx; rw [List.mem_singleton.mp hx]; exact ha) (by omega) (by omega)
      rw [Int.natCast_add] at this
      rw [show ((1 : Nat) : Int) = 1 from rfl] at this
      rw [this, List.append_assoc]
      show some (nI (pk (w ++ (a :: up (put1 (M T e b) p l) m (q + 1))))) = _
      rw [up, hpa]
    rw [f_X0_wordThrough_42]
    simp (disch := omega) only [L7, iI_le]
    rw [if_neg (by omega)]
    by_cases c : q = p
    · have e1 : put1 (M T e b) p l q = some l := by unfold put1; rw [if_pos c]
      rw [if_pos (by rw [c])]
      unfold f_X0_wordThrough_64
      rw [if_pos (by rw [c])]
      exact go l hl e1
    · have e1 : put1 (M T e b) p l q = M T e b q := by unfold put1; rw [if_neg c]
      have e2 : ¬ iI (adr e b q) = iI (adr e b p) := by
        rw [iI_eq (by omega) (by omega) (by omega) (by omega)]
        exact fun h => c (adr_inj h)
      rw [if_neg e2, X0_hasTile h (by omega) (by omega), cell_adr h.1 (by omega) (by omega) (by omega) (by omega), bno_s, if_b]
      cases e3 : M T e b q with
      | none =>
        show some (nI (pk w)) = _
        rw [up, e1, e3]
        show some (nI (pk w)) = some (nI (pk (w ++ [])))
        rw [List.append_nil]
      | some a =>
        show f_X0_wordThrough_64 _ _ _ _ _ _ _ _ = _
        unfold f_X0_wordThrough_64
        rw [if_neg e2, X0_letter h (by omega) (by omega), cell_adr h.1 (by omega) (by omega) (by omega) (by omega), bno_s, e3]
        exact go a (M_ok h.1 e3).2.2.2.2 (by rw [e1, e3])
theorem X0_thr_lo {T : Bd} {σ : St} (h : OC T σ) {e : Nat} {b p : Int} {l : Nat} (hb1 : 0 ≤ b) (hb2 : b < 7) : ∀ (m k n : Nat) (q : Int), k + m = 7 → m < n → 0 ≤ q → q < 7 →
    f_X0_wordThrough_6 σ n (iI (adr e b p)) (nI l) (iI (st e)) (iI (adr e b q)) (iI k) = f_X0_wordThrough_36 σ (iI (adr e b p)) (nI l) (iI (st e)) (iI (adr e b (lo (M T e b) m q))) := by
  intro m
  induction m with
  | zero =>
    intro k n q hk hn q1 q2
    obtain ⟨n, rfl⟩ : ∃ j, n = j + 1 := ⟨n - 1, by omega⟩
    rw [f_X0_wordThrough_6]
    simp (disch := omega) only [L7, iI_le]
    rw [if_pos (by omega)]
    rfl
  | succ m ih =>
    intro k n q hk hn q1 q2
    obtain ⟨n, rfl⟩ : ∃ j, n = j + 1 := ⟨n - 1, by omega⟩
    have b2 := adr_bd (d := e) (a := b) (b := q - 1) (by omega) (by omega) (by omega) (by omega)
    rw [f_X0_wordThrough_6]
    simp (disch := omega) only [L7, iI_le]
    rw [if_neg (by omega), iI_sub, adr_prev, X0_hasTile h (by omega) (by omega), cell_adr h.1 (by omega) (by omega) (by omega) (by omega), bno_s, if_b, lo]
    by_cases c : (M T e b (q - 1)).isSome = true
    · rw [if_pos c, if_pos c, iI_1, iI_add]
      have := M_some h.1 c
      exact ih (k + 1) n (q - 1) (by omega) (by omega) (by omega) (by omega)
    · rw [if_neg c, if_neg c]
theorem X0_wordThrough {T : Bd} {σ : St} (h : OC T σ) {e : Nat} {b p : Int} {l : Nat} (hb1 : 0 ≤ b) (hb2 : b < 7) (hp1 : 0 ≤ p) (hp2 : p < 7) (hl : l < 8) :
    f_X0_wordThrough σ (iI (adr e b p)) (nI l) (iI (st e)) = some (nI (pk (thr (M T e b) p l))) := by
  unfold f_X0_wordThrough
  rw [show (0 : Int32) = iI ((0 : Nat) : Int) from rfl, X0_thr_lo h hb1 hb2 7 0 FU p (by omega) (FU_big (by omega)) hp1 hp2]
  unfold f_X0_wordThrough_36
  have hlo := lo_bd (g := M T e b) (fun i hi => (M_some h.1 hi).2.2.1) 7 p hp1
  have := X0_thr_up h (e := e) hb1 hb2 hp1 hp2 hl 7 0 FU (lo (M T e b) 7 p) [] (by omega) (FU_big (by omega)) rfl (by intro x hx; cases hx) hlo.1 (by omega)
  exact this
