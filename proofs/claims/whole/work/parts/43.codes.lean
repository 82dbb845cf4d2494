/-! ===== the reference's codes of plays, and the class's numbers ===== -/
def xd (n : Nat) : Nat := n / 2048
def xa (n : Nat) : Nat := if n / 2048 = 0 then n / 256 % 8 else n / 32 % 8
def xb (n : Nat) : Nat := if n / 2048 = 0 then n / 32 % 8 else n / 256 % 8
theorem x_at {d a b w : Nat} (hd : d < 2) (ha : a < 7) (hb : b < 7) (hw : w < 32) : xd (stn d a b * 32 + w) = d ∧ xa (stn d a b * 32 + w) = a ∧ xb (stn d a b * 32 + w) = b ∧ (stn d a b * 32 + w) % 32 = w ∧ stn d a b * 32 + w < 4096 := by
  have hs : stn d a b = 64 * d + (if d = 0 then 8 * a + b else 8 * b + a) := rfl
  unfold xd xa xb
  by_cases c : d = 0
  · rw [if_pos c] at hs
    generalize stn d a b = s at hs
    have e1 : (s * 32 + w) / 2048 = d := by omega
    refine ⟨e1, ?_, ?_, by omega, by omega⟩
    · rw [e1, if_pos c]
      omega
    · rw [e1, if_pos c]
      omega
  · rw [if_neg c] at hs
    generalize stn d a b = s at hs
    have e1 : (s * 32 + w) / 2048 = d := by omega
    refine ⟨e1, ?_, ?_, by omega, by omega⟩
    · rw [e1, if_neg c]
      omega
    · rw [e1, if_neg c]
      omega
theorem lc_true {D : List (List Nat)} {T : Bd} {R : Nat → Nat} {x : Nat} (hx : x < 4096) (h : lc D T R x = true) : ∃ u, D[x % 32]? = some u ∧ xd x < 2 ∧ xa x < 7 ∧ xb x < 7 ∧ x = stn (xd x) (xa x) (xb x) * 32 + x % 32 ∧ rsn D T R (xd x) (xa x) (xb x) u = 0 := by
  unfold lc at h
  rw [Bool.and_eq_true, decide_eq_true_iff] at h
  obtain ⟨h1, h2⟩ := h
  cases e : D[x % 32]? with
  | none => rw [e] at h2; cases h2
  | some u =>
    rw [e] at h2
    have h2 := of_decide_eq_true h2
    refine ⟨u, rfl, by unfold xd; omega, by unfold xa; split <;> omega, by unfold xb; split <;> omega, ?_, h2⟩
    unfold xd xa xb stn
    by_cases c : x / 2048 = 0
    · simp only [if_pos c]; omega
    · simp only [if_neg c]; omega
/-- what a play of the class scores, leaves on the rack, lays -/
def pts (D : List (List Nat)) (V : Nat → Int32) (T : Bd) (P : Nat → Nat → Int32) (x : Nat) : Int32 := scr V T P (xd x) (xa x) (xb x) (D[x % 32]?.getD [])
def rem (D : List (List Nat)) (T : Bd) (R : Nat → Nat) (x : Nat) : Nat → Nat := (tk R (frs (M T (xd x) (xa x)) (xb x) (D[x % 32]?.getD []))).getD R
def lyx (D : List (List Nat)) (T : Bd) (x : Nat) : Bd := layT T (xd x) (xa x) (xb x) (D[x % 32]?.getD [])
def eqt (D : List (List Nat)) (V E : Nat → Int32) (T : Bd) (P : Nat → Nat → Int32) (R : Nat → Nat) (x : Nat) : Int32 := pts D V T P x + vlR E (rem D T R x)
theorem at_all {D : List (List Nat)} {T : Bd} {d a b w : Nat} (hd : d < 2) (ha : a < 7) (hb : b < 7) (hw : w < 32) {u : List Nat} (hu : D[w]? = some u) (V : Nat → Int32) (P : Nat → Nat → Int32) (R : Nat → Nat) :
    pts D V T P (stn d a b * 32 + w) = scr V T P d a b u ∧ rem D T R (stn d a b * 32 + w) = (tk R (frs (M T d a) b u)).getD R ∧ lyx D T (stn d a b * 32 + w) = layT T d a b u := by
  have e := x_at hd ha hb hw
  unfold pts rem lyx
  rw [e.1, e.2.1, e.2.2.1, e.2.2.2.1, hu]
  exact ⟨rfl, rfl, rfl⟩
/-- the square and the word of a code -/
def cA (c : Nat) : Nat := if c / 1470 = 0 then c / 30 % 49 / 7 else c / 30 % 49 % 7
def cB (c : Nat) : Nat := if c / 1470 = 0 then c / 30 % 49 % 7 else c / 30 % 49 / 7
def phi (c : Nat) : Nat := stn (c / 1470) (cA c) (cB c) * 32 + c % 30
theorem c_bd (c : Nat) : cA c < 7 ∧ cB c < 7 := by
  unfold cA cB
  split <;> omega
theorem c_RW (c : Nat) : RW (c / 1470) (cA c) (cB c) = c / 30 % 49 / 7 ∧ CL (c / 1470) (cA c) (cB c) = c / 30 % 49 % 7 := by
  unfold RW CL cA cB
  by_cases k : c / 1470 = 0
  · simp only [if_pos k]
    exact ⟨trivial, trivial⟩
  · simp only [if_neg k]
    exact ⟨trivial, trivial⟩
theorem phi_val (c : Nat) : phi c = 2048 * (c / 1470) + 256 * (c / 30 % 49 / 7) + 32 * (c / 30 % 49 % 7) + c % 30 := by
  unfold phi stn cA cB
  by_cases k : c / 1470 = 0
  · simp only [if_pos k]; omega
  · simp only [if_neg k]; omega
theorem c_dec (c : Nat) : c = 1470 * (c / 1470) + 210 * (c / 30 % 49 / 7) + 30 * (c / 30 % 49 % 7) + c % 30 ∧ c / 30 % 49 / 7 < 7 ∧ c / 30 % 49 % 7 < 7 ∧ c % 30 < 30 := by
  have e : c / 30 / 49 = c / 1470 := Nat.div_div_eq_div_mul c 30 49
  omega
theorem phi_mono {c c2 : Nat} (h : c < c2) : phi c < phi c2 := by
  rw [phi_val, phi_val]
  obtain ⟨e1, a1, a2, a3⟩ := c_dec c
  obtain ⟨e2, b1, b2, b3⟩ := c_dec c2
  generalize c / 1470 = d at *
  generalize c / 30 % 49 / 7 = r at *
  generalize c / 30 % 49 % 7 = q at *
  generalize c % 30 = w at *
  generalize c2 / 1470 = d2 at *
  generalize c2 / 30 % 49 / 7 = r2 at *
  generalize c2 / 30 % 49 % 7 = q2 at *
  generalize c2 % 30 = w2 at *
  rcases Nat.lt_trichotomy d d2 with k | k | k
  · omega
  · subst k
    rcases Nat.lt_trichotomy r r2 with k | k | k
    · omega
    · subst k
      rcases Nat.lt_trichotomy q q2 with k | k | k
      · omega
      · omega
      · omega
    · omega
  · omega
theorem phi_inv {n : Nat} (h1 : n / 256 % 8 < 7) (h2 : n / 32 % 8 < 7) (h3 : n % 32 < 30) (h4 : n < 4096) : ∃ c, c < 2940 ∧ phi c = n := by
  refine ⟨1470 * (n / 2048) + 210 * (n / 256 % 8) + 30 * (n / 32 % 8) + n % 32, by omega, ?_⟩
  rw [phi_val]
  have e1 : (1470 * (n / 2048) + 210 * (n / 256 % 8) + 30 * (n / 32 % 8) + n % 32) / 1470 = n / 2048 := by omega
  have e2 : (1470 * (n / 2048) + 210 * (n / 256 % 8) + 30 * (n / 32 % 8) + n % 32) / 30 = 49 * (n / 2048) + 7 * (n / 256 % 8) + n / 32 % 8 := by omega
  have e3 : (1470 * (n / 2048) + 210 * (n / 256 % 8) + 30 * (n / 32 % 8) + n % 32) % 30 = n % 32 := by omega
  rw [e1, e2, e3]
  have e4 : (49 * (n / 2048) + 7 * (n / 256 % 8) + n / 32 % 8) % 49 = 7 * (n / 256 % 8) + n / 32 % 8 := by omega
  rw [e4]
  omega
def rcd (D : List (List Nat)) (T : Bd) (R : Nat → Nat) (c : Nat) : Bool := lc D T R (phi c)
theorem fl_mem {p : Nat → Bool} : ∀ {m n x : Nat}, x ∈ fl p m n ↔ n ≤ x ∧ x < n + m ∧ p x = true
  | 0, n, x => by simp [fl]; omega
  | m + 1, n, x => by
    unfold fl
    by_cases c : p n = true
    · rw [if_pos c, List.mem_cons, fl_mem]
      constructor
      · rintro (h | h)
        · subst h; exact ⟨by omega, by omega, c⟩
        · exact ⟨by omega, by omega, h.2.2⟩
      · rintro ⟨h1, h2, h3⟩
        by_cases k : x = n
        · exact Or.inl k
        · exact Or.inr ⟨by omega, by omega, h3⟩
    · rw [if_neg c, fl_mem]
      constructor
      · rintro ⟨h1, h2, h3⟩
        exact ⟨by omega, by omega, h3⟩
      · rintro ⟨h1, h2, h3⟩
        have : ¬ x = n := fun k => c (by rw [← k]; exact h3)
        exact ⟨by omega, by omega, h3⟩
theorem fl_sorted {p : Nat → Bool} : ∀ {m n : Nat}, (fl p m n).Pairwise (· < ·)
  | 0, _ => List.Pairwise.nil
  | m + 1, n => by
    unfold fl
    by_cases c : p n = true
    · rw [if_pos c, List.pairwise_cons]
      exact ⟨fun x hx => by have := fl_mem.mp hx; omega, fl_sorted⟩
    · rw [if_neg c]
      exact fl_sorted
theorem sorted_ext : ∀ (l k : List Nat), l.Pairwise (· < ·) → k.Pairwise (· < ·) → (∀ x, x ∈ l ↔ x ∈ k) → l = k
  | [], [], _, _, _ => rfl
  | [], y :: k, _, _, h => by
    have := (h y).mpr (by simp)
    cases this
  | x :: l, [], _, _, h => by
    have := (h x).mp (by simp)
    cases this
  | x :: l, y :: k, hl, hk, h => by
    rw [List.pairwise_cons] at hl hk
    have h1 : x = y := by
      rcases List.mem_cons.mp ((h x).mp (by simp)) with e | e
      · exact e
      · have a1 := hk.1 x e
        rcases List.mem_cons.mp ((h y).mpr (by simp)) with e2 | e2
        · exact e2.symm
        · have a2 := hl.1 y e2
          omega
    subst h1
    congr 1
    apply sorted_ext l k hl.2 hk.2
    intro z
    constructor
    · intro hz
      have a1 := hl.1 z hz
      rcases List.mem_cons.mp ((h z).mp (List.mem_cons_of_mem _ hz)) with e | e
      · omega
      · exact e
    · intro hz
      have a1 := hk.1 z hz
      rcases List.mem_cons.mp ((h z).mpr (List.mem_cons_of_mem _ hz)) with e | e
      · omega
      · exact e
theorem fl_phi {D : List (List Nat)} (h30 : D.length ≤ 30) (T : Bd) (R : Nat → Nat) : fl (lc D T R) 4096 0 = (fl (rcd D T R) 2940 0).map phi := by
  apply sorted_ext
  · exact fl_sorted
  · rw [List.pairwise_map]
    exact List.Pairwise.imp (fun h => phi_mono h) fl_sorted
  · intro x
    rw [fl_mem, List.mem_map]
    constructor
    · rintro ⟨_, h2, h3⟩
      have h4 := h3
      unfold lc at h3
      rw [Bool.and_eq_true, decide_eq_true_iff] at h3
      have hw : x % 32 < 30 := by
        by_cases k : D.length ≤ x % 32
        · rw [List.getElem?_eq_none k] at h3
          exact absurd h3.2 (by simp)
        · omega
      obtain ⟨c, hc, e⟩ := phi_inv h3.1.1 h3.1.2 hw (by omega)
      refine ⟨c, fl_mem.mpr ⟨by omega, by omega, ?_⟩, e⟩
      unfold rcd
      rw [e]
      exact h4
    · rintro ⟨c, hc, e⟩
      have hc := fl_mem.mp hc
      refine ⟨by omega, ?_, ?_⟩
      · rw [← e, phi_val]
        omega
      · rw [← e]
        exact hc.2.2
/-- the machine's arithmetic on codes -/
theorem cde {c : Nat} (h : c < 2940) : nI c / 30 = nI (c / 30) ∧ nI c - nI (c / 30) * 30 = nI (c % 30) ∧ nI (c / 30) / 49 = nI (c / 1470) ∧ nI (c / 30) - nI (c / 1470) * 49 = nI (c / 30 % 49) ∧ nI (c / 30 % 49) / 7 = nI (c / 30 % 49 / 7) ∧ nI (c / 30 % 49) - nI (c / 30 % 49 / 7) * 7 = nI (c / 30 % 49 % 7) := by
  have a1 := pk_div (a := c) (d := 30) (by omega) (by omega) (by omega)
  have a2 := pk_rem (a := c) (d := 30) (by omega) (by omega) (by omega)
  have a3 := pk_div (a := c / 30) (d := 49) (by omega) (by omega) (by omega)
  have a4 := pk_rem (a := c / 30) (d := 49) (by omega) (by omega) (by omega)
  have a5 := pk_div (a := c / 30 % 49) (d := 7) (by omega) (by omega) (by omega)
  have a6 := pk_rem (a := c / 30 % 49) (d := 7) (by omega) (by omega) (by omega)
  rw [a1] at a2
  rw [a3] at a4
  rw [a5] at a6
  rw [show c / 30 / 49 = c / 1470 by omega] at a3 a4
  exact ⟨a1, a2, a3, a4, a5, a6⟩
