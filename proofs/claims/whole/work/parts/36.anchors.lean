/-! ===== anchors ===== -/
/-- whether a square is an anchor -/
def isA (T : Bd) (r c : Nat) : Bool := if bare T then decide (r = 3 ∧ c = 3) else (T r c).isNone && ((T ((r : Int) - 1) c).isSome || (T ((r : Int) + 1) c).isSome || (T r ((c : Int) - 1)).isSome || (T r ((c : Int) + 1)).isSome)
theorem X10_isAnchorNow {T : Bd} {σ : St} (h : BR T (ga σ 8)) {r c : Nat} (hr : r < 7) (hc : c < 7) : f_X10_isAnchorNow σ (nI r) (nI c) = some (isA T r c) := by
  unfold f_X10_isAnchorNow isA f_X10_isAnchorNow_76
  rw [X10_isBare h, bno_s, if_b]
  cases bare T with
  | true =>
    rw [if_pos rfl, if_pos rfl]
    have e1 : (nI r = (3 : Int32)) = (r = 3) := propext (nI_eq (b := 3) (by omega) (by omega))
    have e2 : (nI c = (3 : Int32)) = (c = 3) := propext (nI_eq (b := 3) (by omega) (by omega))
    simp only [e1, e2]
    by_cases c1 : r = 3
    · rw [if_pos c1]
      by_cases c2 : c = 3
      · rw [if_pos c2, decide_eq_true ⟨c1, c2⟩]
      · rw [if_neg c2, decide_eq_false (fun q => c2 q.2)]
    · rw [if_neg c1, decide_eq_false (fun q => c1 q.1)]
  | false =>
    rw [if_neg (by simp), if_neg (by simp)]
    simp only [L1, iI_nI, iI_sub, iI_add]
    rw [X10_hasTile h (by omega) (by omega) (by omega) (by omega), bno_s, if_b, X10_hasTile h (by omega) (by omega) (by omega) (by omega), bno_s, if_b, X10_hasTile h (by omega) (by omega) (by omega) (by omega), bno_s, if_b, X10_hasTile h (by omega) (by omega) (by omega) (by omega), bno_s, if_b, X10_hasTile h (by omega) (by omega) (by omega) (by omega), bno_s, if_b]
    cases T r c with
    | some a => rfl
    | none =>
      cases (T ((r : Int) - 1) c).isSome with
      | true => rfl
      | false =>
        cases (T ((r : Int) + 1) c).isSome with
        | true => rfl
        | false =>
          cases (T r ((c : Int) - 1)).isSome with
          | true => rfl
          | false => cases (T r ((c : Int) + 1)).isSome <;> rfl
theorem dm7 : ∀ k, k < 49 → nI k / 7 = nI (k / 7) ∧ nI k - nI k / 7 * 7 = nI (k % 7) := by decide +kernel
/-- how many squares from k on are anchors -/
def anT (T : Bd) : Nat → Nat → Nat
  | 0, _ => 0
  | m + 1, k => (if isA T (k / 7) (k % 7) then 1 else 0) + anT T m (k + 1)
theorem X10_anchors_loop {T : Bd} {σ : St} (h : BR T (ga σ 8)) : ∀ (m k n s : Nat), k + m = 49 → m < n → f_X10_anchorsNow_4 σ n (nI s) (nI k) = some (nI (s + anT T m k)) := by
  intro m
  induction m with
  | zero =>
    intro k n s hk hn
    obtain ⟨n, rfl⟩ : ∃ j, n = j + 1 := ⟨n - 1, by omega⟩
    have : k = 49 := by omega
    subst this
    rw [f_X10_anchorsNow_4, if_pos (by decide)]
    rfl
  | succ m ih =>
    intro k n s hk hn
    obtain ⟨n, rfl⟩ : ∃ j, n = j + 1 := ⟨n - 1, by omega⟩
    have c : ¬ (49 : Int32) ≤ nI k := nI_ge (b := 49) (by omega) (by omega)
    have e := dm7 k (by omega)
    rw [f_X10_anchorsNow_4, if_neg c, e.1, show nI k - nI (k / 7) * 7 = nI (k % 7) by rw [← e.1]; exact e.2, X10_isAnchorNow h (by omega) (by omega), bno_s, if_b, anT]
    unfold f_X10_anchorsNow_31
    rw [nI_1, nI_1, Int32.add_zero]
    by_cases c2 : isA T (k / 7) (k % 7) = true
    · rw [if_pos c2, if_pos c2, ih (k + 1) n (s + 1) (by omega) (by omega), Nat.add_assoc]
    · rw [if_neg c2, if_neg c2, ih (k + 1) n s (by omega) (by omega), Nat.zero_add]
theorem X10_anchorsNow {T : Bd} {σ : St} (h : BR T (ga σ 8)) : f_X10_anchorsNow σ = some (nI (anT T 49 0)) := by
  have := X10_anchors_loop h 49 0 FU 0 (by omega) (FU_big (by omega))
  rw [Nat.zero_add] at this
  exact this
/-- the class's anchors, as bits -/
theorem lb_all : ∀ i, i < 64 → lb 35887507618889599 i = decide (i % 8 < 7 ∧ i / 8 < 7) := by decide +kernel
theorem sq_rc (x : Nat) : (x : Int) = adr 0 (x / 8 : Nat) (x % 8 : Nat) := by
  unfold adr
  rw [if_pos rfl]
  omega
theorem X0_anchorSquares {T : Bd} {σ : St} (h : OC T σ) : ∃ m, f_X0_anchorSquares σ = some m ∧ ∀ x, x < 64 → lb m x = (decide (x % 8 < 7 ∧ x / 8 < 7) && isA T (x / 8) (x % 8)) := by
  unfold f_X0_anchorSquares isA
  simp only [cmp_0, oc_zero h]
  cases bare T with
  | true =>
    rw [if_pos rfl]
    refine ⟨_, rfl, ?_⟩
    intro x hx
    rw [if_pos rfl, lb_centre x hx, ← Bool.decide_and]
    exact dec_cong (by omega)
  | false =>
    rw [if_neg (by simp), lt_e, lt_e]
    unfold f_X0_emptyOf
    refine ⟨_, rfl, ?_⟩
    intro x hx
    rw [lb_and, lb_and, lb_or, lb_or, lb_or, lb_not hx, lb_all x hx, if_neg (by simp)]
    by_cases c : x % 8 < 7 ∧ x / 8 < 7
    · rw [decide_eq_true c, Bool.and_true, Bool.true_and]
      have e0 := sq_rc x
      have e1 : (x : Int) = adr 1 (x % 8 : Nat) (x / 8 : Nat) := e0.trans (adr_turn (d := 0) (by omega) _ _)
      have b1 := bit_back h hx e0 (by omega) (by omega)
      have b2 := bit_on h hx e0 (by omega) (by omega)
      have b3 := bit_back h hx e1 (by omega) (by omega)
      have b4 := bit_on h hx e1 (by omega) (by omega)
      have s1 : iI (st 0) = (1 : Int32) := rfl
      have s8 : iI (st 1) = (8 : Int32) := rfl
      rw [s1] at b1 b2
      rw [s8] at b3 b4
      rw [b1, b2, b3, b4, oc_bit h hx, e0, cell_adr h.1 (by omega) (by omega) (by omega) (by omega)]
      show _ = ((T (x / 8 : Nat) (x % 8 : Nat)).isNone && _)
      have m0 : ∀ a b, M T 0 a b = T a b := fun a b => rfl
      have m1 : ∀ a b, M T 1 a b = T b a := fun a b => rfl
      rw [m0, m0, m0, m1, m1]
      cases T (x / 8 : Nat) (x % 8 : Nat) with
      | some a => simp
      | none =>
        cases (T (x / 8 : Nat) (((x % 8 : Nat) : Int) - 1)).isSome <;> cases (T (x / 8 : Nat) (((x % 8 : Nat) : Int) + 1)).isSome <;> cases (T (((x / 8 : Nat) : Int) - 1) (x % 8 : Nat)).isSome <;> cases (T (((x / 8 : Nat) : Int) + 1) (x % 8 : Nat)).isSome <;> rfl
    · rw [decide_eq_false c, Bool.and_false, Bool.false_and, Bool.false_and]
