/-! ===== starts and plays as numbers ===== -/
def stn (d a b : Nat) : Nat := 64 * d + (if d = 0 then 8 * a + b else 8 * b + a)
theorem stn_lt {d a b : Nat} (hd : d < 2) (ha : a < 7) (hb : b < 7) : stn d a b < 128 := by
  unfold stn
  by_cases c : d = 0
  · rw [if_pos c]; omega
  · rw [if_neg c]; omega
theorem st_sq : ∀ d, d < 2 → ∀ a, a < 7 → ∀ b, b < 7 → f_X6_square (nI (stn d a b)) = some (iI (adr d a b)) := by decide +kernel
theorem st_st : ∀ d, d < 2 → ∀ a, a < 7 → ∀ b, b < 7 → f_X6_step (nI (stn d a b)) = some (iI (st d)) := by decide +kernel
theorem st_cs : ∀ d, d < 2 → ∀ a, a < 7 → ∀ b, b < 7 → f_X6_crossStep (nI (stn d a b)) = some (iI (st (1 - d))) := by decide +kernel
theorem st_room : ∀ d, d < 2 → ∀ a, a < 7 → ∀ b, b < 7 → f_X6_room (nI (stn d a b)) = some (nI (7 - b)) := by decide +kernel
theorem st_on : ∀ d, d < 2 → ∀ a, a < 7 → ∀ b, b < 7 → f_X6_isOnBoard (nI (stn d a b)) = some true := by decide +kernel
theorem st_dir : ∀ d, d < 2 → ∀ a, a < 7 → ∀ b, b < 7 → f_X6_direction (nI (stn d a b)) = some (nI d) := by decide +kernel
theorem st_row : ∀ d, d < 2 → ∀ a, a < 7 → ∀ b, b < 7 → f_X6_row (nI (stn d a b)) = some (nI (if d = 0 then a else b)) := by decide +kernel
theorem st_col : ∀ d, d < 2 → ∀ a, a < 7 → ∀ b, b < 7 → f_X6_column (nI (stn d a b)) = some (nI (if d = 0 then b else a)) := by decide +kernel
theorem st_off : ∀ s, s < 128 → (s % 8 = 7 ∨ s / 8 % 8 = 7) → f_X6_isOnBoard (nI s) = some false := by decide +kernel
theorem pc_all : ∀ s, s < 128 → ∀ w, w < 32 → f_X6_withWord (nI s) (nI w) = some (nI (s * 32 + w)) ∧ f_X6_ofPlay (nI (s * 32 + w)) = some (nI s) ∧ f_X6_wordOfPlay (nI (s * 32 + w)) = some (nI w) := by decide +kernel
theorem of_all : ∀ d, d < 2 → ∀ a, a < 7 → ∀ b, b < 7 → f_X6_of (nI d) (nI (if d = 0 then a else b)) (nI (if d = 0 then b else a)) = some (nI (stn d a b)) := by decide +kernel
def sqB (d a b len x : Nat) : Bool := (List.range len).any (fun k => (x : Int) == adr d a (b + k : Nat))
def sqC : Bool := (List.range 2).all fun d => (List.range 7).all fun a => (List.range 7).all fun b => (List.range 8).all fun len => decide (7 < b + len) || match f_X6_squares (nI (stn d a b)) (nI len) with
  | none => false
  | some m => (List.range 64).all (fun x => lb m x == sqB d a b len x)
theorem sqC_ok : sqC = true := by decide +kernel
theorem X6_squares {d a b len : Nat} (hd : d < 2) (ha : a < 7) (hb : b < 7) (hl : b + len ≤ 7) : ∃ m, f_X6_squares (nI (stn d a b)) (nI len) = some m ∧ ∀ x, x < 64 → (lb m x = true ↔ ∃ k, k < len ∧ (x : Int) = adr d a (b + k : Nat)) := by
  have h := sqC_ok
  unfold sqC at h
  have h := List.all_eq_true.mp h d (List.mem_range.mpr hd)
  have h := List.all_eq_true.mp h a (List.mem_range.mpr ha)
  have h := List.all_eq_true.mp h b (List.mem_range.mpr hb)
  have h := List.all_eq_true.mp h len (List.mem_range.mpr (by omega))
  rw [decide_eq_false (by omega), Bool.false_or] at h
  cases e : f_X6_squares (nI (stn d a b)) (nI len) with
  | none =>
    rw [e] at h
    cases h
  | some m =>
    rw [e] at h
    refine ⟨m, rfl, ?_⟩
    intro x hx
    have h2 : (List.range 64).all (fun x => lb m x == sqB d a b len x) = true := h
    have h3 := List.all_eq_true.mp h2 x (List.mem_range.mpr hx)
    rw [beq_iff_eq] at h3
    rw [h3]
    unfold sqB
    rw [List.any_eq_true]
    constructor
    · rintro ⟨k, hk, h⟩
      exact ⟨k, List.mem_range.mp hk, by simpa using h⟩
    · rintro ⟨k, hk, h⟩
      exact ⟨k, List.mem_range.mpr hk, by simpa using h⟩
