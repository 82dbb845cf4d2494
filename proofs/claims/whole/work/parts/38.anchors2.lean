/-! ===== the number of anchors, on the class's side ===== -/
theorem anT_cnt (T : Bd) : ∀ m k, anT T m k = cntR (fun k => isA T (k / 7) (k % 7)) m k
  | 0, _ => rfl
  | m + 1, k => by rw [anT, cntR, anT_cnt T m (k + 1)]
theorem cntR_false {f : Nat → Bool} : ∀ m k, (∀ i, k ≤ i → i < k + m → f i = false) → cntR f m k = 0
  | 0, _, _ => rfl
  | m + 1, k, h => by rw [cntR, h k (by omega) (by omega), cntR_false m (k + 1) (fun i h1 h2 => h i (by omega) (by omega))]; rfl
def anF (T : Bd) (x : Nat) : Bool := decide (x % 8 < 7 ∧ x / 8 < 7) && isA T (x / 8) (x % 8)
theorem an_row (T : Bd) {r : Nat} (hr : r < 7) : ∀ m c, c + m = 7 → cntR (anF T) m (8 * r + c) = cntR (fun k => isA T (k / 7) (k % 7)) m (7 * r + c)
  | 0, _, _ => rfl
  | m + 1, c, h => by
    rw [cntR, cntR]
    have ih := an_row T hr m (c + 1) (by omega)
    rw [← Nat.add_assoc, ← Nat.add_assoc] at ih
    rw [ih]
    have e : anF T (8 * r + c) = isA T ((7 * r + c) / 7) ((7 * r + c) % 7) := by
      unfold anF
      rw [show (8 * r + c) / 8 = r by omega, show (8 * r + c) % 8 = c by omega, show (7 * r + c) / 7 = r by omega, show (7 * r + c) % 7 = c by omega, decide_eq_true (by omega), Bool.true_and]
    rw [e]
theorem an_rows (T : Bd) : ∀ m r, r + m = 7 → cntR (anF T) (8 * m) (8 * r) = cntR (fun k => isA T (k / 7) (k % 7)) (7 * m) (7 * r)
  | 0, _, _ => rfl
  | m + 1, r, h => by
    have ih := an_rows T m (r + 1) (by omega)
    have e := an_row T (r := r) (by omega) 7 0 (by omega)
    rw [Nat.add_zero, Nat.add_zero] at e
    rw [show 8 * (m + 1) = 7 + (1 + 8 * m) by omega, show 7 * (m + 1) = 7 + 7 * m by omega, cntR_add, cntR_add, cntR_add, e, cntR_false 1 (8 * r + 7) (fun i h1 h2 => by
      unfold anF
      rw [decide_eq_false (by omega), Bool.false_and]), Nat.zero_add, show 8 * r + 7 + 1 = 8 * (r + 1) by omega, ih, show 7 * (r + 1) = 7 * r + 7 by omega]
theorem X9_anchors {T : Bd} {σ : St} (h : OC T σ) : f_X9_anchors σ = some (nI (anT T 49 0)) := by
  obtain ⟨m, e, hm⟩ := X0_anchorSquares h
  unfold f_X9_anchors
  have e2 : cntR (anF T) 56 0 = cntR (fun k => isA T (k / 7) (k % 7)) 49 0 := an_rows T 7 0 (by omega)
  have e3 : cntR (anF T) 8 (0 + 56) = 0 := cntR_false 8 (0 + 56) (fun i h1 h2 => by
    unfold anF
    rw [decide_eq_false (by omega), Bool.false_and])
  have e4 : cntR (lb m) 64 0 = cntR (anF T) 64 0 := cntR_cong 64 0 (fun i _ hi => hm i (by omega))
  have e5 : cntR (anF T) 64 0 = cntR (anF T) 56 0 + cntR (anF T) 8 (0 + 56) := cntR_add (anF T) 56 8 0
  rw [e, bno_s, J13_bitCount, bno_s, e4, e5, e3, e2, anT_cnt, Nat.add_zero]
