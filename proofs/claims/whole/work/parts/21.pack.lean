/-! ===== words as numbers ===== -/
def pw : Nat → List Nat → Nat
  | _, [] => 0
  | k, a :: t => a * 8 ^ k + pw (k - 1) t
def pk (t : List Nat) : Nat := pw 7 t + t.length
def lt8 (t : List Nat) : Prop := ∀ x ∈ t, x < 8
theorem lt8_cons {a : Nat} {t : List Nat} : lt8 (a :: t) ↔ a < 8 ∧ lt8 t := List.forall_mem_cons
theorem pow8_succ {k : Nat} (h : 0 < k) : 8 ^ k = 8 * 8 ^ (k - 1) := by
  obtain ⟨j, rfl⟩ : ∃ j, k = j + 1 := ⟨k - 1, by omega⟩
  rw [Nat.add_sub_cancel, Nat.pow_succ, Nat.mul_comm]
theorem pw_lt : ∀ (t : List Nat) (k : Nat), lt8 t → t.length ≤ k → pw k t < 8 ^ (k + 1)
  | [], k, _, _ => by
    show 0 < 8 ^ (k + 1)
    exact Nat.pow_pos (by omega)
  | a :: t, k, h, hl => by
    obtain ⟨ha, ht⟩ := lt8_cons.mp h
    have hk : 0 < k := by simp at hl; omega
    have ih := pw_lt t (k - 1) ht (by simp at hl; omega)
    rw [show k - 1 + 1 = k by omega] at ih
    have e : (8 : Nat) ^ (k + 1) = 8 * 8 ^ k := by rw [Nat.pow_succ, Nat.mul_comm]
    have h7 : a * 8 ^ k ≤ 7 * 8 ^ k := Nat.mul_le_mul_right _ (by omega)
    show a * 8 ^ k + pw (k - 1) t < 8 ^ (k + 1)
    omega
/-- the low places are free -/
theorem pw_dvd : ∀ (t : List Nat) (k : Nat), t.length ≤ k → 8 ^ (k + 1 - t.length) ∣ pw k t
  | [], k, _ => Nat.dvd_zero _
  | a :: t, k, hl => by
    have hk : 0 < k := by simp at hl; omega
    have ih := pw_dvd t (k - 1) (by simp at hl; omega)
    have e1 : k - 1 + 1 - t.length = k + 1 - (a :: t).length := by simp; omega
    rw [e1] at ih
    refine Nat.dvd_add ?_ ih
    exact Nat.dvd_trans (Nat.pow_dvd_pow 8 (by simp)) (Nat.dvd_mul_left _ _)
theorem pw_get : ∀ (t : List Nat) (k i a : Nat), lt8 t → t.length ≤ k → t[i]? = some a → pw k t / 8 ^ (k - i) % 8 = a
  | [], _, i, a, _, _, h => by simp at h
  | b :: t, k, 0, a, h, hl, hi => by
    obtain ⟨hb, ht⟩ := lt8_cons.mp h
    have e : b = a := by simpa using hi
    subst e
    have hk : 0 < k := by simp at hl; omega
    have h1 := pw_lt t (k - 1) ht (by simp at hl; omega)
    rw [show k - 1 + 1 = k by omega] at h1
    show (b * 8 ^ k + pw (k - 1) t) / 8 ^ k % 8 = b
    rw [Nat.mul_comm, Nat.mul_add_div (Nat.pow_pos (by omega)), Nat.div_eq_of_lt h1, Nat.add_zero, Nat.mod_eq_of_lt hb]
  | b :: t, k, i + 1, a, h, hl, hi => by
    obtain ⟨hb, ht⟩ := lt8_cons.mp h
    have hi2 : t[i]? = some a := by simpa using hi
    have hlt : i < t.length := (List.getElem?_eq_some_iff.mp hi2).1
    have hl2 : t.length + 1 ≤ k := by simpa using hl
    have ih := pw_get t (k - 1) i a ht (by omega) hi2
    show (b * 8 ^ k + pw (k - 1) t) / 8 ^ (k - (i + 1)) % 8 = a
    have e : b * 8 ^ k = 8 ^ (k - (i + 1)) * (8 * (b * 8 ^ i)) := by
      have e2 : (8 : Nat) ^ k = 8 ^ (k - (i + 1)) * (8 ^ i * 8) := by
        rw [← Nat.pow_succ, ← Nat.pow_add]
        congr 1
        omega
      rw [e2, Nat.mul_left_comm, Nat.mul_comm 8 (b * 8 ^ i), Nat.mul_assoc b]
    rw [e, Nat.mul_add_div (Nat.pow_pos (by omega)), Nat.mul_add_mod]
    rw [show k - (i + 1) = k - 1 - i by omega]
    exact ih
theorem pw_app : ∀ (t : List Nat) (k l : Nat), t.length ≤ k → pw k (t ++ [l]) = pw k t + l * 8 ^ (k - t.length)
  | [], k, l, _ => by
    show l * 8 ^ k + 0 = 0 + l * 8 ^ (k - 0)
    rw [Nat.sub_zero, Nat.zero_add, Nat.add_zero]
  | a :: t, k, l, hl => by
    have hl2 : t.length + 1 ≤ k := by simpa using hl
    have ih := pw_app t (k - 1) l (by omega)
    show a * 8 ^ k + pw (k - 1) (t ++ [l]) = a * 8 ^ k + pw (k - 1) t + l * 8 ^ (k - (t.length + 1))
    rw [ih, Nat.add_assoc, show k - (t.length + 1) = k - 1 - t.length by omega]
theorem pw_mod8 {t : List Nat} (h : t.length ≤ 7) : pw 7 t % 8 = 0 := by
  have h1 : 8 ^ 1 ∣ pw 7 t := Nat.dvd_trans (Nat.pow_dvd_pow 8 (by omega)) (pw_dvd t 7 h)
  exact Nat.mod_eq_zero_of_dvd (by simpa using h1)
theorem pkw_lt {t : List Nat} (h8 : lt8 t) (h : t.length ≤ 7) : pk t < 16777216 := by
  have h1 := pw_lt t 7 h8 h
  have h2 := pw_mod8 h
  have e : (8 : Nat) ^ (7 + 1) = 16777216 := by decide
  rw [e] at h1
  unfold pk
  omega
theorem pkw_mod {t : List Nat} (h : t.length ≤ 7) : pk t % 8 = t.length := by
  have h2 := pw_mod8 h
  unfold pk
  omega
theorem pkw_get {t : List Nat} {i a : Nat} (h8 : lt8 t) (h : t.length ≤ 7) (hi : t[i]? = some a) : pk t / 8 ^ (7 - i) % 8 = a := by
  have h1 := pw_get t 7 i a h8 h hi
  have hlt : i < t.length := (List.getElem?_eq_some_iff.mp hi).1
  have h2 := pw_mod8 h
  obtain ⟨m, hm⟩ : ∃ m, pw 7 t = 8 * m := ⟨pw 7 t / 8, by omega⟩
  unfold pk
  rw [pow8_succ (show 0 < 7 - i by omega)] at h1 ⊢
  rw [← Nat.div_div_eq_div_mul] at h1 ⊢
  rw [show (pw 7 t + t.length) / 8 = pw 7 t / 8 by omega]
  exact h1
theorem pkw_app {t : List Nat} {l : Nat} (h : t.length < 7) : pk (t ++ [l]) = pk t + 1 + l * 8 ^ (7 - t.length) := by
  unfold pk
  rw [pw_app t 7 l (by omega), List.length_append]
  simp
  omega
/-- the new letter's bits don't meet the others -/
theorem pkw_or {t : List Nat} {l : Nat} (h : t.length < 7) (hl : l < 8) : (pk t + 1) ||| (l * 8 ^ (7 - t.length)) = pk (t ++ [l]) := by
  have hd := pw_dvd t 7 (by omega)
  obtain ⟨A, hA⟩ := hd
  have e8 : ∀ n : Nat, (8 : Nat) ^ n = 2 ^ (3 * n) := fun n => by rw [show (8 : Nat) = 2 ^ 3 by decide, ← Nat.pow_mul]
  rw [pkw_app h]
  unfold pk
  rw [hA]
  have hs : 7 + 1 - t.length = 8 - t.length := by omega
  rw [hs, e8, e8]
  have hc : 2 ^ (3 * (8 - t.length)) = 8 * 2 ^ (3 * (7 - t.length)) := by
    rw [show 3 * (8 - t.length) = 3 + 3 * (7 - t.length) by omega, Nat.pow_add]
  have hb : 8 ≤ 2 ^ (3 * (7 - t.length)) := by
    have := Nat.pow_le_pow_right (show 0 < 2 by omega) (show 3 ≤ 3 * (7 - t.length) by omega)
    simpa using this
  have hlen : t.length + 1 < 2 ^ (3 * (7 - t.length)) := by omega
  have hlow : l * 2 ^ (3 * (7 - t.length)) + (t.length + 1) < 2 ^ (3 * (8 - t.length)) := by
    have h7 : l * 2 ^ (3 * (7 - t.length)) ≤ 7 * 2 ^ (3 * (7 - t.length)) := Nat.mul_le_mul_right _ (by omega)
    omega
  have hlen2 : t.length + 1 < 2 ^ (3 * (8 - t.length)) := by omega
  have h1 := Nat.two_pow_add_eq_or_of_lt hlen2 A
  have h2 := Nat.two_pow_add_eq_or_of_lt hlen l
  have h3 := Nat.two_pow_add_eq_or_of_lt (show 2 ^ (3 * (7 - t.length)) * l + (t.length + 1) < 2 ^ (3 * (8 - t.length)) by rw [Nat.mul_comm]; exact hlow) A
  calc (2 ^ (3 * (8 - t.length)) * A + t.length + 1) ||| (l * 2 ^ (3 * (7 - t.length))) = (2 ^ (3 * (8 - t.length)) * A ||| (t.length + 1)) ||| (2 ^ (3 * (7 - t.length)) * l) := by rw [← h1, Nat.mul_comm l, Nat.add_assoc]
    _ = 2 ^ (3 * (8 - t.length)) * A ||| (2 ^ (3 * (7 - t.length)) * l ||| (t.length + 1)) := by rw [Nat.or_assoc, Nat.or_comm (t.length + 1)]
    _ = 2 ^ (3 * (8 - t.length)) * A + (2 ^ (3 * (7 - t.length)) * l + (t.length + 1)) := by rw [← h2, ← h3]
    _ = 2 ^ (3 * (8 - t.length)) * A + t.length + 1 + l * 2 ^ (3 * (7 - t.length)) := by rw [Nat.mul_comm l]; omega
/-! ===== the class's words ===== -/
theorem shl3 : ∀ j, j < 8 → ((nI (3 * j) &&& 31).toBitVec.smod 32).toNat = 3 * j := by decide +kernel
theorem ush3 : ∀ j, j < 8 → (((nI (3 * j)).toUInt32 &&& Int32.toUInt32 31).toBitVec % 32).toNat = 3 * j := by decide +kernel
theorem mul37 : ∀ i, i < 8 → (3 : Int32) * ((7 : Int32) - nI i) = nI (3 * (7 - i)) := by decide +kernel
theorem e8p (n : Nat) : (8 : Nat) ^ n = 2 ^ (3 * n) := by rw [show (8 : Nat) = 2 ^ 3 by decide, ← Nat.pow_mul]
theorem X8_length {t : List Nat} (h8 : lt8 t) (h : t.length ≤ 7) : f_X8_length (nI (pk t)) = some (nI t.length) := by
  have hb := pkw_lt h8 h
  unfold f_X8_length
  rw [pk_andN (by omega) 3 (by decide), show (2 : Nat) ^ 3 = 8 by decide, pkw_mod h]
theorem X8_letter {t : List Nat} {i a : Nat} (h8 : lt8 t) (h : t.length ≤ 7) (hi : t[i]? = some a) : f_X8_letter (nI (pk t)) (nI i) = some (nI a) := by
  have hb := pkw_lt h8 h
  have hlt : i < t.length := (List.getElem?_eq_some_iff.mp hi).1
  unfold f_X8_letter iush
  rw [mul37 i (by omega), pk_ushrN (by omega) _ (3 * (7 - i)) (ush3 (7 - i) (by omega)), pk_andN (Nat.lt_of_le_of_lt (Nat.div_le_self _ _) (by omega)) 3 (by decide), ← e8p, show (2 : Nat) ^ 3 = 8 by decide, pkw_get h8 h hi]
theorem X8_append {t : List Nat} {l : Nat} (h8 : lt8 t) (h : t.length < 7) (hl : l < 8) : f_X8_append (nI (pk t)) (nI l) = some (nI (pk (t ++ [l]))) := by
  have hb := pkw_lt h8 (by omega)
  have hlen : nI (pk t) &&& 7 = nI t.length := by
    rw [pk_andN (by omega) 3 (by decide), show (2 : Nat) ^ 3 = 8 by decide, pkw_mod (by omega)]
  have h7 : nI t.length < 7 := nI_lt (a := t.length) (b := 7) (by omega) (by omega)
  unfold f_X8_append
  rw [hlen, if_pos h7, mul37 t.length (by omega), nI_1, pk_shlN _ (3 * (7 - t.length)) (shl3 (7 - t.length) (by omega)) ?_, ← e8p, fa_or, pkw_or h hl]
  rw [← e8p]
  have h1 : 8 ^ (7 - t.length) ≤ 8 ^ 7 := Nat.pow_le_pow_right (by omega) (by omega)
  have h2 : l * 8 ^ (7 - t.length) ≤ 7 * 8 ^ 7 := Nat.mul_le_mul (by omega) h1
  have h3 : (8 : Nat) ^ 7 = 2097152 := by decide
  omega
