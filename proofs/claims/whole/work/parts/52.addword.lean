/-! ===== a word is added ===== -/
theorem pw_small {t : List Nat} {k : Nat} (h8 : lt8 t) (hk : 1 ≤ k) (hk7 : k ≤ 7) (hl : t.length + 1 ≤ k) : pw (k - 1) t + t.length + 1 < 8 ^ k := by
  have h1 := pw_lt t (k - 1) h8 (by omega)
  obtain ⟨A, hA⟩ := pw_dvd t (k - 1) (by omega)
  rw [show k - 1 + 1 = k by omega] at h1 hA
  have e : (8 : Nat) ^ k = 8 ^ (k - t.length) * 8 ^ t.length := by
    rw [← Nat.pow_add]
    congr 1
    omega
  have hp : 0 < 8 ^ (k - t.length) := Nat.pow_pos (by omega)
  have h2 : 8 ^ 1 ≤ 8 ^ (k - t.length) := Nat.pow_le_pow_right (by omega) (by omega)
  rw [hA, e] at h1
  have h3 : A < 8 ^ t.length := Nat.lt_of_mul_lt_mul_left h1
  have h4 : 8 ^ (k - t.length) * (A + 1) ≤ 8 ^ (k - t.length) * 8 ^ t.length := Nat.mul_le_mul_left _ h3
  rw [Nat.mul_add, Nat.mul_one] at h4
  rw [hA, e]
  omega
theorem cmp_pw : ∀ (u t : List Nat) (k : Nat), k ≤ 7 → lt8 u → lt8 t → u.length ≤ k → t.length ≤ k → (cmpL u t < 0 ↔ pw k u + u.length < pw k t + t.length)
  | [], [], k, _, _, _, _, _ => by simp [cmpL]
  | [], y :: t, k, _, _, _, _, _ => by
    unfold cmpL
    show (-((t.length + 1 : Nat) : Int) < 0) ↔ 0 + 0 < pw k (y :: t) + (t.length + 1)
    omega
  | x :: u, [], k, _, _, _, _, _ => by
    unfold cmpL
    show (((u.length + 1 : Nat) : Int) < 0) ↔ pw k (x :: u) + (u.length + 1) < 0 + 0
    omega
  | x :: u, y :: t, k, hk, hu, ht, lu, lt => by
    obtain ⟨hx, hu⟩ := lt8_cons.mp hu
    obtain ⟨hy, ht⟩ := lt8_cons.mp ht
    have lu' : u.length + 1 ≤ k := lu
    have lt' : t.length + 1 ≤ k := lt
    have ih := cmp_pw u t (k - 1) (by omega) hu ht (by omega) (by omega)
    have b1 := pw_small hu (by omega) hk lu'
    have b2 := pw_small ht (by omega) hk lt'
    unfold cmpL
    show _ ↔ x * 8 ^ k + pw (k - 1) u + (u.length + 1) < y * 8 ^ k + pw (k - 1) t + (t.length + 1)
    by_cases c : x = y
    · rw [if_pos c, ih, c]
      omega
    · rw [if_neg c]
      rcases (by omega : x < y ∨ y < x) with c2 | c2
      · have h1 : (x + 1) * 8 ^ k ≤ y * 8 ^ k := Nat.mul_le_mul_right _ c2
        rw [Nat.add_mul, Nat.one_mul] at h1
        constructor
        · intro _
          omega
        · intro _
          omega
      · have h1 : (y + 1) * 8 ^ k ≤ x * 8 ^ k := Nat.mul_le_mul_right _ c2
        rw [Nat.add_mul, Nat.one_mul] at h1
        constructor
        · intro h
          omega
        · intro h
          omega
theorem cmp_pk {u t : List Nat} (hu : okW u) (ht : okW t) : cmpL u t < 0 ↔ pk u < pk t := cmp_pw u t 7 (Nat.le_refl 7) hu.1 ht.1 hu.2 ht.2
def ins (t : List Nat) : List (List Nat) → List (List Nat)
  | [] => [t]
  | u :: D => if pk u < pk t then u :: ins t D else t :: u :: D
theorem ins_mem (t x : List Nat) : ∀ D, x ∈ ins t D ↔ x = t ∨ x ∈ D
  | [] => by simp [ins]
  | u :: D => by
    unfold ins
    by_cases c : pk u < pk t
    · rw [if_pos c, List.mem_cons, ins_mem t x D, List.mem_cons]
      constructor
      · rintro (h | h | h)
        · exact Or.inr (Or.inl h)
        · exact Or.inl h
        · exact Or.inr (Or.inr h)
      · rintro (h | h | h)
        · exact Or.inr (Or.inl h)
        · exact Or.inl h
        · exact Or.inr (Or.inr h)
    · rw [if_neg c, List.mem_cons]
theorem ins_len (t : List Nat) : ∀ D, (ins t D).length = D.length + 1
  | [] => rfl
  | u :: D => by
    unfold ins
    by_cases c : pk u < pk t
    · rw [if_pos c, List.length_cons, ins_len t D, List.length_cons]
    · rw [if_neg c]
      rfl
theorem ins_SD (t : List Nat) : ∀ D, SD D → (∀ u ∈ D, pk u ≠ pk t) → SD (ins t D)
  | [], _, _ => List.pairwise_singleton _ _
  | u :: D, h, hn => by
    unfold SD at h
    rw [List.pairwise_cons] at h
    have hu := hn u (by simp)
    unfold ins SD
    by_cases c : pk u < pk t
    · rw [if_pos c, List.pairwise_cons]
      refine ⟨?_, ins_SD t D h.2 (fun z hz => hn z (by simp [hz]))⟩
      intro x hx
      rcases (ins_mem t x D).mp hx with rfl | hx
      · exact c
      · exact h.1 x hx
    · rw [if_neg c, List.pairwise_cons, List.pairwise_cons]
      refine ⟨?_, h⟩
      intro x hx
      rcases List.mem_cons.mp hx with rfl | hx
      · omega
      · have := h.1 x hx
        omega
theorem ins_get (t : List Nat) : ∀ (D : List (List Nat)) (k : Nat), (∀ w u, D[w]? = some u → w < k → pk u < pk t) → (∀ w u, D[w]? = some u → k ≤ w → ¬ pk u < pk t) → k ≤ D.length → ∀ w, (ins t D)[w]? = if w < k then D[w]? else if w = k then some t else D[w - 1]?
  | [], k, _, _, hk, w => by
    have : k = 0 := by simpa using hk
    subst this
    rw [if_neg (by omega)]
    match w with
    | 0 => rfl
    | w + 1 => rw [if_neg (by omega)]; rfl
  | u :: D, 0, _, h2, _, w => by
    have c := h2 0 u rfl (Nat.le_refl 0)
    unfold ins
    rw [if_neg c, if_neg (by omega)]
    match w with
    | 0 => rfl
    | w + 1 => rw [if_neg (by omega)]; rfl
  | u :: D, k + 1, h1, h2, hk, w => by
    have c := h1 0 u rfl (by omega)
    have hk' : k + 1 ≤ D.length + 1 := hk
    have ih := ins_get t D k (fun w v hv hw => h1 (w + 1) v hv (by omega)) (fun w v hv hw => h2 (w + 1) v hv (by omega)) (by omega)
    unfold ins
    rw [if_pos c]
    match w with
    | 0 =>
      rw [if_pos (by omega)]
      rfl
    | w + 1 =>
      show (ins t D)[w]? = _
      rw [ih w]
      by_cases k1 : w < k
      · rw [if_pos k1, if_pos (by omega)]
        rfl
      · rw [if_neg k1]
        by_cases k2 : w = k
        · rw [if_pos k2, if_neg (by omega), if_pos (by omega)]
        · rw [if_neg k2, if_neg (by omega), if_neg (by omega)]
          obtain ⟨z, rfl⟩ : ∃ z, w = z + 1 := ⟨w - 1, by omega⟩
          rfl
/-- what keeps all but the dictionary -/
def KD (σ σ' : St) : Prop := (∀ k, k ≠ 1 → gi σ' k = gi σ k) ∧ (∀ k, k ≠ 0 → ga σ' k = ga σ k) ∧ ∀ k, gl σ' k = gl σ k
section
variable {D : List (List Nat)} {t : List Nat}
theorem X1_add_loop (hok : ∀ u ∈ D, okW u ∧ 2 ≤ u.length) (ht : okW t) (hn : D.length < 30) (hne : ∀ u ∈ D, pk u ≠ pk t) (hs : SD D) : ∀ (k n : Nat) (σ : St), k ≤ D.length → k < n → gi σ 1 = nI D.length → (∀ w u, D[w]? = some u → w < k → ga σ 0 w = nI (pk u)) → (∀ w u, D[w]? = some u → k ≤ w → ga σ 0 (w + 1) = nI (pk u) ∧ pk t < pk u) →
    ∃ σ', f_X1_add_22 n σ (nI (pk t)) (nI k) = some σ' ∧ gi σ' 1 = nI (D.length + 1) ∧ (∀ w u, (ins t D)[w]? = some u → ga σ' 0 w = nI (pk u)) ∧ KD σ σ' := by
  have bt := pkw_lt ht.1 ht.2
  intro k
  induction k with
  | zero =>
    intro n σ hk hn2 h1 h2 h3
    obtain ⟨n, rfl⟩ : ∃ j, n = j + 1 := ⟨n - 1, by omega⟩
    have hg := ins_get t D 0 (fun w u _ hw => by omega) (fun w u hu _ => by have := (h3 w u hu (by omega)).2; omega) (by omega)
    rw [f_X1_add_22, if_pos (show nI 0 ≤ 0 by decide)]
    unfold f_X1_add_58
    rw [ixo_nI (by omega) (by omega), lt_e, lt_e, nI_clamp (by omega)]
    refine ⟨_, rfl, ?_, ?_, ⟨fun k hk => ?_, fun k hk => ?_, fun _ => rfl⟩⟩
    · show gi σ 1 + 1 = _
      rw [h1, nI_1]
    · intro w u hu
      rw [hg w, if_neg (by omega)] at hu
      show (if w = 0 then nI (pk t) else ga σ 0 w) = _
      by_cases c : w = 0
      · rw [if_pos c] at hu ⊢
        cases hu
        rfl
      · rw [if_neg c] at hu ⊢
        have := (h3 (w - 1) u hu (by omega)).1
        rwa [show w - 1 + 1 = w by omega] at this
    · show (if k = 1 then _ else gi σ k) = _
      rw [if_neg hk]
    · show (if k = 0 then _ else ga σ k) = _
      rw [if_neg hk]
  | succ k ih =>
    intro n σ hk hn2 h1 h2 h3
    obtain ⟨n, rfl⟩ : ∃ j, n = j + 1 := ⟨n - 1, by omega⟩
    have hu : D[k]? = some D[k] := List.getElem?_eq_getElem (by omega)
    have hw := hok D[k] (List.getElem_mem _)
    have hne1 := hne D[k] (List.getElem_mem _)
    have bu := pkw_lt hw.1.1 hw.1.2
    have e1 : nI (k + 1) - 1 = nI k := nI_subN (a := k + 1) (b := 1) (by omega)
    have e2 : nI (k + 1) + -1 = nI k := by
      rw [iI_nI, iI_nI, iI_m1, iI_add]
      congr 1
      omega
    have c0 : ¬ nI (k + 1) ≤ 0 := nI_ge (a := 0) (by omega) (by omega)
    have e3 : (nI (pk D[k]) ≤ nI (pk t)) = (pk D[k] ≤ pk t) := propext (nI_leI (by omega) (by omega))
    rw [f_X1_add_22, if_neg c0, e1, ixo_nI (by omega) (by omega), nI_clamp (by omega), h2 k _ hu (by omega)]
    simp only [e3]
    by_cases c : pk D[k] ≤ pk t
    · have hlt : ∀ w u, D[w]? = some u → w < k + 1 → pk u < pk t := by
        intro w u hu2 hw2
        obtain ⟨hw3, rfl⟩ := List.getElem?_eq_some_iff.mp hu2
        by_cases c2 : w = k
        · subst c2
          omega
        · have := List.pairwise_iff_getElem.mp hs w k hw3 (by omega) (by omega)
          omega
      have hg := ins_get t D (k + 1) hlt (fun w u hu hw => by have := (h3 w u hu hw).2; omega) hk
      rw [if_pos c]
      unfold f_X1_add_58
      rw [ixo_nI (by omega) (by omega), lt_e, lt_e, nI_clamp (by omega)]
      refine ⟨_, rfl, ?_, ?_, ⟨fun k hk => ?_, fun k hk => ?_, fun _ => rfl⟩⟩
      · show gi σ 1 + 1 = _
        rw [h1, nI_1]
      · intro w u hu
        rw [hg w] at hu
        show (if w = k + 1 then nI (pk t) else ga σ 0 w) = _
        by_cases c2 : w = k + 1
        · rw [if_neg (by omega), if_pos c2] at hu
          rw [if_pos c2]
          cases hu
          rfl
        · rw [if_neg c2]
          by_cases c3 : w < k + 1
          · rw [if_pos c3] at hu
            exact h2 w u hu c3
          · rw [if_neg c3, if_neg c2] at hu
            have := (h3 (w - 1) u hu (by omega)).1
            rwa [show w - 1 + 1 = w by omega] at this
      · show (if k = 1 then _ else gi σ k) = _
        rw [if_neg hk]
      · show (if k = 0 then _ else ga σ k) = _
        rw [if_neg hk]
    · rw [if_neg c, ixo_nI (by omega) (by omega), ixo_nI (by omega) (by omega), lt_e, nI_clamp (by omega), e2]
      obtain ⟨σ', e, r1, r2, r3⟩ := ih n (sa σ 0 (upd (ga σ 0) (k + 1) (nI (pk D[k])))) (by omega) (by omega) h1 (by
        intro w u hu2 hw2
        show (if w = k + 1 then _ else ga σ 0 w) = _
        rw [if_neg (by omega)]
        exact h2 w u hu2 (by omega)) (by
        intro w u hu2 hw2
        show (if w + 1 = k + 1 then nI (pk D[k]) else ga σ 0 (w + 1)) = _ ∧ _
        by_cases c2 : w = k
        · subst c2
          rw [hu] at hu2
          cases hu2
          rw [if_pos rfl]
          exact ⟨rfl, by omega⟩
        · rw [if_neg (by omega)]
          exact h3 w u hu2 (by omega))
      refine ⟨σ', ?_, r1, r2, ⟨r3.1, fun j hj => ?_, r3.2.2⟩⟩
      · exact e
      · rw [r3.2.1 j hj]
        show (if j = 0 then _ else ga σ j) = _
        rw [if_neg hj]
theorem X1_add {σ : St} (hD : CD D σ) (ht : okW t) (h2 : 2 ≤ t.length) (hn : D.length < 30) (hs : SD D) : ∃ σ', f_X1_add σ (nI (pk t)) = some σ' ∧ CD (if t ∈ D then D else ins t D) σ' ∧ KD σ σ' := by
  unfold f_X1_add
  rw [X1_isFull hD, decide_eq_false (by omega), bno_s, if_b, if_neg (by simp), X1_numberOf hD ht, bno_s]
  simp only [num_m1 hD.2.1]
  by_cases c : t ∈ D
  · rw [if_neg (fun q => q c), if_pos c]
    exact ⟨σ, rfl, hD, fun _ _ => rfl, fun _ _ => rfl, fun _ => rfl⟩
  · rw [if_pos c, if_neg c, hD.1]
    have hne : ∀ u ∈ D, pk u ≠ pk t := fun u hu q => c (by
      have hw := (hD.2.2.1 u hu).1
      rw [← pk_inj hw.1 ht.1 hw.2 ht.2 q]
      exact hu)
    obtain ⟨σ', e, r1, r2, r3⟩ := X1_add_loop hD.2.2.1 ht hn hne hs D.length FU σ (Nat.le_refl _) (FU_big (by omega)) hD.1 (fun w u hu _ => hD.2.2.2 w u hu) (fun w u hu hw => by
      have := (List.getElem?_eq_some_iff.mp hu).1
      omega)
    refine ⟨σ', e, ⟨by rw [r1, ins_len], by rw [ins_len]; omega, ?_, r2⟩, r3⟩
    intro x hx
    rcases (ins_mem t x D).mp hx with rfl | hx
    · exact ⟨ht, h2⟩
    · exact hD.2.2.1 x hx
/-- where the reference puts it -/
theorem X10_add_at {σ : St} (hD : AD D (ga σ 0)) (ht : HW t σ) : ∀ (m k n : Nat), k + m = D.length → m < n → (∀ w u, D[w]? = some u → w < k → pk u < pk t) →
    ∃ a, a ≤ D.length ∧ f_X10_addWord_67 n σ (nI k) = f_X10_addWord_92 σ (nI a) ∧ (∀ w u, D[w]? = some u → w < a → pk u < pk t) ∧ ∀ u, D[a]? = some u → ¬ pk u < pk t := by
  have h30 := hD.2.1
  intro m
  induction m with
  | zero =>
    intro k n hk hn h
    obtain ⟨n, rfl⟩ : ∃ j, n = j + 1 := ⟨n - 1, by omega⟩
    refine ⟨k, by omega, ?_, h, ?_⟩
    · rw [f_X10_addWord_67, show (16 : Int32) = nI 16 from rfl, ixo_nI (by omega) (by omega), nI_clamp (by omega), hD.1, if_pos (nI_le (by omega) (by omega))]
    · intro u hu
      have := (List.getElem?_eq_some_iff.mp hu).1
      omega
  | succ m ih =>
    intro k n hk hn h
    obtain ⟨n, rfl⟩ : ∃ j, n = j + 1 := ⟨n - 1, by omega⟩
    have hlt : k < D.length := by omega
    have hu : D[k]? = some D[k] := List.getElem?_eq_getElem hlt
    have hw := (hD.2.2.1 D[k] (List.getElem_mem hlt)).1
    have hb := cmpL_bd D[k] t hw.1 ht.2.1.1 hw.2 ht.2.1.2
    have hc := cmp_pk hw ht.2.1
    rw [f_X10_addWord_67, show (16 : Int32) = nI 16 from rfl, ixo_nI (by omega) (by omega), nI_clamp (by omega), hD.1, if_neg (nI_ge hlt (by omega)), X10_against hD ht hu, bno_s]
    simp (disch := omega) only [iI_0le]
    by_cases c : 0 ≤ cmpL D[k] t
    · rw [if_pos c]
      refine ⟨k, by omega, rfl, h, ?_⟩
      intro u hu2
      rw [hu] at hu2
      cases hu2
      rw [← hc]
      omega
    · rw [if_neg c, nI_1]
      refine ih (k + 1) n (by omega) (by omega) ?_
      intro w u hu2 hw2
      by_cases c2 : w = k
      · subst c2
        rw [hu] at hu2
        cases hu2
        rw [← hc]
        omega
      · exact h w u hu2 (by omega)
theorem X10_add_shift (g0 : Nat → Int32) {a N : Nat} (ha : a ≤ N) (hN : N < 30) : ∀ (w n z : Nat) (σ : St), z = 24 + 8 * a + w → w < n → z ≤ 24 + 8 * N → (∀ j, z < j → j ≤ 24 + 8 * N → ga σ 0 j = g0 (j - 8)) → (∀ j, j ≤ z ∨ 24 + 8 * N < j → ga σ 0 j = g0 j) →
    ∃ σ', f_X10_addWord_109 n σ (nI a) (nI z) = f_X10_addWord_162 FU (sa σ' 0 (upd (ga σ' 0) (17 + 8 * a) (gi σ' 7))) (nI a) 0 ∧ (∀ j, 25 + 8 * a ≤ j → j ≤ 24 + 8 * N → ga σ' 0 j = g0 (j - 8)) ∧ (∀ j, j < 25 + 8 * a ∨ 24 + 8 * N < j → ga σ' 0 j = g0 j) ∧ FR [] [0] σ σ' := by
  have ea : (17 : Int32) + 8 * nI a = nI (17 + 8 * a) := by
    simp only [L17, L8, iI_nI, iI_mul, iI_add]
    congr 1 <;> omega
  have eb : nI (17 + 8 * a) + (8 : Int32) = nI (25 + 8 * a) := by
    have := nI_add (17 + 8 * a) 8
    rw [show 17 + 8 * a + 8 = 25 + 8 * a by omega] at this
    exact this
  intro w
  induction w with
  | zero =>
    intro n z σ hz hn hzN h1 h2
    obtain ⟨n, rfl⟩ : ∃ j, n = j + 1 := ⟨n - 1, by omega⟩
    rw [f_X10_addWord_109, ea, eb, if_pos (nI_lt (by omega) (by omega)), ixo_nI (by omega) (by omega), lt_e, nI_clamp (by omega)]
    refine ⟨σ, rfl, fun j h3 h4 => h1 j (by omega) h4, fun j h3 => h2 j (by omega), FR.rfl' _ _ _⟩
  | succ w ih =>
    intro n z σ hz hn hzN h1 h2
    obtain ⟨n, rfl⟩ : ∃ j, n = j + 1 := ⟨n - 1, by omega⟩
    have ec : nI z - (8 : Int32) = nI (z - 8) := nI_subN (b := 8) (by omega)
    have ed : nI z + -1 = nI (z - 1) := by
      rw [iI_nI, iI_nI, iI_m1, iI_add]
      congr 1
      omega
    rw [f_X10_addWord_109, ea, eb, if_neg (nI_nlt (by omega) (by omega)), ec, ixo_nI (by omega) (by omega), ixo_nI (by omega) (by omega), lt_e, nI_clamp (by omega), nI_clamp (by omega), ed]
    obtain ⟨σ', e, r1, r2, f⟩ := ih n (z - 1) (sa σ 0 (upd (ga σ 0) z (ga σ 0 (z - 8)))) (by omega) (by omega) (by omega) (by
      intro j h3 h4
      show (if j = z then ga σ 0 (z - 8) else ga σ 0 j) = _
      by_cases c : j = z
      · rw [if_pos c, c, h2 _ (by omega)]
      · rw [if_neg c]
        exact h1 j (by omega) h4) (by
      intro j h3
      show (if j = z then ga σ 0 (z - 8) else ga σ 0 j) = _
      rw [if_neg (by omega)]
      exact h2 j (by omega))
    exact ⟨σ', e, r1, r2, (FR_sa σ 0 _).t f⟩
theorem X10_add_word {a N : Nat} (ha : a ≤ N) (hN : N < 30) : ∀ (w k n : Nat) (σ : St), k + w = 7 → w < n → HW t σ → ga σ 0 16 = nI N → (∀ j x, j < k → t[j]? = some x → ga σ 0 (18 + 8 * a + j) = nI x) →
    ∃ σ', f_X10_addWord_162 n σ (nI a) (nI k) = some (nI (N + 1), σ') ∧ ga σ' 0 16 = nI (N + 1) ∧ (∀ j x, t[j]? = some x → ga σ' 0 (18 + 8 * a + j) = nI x) ∧ (∀ j, j ≠ 16 → j < 18 + 8 * a ∨ 25 + 8 * a ≤ j → ga σ' 0 j = ga σ 0 j) ∧ FR [] [0] σ σ' := by
  intro w
  induction w with
  | zero =>
    intro k n σ hk hn ht h16 h
    obtain ⟨n, rfl⟩ : ∃ j, n = j + 1 := ⟨n - 1, by omega⟩
    have : k = 7 := by omega
    subst this
    have e16 : (16 : Int32) = nI 16 := rfl
    have hs : ∀ f : Nat → Int32, ga (sa σ 0 f) 0 = f := fun f => ga_sa σ 0 f
    have hu16 : upd (ga σ 0) 16 (nI N + 1) 16 = nI N + 1 := if_pos rfl
    rw [f_X10_addWord_162, if_pos (by decide), e16, ixo_nI (by omega) (by omega), ixo_nI (by omega) (by omega), lt_e, ixo_nI (by omega) (by omega), nI_clamp (by omega), h16, hs, hu16, nI_1]
    refine ⟨_, rfl, ?_, ?_, ?_, FR_sa σ 0 _⟩
    · show (if 16 = 16 then nI (N + 1) else ga σ 0 16) = _
      rw [if_pos rfl]
    · intro j x hj
      have := (List.getElem?_eq_some_iff.mp hj).1
      have h7 := ht.2.1.2
      show (if 18 + 8 * a + j = 16 then _ else ga σ 0 (18 + 8 * a + j)) = _
      rw [if_neg (by omega)]
      exact h j x (by omega) hj
    · intro j hj _
      show (if j = 16 then _ else ga σ 0 j) = _
      rw [if_neg hj]
  | succ w ih =>
    intro k n σ hk hn ht h16 h
    obtain ⟨n, rfl⟩ : ∃ j, n = j + 1 := ⟨n - 1, by omega⟩
    have h7 := ht.2.1.2
    have c : ¬ (7 : Int32) ≤ nI k := nI_ge (b := 7) (by omega) (by omega)
    have ea : (17 : Int32) + 8 * nI a + 1 + nI k = nI (18 + 8 * a + k) := by
      simp only [L17, L8, L1, iI_nI, iI_mul, iI_add]
      congr 1 <;> omega
    have go : ∀ v : Int32, (∀ x, t[k]? = some x → v = nI x) → ∃ σ', f_X10_addWord_201 (f_X10_addWord_162 n) σ (nI a) (nI k) (nI (18 + 8 * a + k)) v = some (nI (N + 1), σ') ∧ ga σ' 0 16 = nI (N + 1) ∧ (∀ j x, t[j]? = some x → ga σ' 0 (18 + 8 * a + j) = nI x) ∧ (∀ j, j ≠ 16 → j < 18 + 8 * a ∨ 25 + 8 * a ≤ j → ga σ' 0 j = ga σ 0 j) ∧ FR [] [0] σ σ' := by
      intro v hv
      unfold f_X10_addWord_201
      rw [ixo_nI (by omega) (by omega), lt_e, nI_clamp (by omega), nI_1]
      obtain ⟨σ', e, r1, r2, r3, f⟩ := ih (k + 1) n (sa σ 0 (upd (ga σ 0) (18 + 8 * a + k) v)) (by omega) (by omega) ht (by
        show (if 16 = 18 + 8 * a + k then v else ga σ 0 16) = _
        rw [if_neg (by omega)]
        exact h16) (by
        intro j x hj hx
        show (if 18 + 8 * a + j = 18 + 8 * a + k then v else ga σ 0 (18 + 8 * a + j)) = _
        by_cases c2 : j = k
        · rw [if_pos (by omega)]
          exact hv x (by rw [← c2]; exact hx)
        · rw [if_neg (by omega)]
          exact h j x (by omega) hx)
      refine ⟨σ', e, r1, r2, ?_, (FR_sa σ 0 _).t f⟩
      intro j hj hj2
      rw [r3 j hj hj2]
      show (if j = 18 + 8 * a + k then v else ga σ 0 j) = _
      rw [if_neg (by omega)]
    rw [f_X10_addWord_162, if_neg c, ht.1, ea]
    by_cases c2 : t.length ≤ k
    · rw [if_pos (nI_le c2 (by omega))]
      refine go 0 ?_
      intro x hx
      have := (List.getElem?_eq_some_iff.mp hx).1
      omega
    · rw [if_neg (nI_ge (by omega) (by omega)), ixo_nI (by omega) (by omega), nI_clamp (by omega)]
      exact go _ (fun x hx => ht.2.2 k x hx)
theorem X10_add {σ : St} (hD : AD D (ga σ 0)) (ht : HW t σ) (h2 : 2 ≤ t.length) (hn : D.length < 30) (hs : SD D) : ∃ σ', f_X10_addWord_67 FU σ 0 = some (nI (D.length + 1), σ') ∧ AD (ins t D) (ga σ' 0) ∧ (∀ j, j < 16 ∨ 257 ≤ j → ga σ' 0 j = ga σ 0 j) ∧ FR [] [0] σ σ' := by
  obtain ⟨a, ha, e1, h3, h4⟩ := X10_add_at hD ht D.length 0 FU (by omega) (FU_big (by omega)) (by intro w u _ hw; omega)
  have e1' : f_X10_addWord_67 FU σ 0 = f_X10_addWord_92 σ (nI a) := e1
  have h5 : ∀ w u, D[w]? = some u → a ≤ w → ¬ pk u < pk t := by
    intro w u hu hw
    obtain ⟨hw3, rfl⟩ := List.getElem?_eq_some_iff.mp hu
    by_cases c : w = a
    · exact h4 _ (by rw [← c]; exact hu)
    · have q1 := h4 D[a] (List.getElem?_eq_getElem (by omega))
      have q2 := List.pairwise_iff_getElem.mp hs a w (by omega) hw3 (by omega)
      omega
  have hg := ins_get t D a h3 h5 ha
  have ez : (17 : Int32) + 8 * nI D.length + 7 = nI (24 + 8 * D.length) := by
    simp only [L17, L8, L7, iI_nI, iI_mul, iI_add]
    congr 1 <;> omega
  rw [e1']
  unfold f_X10_addWord_92
  rw [show (16 : Int32) = nI 16 from rfl, ixo_nI (by omega) (by omega), lt_e, nI_clamp (by omega), hD.1, ez]
  obtain ⟨σ1, e2, r1, r2, f1⟩ := X10_add_shift (ga σ 0) ha hn (8 * (D.length - a)) FU (24 + 8 * D.length) σ (by omega) (FU_big (by omega)) (Nat.le_refl _) (by intro j _ _; omega) (fun _ _ => rfl)
  rw [e2]
  have hW1 : HW t (sa σ1 0 (upd (ga σ1 0) (17 + 8 * a) (gi σ1 7))) := ⟨by
    show gi σ1 7 = _
    rw [f1.1 7 (by decide)]
    exact ht.1, ht.2.1, by
    show ∀ i x, _ → ga σ1 6 i = _
    rw [f1.2 6 (by decide)]
    exact ht.2.2⟩
  have h7 : gi σ1 7 = nI t.length := by rw [f1.1 7 (by decide)]; exact ht.1
  have hup : ∀ j, ga (sa σ1 0 (upd (ga σ1 0) (17 + 8 * a) (gi σ1 7))) 0 j = if j = 17 + 8 * a then gi σ1 7 else ga σ1 0 j := fun j => rfl
  obtain ⟨σ2, e3, q1, q2, q3, f2⟩ := X10_add_word (t := t) ha hn 7 0 FU (sa σ1 0 (upd (ga σ1 0) (17 + 8 * a) (gi σ1 7))) (by omega) (FU_big (by omega)) hW1 (by rw [hup, if_neg (by omega), r2 _ (by omega)]; exact hD.1) (by intro j x hj; omega)
  refine ⟨σ2, e3, ⟨by rw [q1, ins_len], by rw [ins_len]; omega, ?_, ?_⟩, ?_, (f1.t (FR_sa σ1 0 _)).t f2⟩
  · intro x hx
    rcases (ins_mem t x D).mp hx with rfl | hx
    · exact ⟨ht.2.1, h2⟩
    · exact hD.2.2.1 x hx
  · intro w u hu
    rw [hg w] at hu
    by_cases c1 : w < a
    · rw [if_pos c1] at hu
      have hw := (hD.2.2.1 u (List.mem_of_getElem? hu)).1.2
      refine ⟨?_, ?_⟩
      · rw [q3 _ (by omega) (by omega), hup, if_neg (by omega), r2 _ (by omega)]
        exact (hD.2.2.2 w u hu).1
      · intro k x hk
        have := (List.getElem?_eq_some_iff.mp hk).1
        rw [q3 _ (by omega) (by omega), hup, if_neg (by omega), r2 _ (by omega)]
        exact (hD.2.2.2 w u hu).2 k x hk
    · rw [if_neg c1] at hu
      by_cases c2 : w = a
      · rw [if_pos c2] at hu
        cases hu
        subst c2
        refine ⟨?_, fun k x hk => q2 k x hk⟩
        rw [q3 _ (by omega) (by omega), hup, if_pos rfl, h7]
      · rw [if_neg c2] at hu
        have hw := (hD.2.2.1 u (List.mem_of_getElem? hu)).1.2
        have hwl := (List.getElem?_eq_some_iff.mp hu).1
        refine ⟨?_, ?_⟩
        · rw [q3 _ (by omega) (by omega), hup, if_neg (by omega), r1 _ (by omega) (by omega), show 17 + 8 * w - 8 = 17 + 8 * (w - 1) by omega]
          exact (hD.2.2.2 (w - 1) u hu).1
        · intro k x hk
          have := (List.getElem?_eq_some_iff.mp hk).1
          rw [q3 _ (by omega) (by omega), hup, if_neg (by omega), r1 _ (by omega) (by omega), show 18 + 8 * w + k - 8 = 18 + 8 * (w - 1) + k by omega]
          exact (hD.2.2.2 (w - 1) u hu).2 k x hk
  · intro j hj
    rw [q3 _ (by omega) (by omega), hup, if_neg (by omega), r2 _ (by omega)]
end
