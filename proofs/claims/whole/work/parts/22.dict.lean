/-! ===== the dictionary of the class ===== -/
theorem ixo_nI {α : Type} {k N : Nat} {x : Option α} (h : k < N) (hN : N < 2147483648) : ixo (nI k) N x = x := by
  unfold ixo
  rw [if_neg (nI_pos (by omega)), if_neg (by rw [nI_clamp (by omega)]; omega)]
theorem pk_inj {t u : List Nat} (ht : lt8 t) (hu : lt8 u) (lt7 : t.length ≤ 7) (lu7 : u.length ≤ 7) (h : pk t = pk u) : t = u := by
  have hl : t.length = u.length := by rw [← pkw_mod lt7, ← pkw_mod lu7, h]
  apply List.ext_getElem?
  intro i
  cases h1 : t[i]? with
  | none =>
    have := List.getElem?_eq_none_iff.mp h1
    rw [List.getElem?_eq_none (by omega)]
  | some a =>
    have hi := (List.getElem?_eq_some_iff.mp h1).1
    cases h2 : u[i]? with
    | none =>
      have := List.getElem?_eq_none_iff.mp h2
      omega
    | some b =>
      have e1 := pkw_get ht lt7 h1
      have e2 := pkw_get hu lu7 h2
      rw [h] at e1
      rw [← e1, ← e2]
def okW (t : List Nat) : Prop := lt8 t ∧ t.length ≤ 7
/-- the number of a word in a list of words, counted from k; -1: it isn't there -/
def num : List (List Nat) → List Nat → Nat → Int32
  | [], _, _ => -1
  | u :: D, t, k => if u = t then nI k else num D t (k + 1)
/-- the class's dictionary holds the words D -/
def CD (D : List (List Nat)) (σ : St) : Prop := gi σ 1 = nI D.length ∧ D.length ≤ 30 ∧ (∀ t ∈ D, okW t ∧ 2 ≤ t.length) ∧ ∀ (w : Nat) (t : List Nat), D[w]? = some t → ga σ 0 w = nI (pk t)
theorem X1_size {D : List (List Nat)} {σ : St} (h : CD D σ) : f_X1_size σ = some (nI D.length) := by
  unfold f_X1_size
  rw [h.1]
theorem X1_isFull {D : List (List Nat)} {σ : St} (h : CD D σ) : f_X1_isFull σ = some (decide (D.length = 30)) := by
  unfold f_X1_isFull
  rw [h.1]
  have h2 := h.2.1
  by_cases c : D.length < 30
  · have hc : nI D.length < (30 : Int32) := nI_lt (a := D.length) (b := 30) c (by omega)
    rw [if_pos hc]
    simp
    omega
  · have hc : ¬ nI D.length < (30 : Int32) := nI_nlt (a := D.length) (b := 30) (by omega) (by omega)
    rw [if_neg hc]
    simp
    omega
theorem X1_word {D : List (List Nat)} {σ : St} {w : Nat} {t : List Nat} (h : CD D σ) (hw : D[w]? = some t) : f_X1_word σ (nI w) = some (nI (pk t)) := by
  have hlt := (List.getElem?_eq_some_iff.mp hw).1
  have h30 := h.2.1
  unfold f_X1_word
  rw [if_neg (nI_pos (by omega)), h.1, if_neg (nI_ge hlt (by omega)), ixo_nI (by omega) (by omega), nI_clamp (by omega), h.2.2.2 w t hw]
theorem X1_num_loop {D : List (List Nat)} {σ : St} {t : List Nat} (h : CD D σ) (ht : okW t) : ∀ (m k n : Nat), D.length - k = m → k ≤ D.length → m < n → f_X1_numberOf_2 σ n (nI (pk t)) (nI k) = some (num (D.drop k) t k) := by
  intro m
  induction m with
  | zero =>
    intro k n hm hk hn
    have e : k = D.length := by omega
    subst e
    obtain ⟨n, rfl⟩ : ∃ j, n = j + 1 := ⟨n - 1, by omega⟩
    have h30 := h.2.1
    rw [f_X1_numberOf_2, h.1, if_pos (nI_le (Nat.le_refl _) (by omega)), List.drop_eq_nil_of_le (Nat.le_refl _)]
    rfl
  | succ m ih =>
    intro k n hm hk hn
    have hlt : k < D.length := by omega
    obtain ⟨n, rfl⟩ : ∃ j, n = j + 1 := ⟨n - 1, by omega⟩
    have h30 := h.2.1
    have hu : D[k]? = some D[k] := List.getElem?_eq_getElem hlt
    have hok := (h.2.2.1 D[k] (List.getElem_mem hlt)).1
    have b1 := pkw_lt hok.1 hok.2
    have b2 := pkw_lt ht.1 ht.2
    rw [f_X1_numberOf_2, h.1, if_neg (nI_ge hlt (by omega)), ixo_nI (by omega) (by omega), nI_clamp (by omega), h.2.2.2 k _ hu, List.drop_eq_getElem_cons hlt]
    show (if nI (pk D[k]) = nI (pk t) then some (nI k) else f_X1_numberOf_2 σ n (nI (pk t)) (nI k + 1)) = some (if D[k] = t then nI k else num (D.drop (k + 1)) t (k + 1))
    by_cases c : D[k] = t
    · rw [if_pos c, if_pos (by rw [c])]
    · rw [if_neg c, if_neg (fun q => c (pk_inj hok.1 ht.1 hok.2 ht.2 ((nI_eq (by omega) (by omega)).mp q))), nI_1]
      exact ih (k + 1) n (by omega) (by omega) (by omega)
theorem FU_big {n : Nat} (h : n < 1000000) : n < FU := by
  unfold FU
  omega
theorem X1_numberOf {D : List (List Nat)} {σ : St} {t : List Nat} (h : CD D σ) (ht : okW t) : f_X1_numberOf σ (nI (pk t)) = some (num D t 0) := by
  have h30 := h.2.1
  have h1 := X1_num_loop h ht D.length 0 FU (by omega) (by omega) (FU_big (by omega))
  rw [List.drop_zero] at h1
  exact h1
theorem num_bd : ∀ (D : List (List Nat)) (t : List Nat) (k : Nat), num D t k = -1 ∨ ∃ j, num D t k = nI (k + j) ∧ D[j]? = some t
  | [], t, k => Or.inl rfl
  | u :: D, t, k => by
    unfold num
    by_cases c : u = t
    · rw [if_pos c]
      exact Or.inr ⟨0, by rw [Nat.add_zero], by simp [c]⟩
    · rw [if_neg c]
      rcases num_bd D t (k + 1) with h | ⟨j, h1, h2⟩
      · exact Or.inl h
      · exact Or.inr ⟨j + 1, by rw [h1]; congr 1; omega, by simpa using h2⟩
theorem num_none : ∀ (D : List (List Nat)) (t : List Nat) (k : Nat), k + D.length < 2147483648 → (num D t k = -1 ↔ t ∉ D)
  | [], t, k, _ => by simp [num]
  | u :: D, t, k, hk => by
    have hk2 : k + 1 + D.length < 2147483648 := by simp at hk; omega
    unfold num
    by_cases c : u = t
    · rw [if_pos c]
      constructor
      · intro h
        exact absurd (show nI k < 0 by rw [h]; decide) (nI_pos (by omega))
      · intro h
        exact absurd (by rw [c]; exact List.mem_cons_self) h
    · rw [if_neg c, num_none D t (k + 1) hk2]
      simp only [List.mem_cons, not_or]
      exact ⟨fun h => ⟨fun e => c e.symm, h⟩, fun h => h.2⟩
