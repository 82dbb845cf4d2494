/-! ===== cross sets in the reference ===== -/
theorem csF_cong {p q : Nat → Bool} : ∀ n, (∀ l, l < n → p l = q l) → csF p n = csF q n
  | 0, _ => rfl
  | n + 1, h => by rw [csF, csF, csF_cong n (fun l hl => h l (by omega)), h n (by omega)]
theorem X10_crossOf_loop {D : List (List Nat)} {T : Bd} {d : Nat} (hd : d < 2) {a j : Nat} (ha : a < 7) (hj : j < 7) (hM : M T (1 - d) j a = none) (h1 : 1 < cxl T d a j) : ∀ (m k n : Nat) (σ : St), AD D (ga σ 0) → BR T (ga σ 8) → CX T d a j σ → k + m = 8 → m < n →
    ∃ σ', f_X10_crossOf_13 n σ (nI d) (csF (fun l => decide (thr (M T (1 - d) j) a l ∈ D)) k) (nI k) = some (csF (fun l => decide (thr (M T (1 - d) j) a l ∈ D)) 8, σ') ∧ FR [7] [6] σ σ' := by
  intro m
  induction m with
  | zero =>
    intro k n σ hD h hX hk hn
    obtain ⟨n, rfl⟩ : ∃ j, n = j + 1 := ⟨n - 1, by omega⟩
    have : k = 8 := by omega
    subst this
    have h7 := (cxl_len h.1 (d := d) (j := j) ha 0).2.2
    have c1 : ¬ nI (cxl T d a j) ≤ (1 : Int32) := nI_ge (a := 1) h1 (by omega)
    rw [f_X10_crossOf_13, if_pos (by decide)]
    unfold f_X10_crossOf_62
    rw [hX.2.2, if_neg c1]
    exact ⟨σ, rfl, FR.rfl' _ _ _⟩
  | succ m ih =>
    intro k n σ hD h hX hk hn
    obtain ⟨n, rfl⟩ : ∃ j, n = j + 1 := ⟨n - 1, by omega⟩
    have h7 := (cxl_len h.1 (d := d) (j := j) ha 0).2.2
    have c : ¬ (8 : Int32) ≤ nI k := nI_ge (b := 8) (by omega) (by omega)
    have c1 : ¬ nI (cxl T d a j) ≤ (1 : Int32) := nI_ge (a := 1) h1 (by omega)
    obtain ⟨σ1, e1, hw, f1⟩ := X10_takesCross hd ha hj hM (show k < 8 by omega) h hX
    have hD1 : AD D (ga σ1 0) := by rw [f1.2 0 (by decide)]; exact hD
    obtain ⟨σ2, e2, f2⟩ := ih (k + 1) n σ1 hD1 (by rw [f1.2 8 (by decide)]; exact h) ⟨by rw [f1.1 10 (by decide)]; exact hX.1, by rw [f1.1 11 (by decide)]; exact hX.2.1, by rw [f1.1 12 (by decide)]; exact hX.2.2⟩ (by omega) (by omega)
    refine ⟨σ2, ?_, f1.t f2⟩
    rw [f_X10_crossOf_13, if_neg c, hX.2.2, if_neg c1, e1, bno_s, X10_foundAt hD1 hw, bno_s]
    simp only [num_m1 hD.2.1]
    unfold f_X10_crossOf_53
    rw [csF] at e2
    rw [nI_1]
    by_cases c2 : thr (M T (1 - d) j) a k ∈ D
    · rw [if_neg (fun q => q c2)]
      rw [if_pos (by simpa using c2)] at e2
      exact e2
    · rw [if_pos c2, Int32.or_zero]
      rw [if_neg (by simpa using c2)] at e2
      exact e2
theorem mst_long {D : List (List Nat)} {w : List Nat} (h : 1 < w.length) : mst D w = decide (w ∈ D) := by
  unfold mst
  rw [decide_eq_false (by omega), Bool.false_or]
theorem X10_crossOf {D : List (List Nat)} {T : Bd} {d : Nat} (hd : d < 2) {a j : Nat} (ha : a < 7) (hj : j < 7) (hM : M T (1 - d) j a = none) {σ : St} (hD : AD D (ga σ 0)) (h : BR T (ga σ 8)) :
    ∃ σ', f_X10_crossOf σ (nI (RW d a j)) (nI (CL d a j)) (nI d) = some (csF (fun l => mst D (thr (M T (1 - d) j) a l)) 8, σ') ∧ FR [7, 10, 11, 12] [6] σ σ' := by
  obtain ⟨σ1, e1, hX, f1⟩ := X10_finds hd ha hj h
  unfold f_X10_crossOf
  rw [e1, bno_s]
  have hc := fun l => cxl_len h.1 (d := d) (j := j) ha l
  by_cases c : cxl T d a j = 1
  · refine ⟨σ1, ?_, f1.mo (by decide) (by decide)⟩
    have hx := hX.2.2
    rw [c] at hx
    obtain ⟨k, hk⟩ : ∃ k, FU = k + 1 := ⟨FU - 1, by unfold FU; omega⟩
    rw [hk, f_X10_crossOf_13, if_neg (by decide), hx, if_pos (by decide)]
    unfold f_X10_crossOf_62
    rw [hx, if_pos (by decide), csF_cong (q := fun _ => true) 8 (fun l _ => by
      unfold mst
      rw [(hc l).1, c]
      rfl)]
    rfl
  · have h1 : 1 < cxl T d a j := by have := (hc 0).2.1; omega
    obtain ⟨σ2, e2, f2⟩ := X10_crossOf_loop (D := D) hd ha hj hM h1 8 0 FU σ1 (by rw [f1.2 0 (by decide)]; exact hD) (by rw [f1.2 8 (by decide)]; exact h) hX (by omega) (FU_big (by omega))
    refine ⟨σ2, ?_, f1.tr f2 (by decide) (by decide)⟩
    rw [csF_cong (q := fun l => decide (thr (M T (1 - d) j) a l ∈ D)) 8 (fun l _ => mst_long (by rw [(hc l).1]; exact h1))]
    exact e2
