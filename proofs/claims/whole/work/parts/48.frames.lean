/-! ===== the reference's stack of positions ===== -/
section
variable {D : List (List Nat)} {V E : Nat → Int32} {P : Nat → Nat → Int32} {T : Bd} {R : Nat → Nat → Nat} {σ : St}
theorem X10_sum_loop (hV : AV V (ga σ 0)) (hR : RR R (ga σ 9)) {p : Nat} (hp : p < 2) : ∀ (m k n : Nat), k + m = 8 → m < n → f_X10_sumOn_4 σ n (nI p) (sm8 (fun l => nI (R p l) * V l) k) (nI k) = some (vlR V (R p)) := by
  intro m
  induction m with
  | zero =>
    intro k n hk hn
    obtain ⟨n, rfl⟩ : ∃ j, n = j + 1 := ⟨n - 1, by omega⟩
    have : k = 8 := by omega
    subst this
    rfl
  | succ m ih =>
    intro k n hk hn
    obtain ⟨n, rfl⟩ : ∃ j, n = j + 1 := ⟨n - 1, by omega⟩
    have c : ¬ (8 : Int32) ≤ nI k := nI_ge (b := 8) (by omega) (by omega)
    have ea : (8 : Int32) * nI p + nI k = nI (8 * p + k) := by
      simp only [L8, iI_nI, iI_mul, iI_add]
      congr 1 <;> omega
    rw [f_X10_sumOn_4, if_neg c, ea, Int32.zero_add, ixo_nI (by omega) (by omega), ixo_nI (by omega) (by omega), lt_e, nI_clamp (by omega), nI_clamp (by omega), hR p k hp (by omega), hV k (by omega), nI_1]
    exact ih (k + 1) n (by omega) (by omega)
theorem X10_sumOn (hV : AV V (ga σ 0)) (hR : RR R (ga σ 9)) {p : Nat} (hp : p < 2) : f_X10_sumOn σ (nI p) = some (vlR V (R p)) := X10_sum_loop hV hR hp 8 0 FU (by omega) (FU_big (by omega))
theorem X10_isOut (hV : AV V (ga σ 0)) (hR : RR R (ga σ 9)) (hH : HV V) {p : Nat} (hp : p < 2) (hk : okR (R p)) : f_X10_isOut σ (nI p) = some (decide (tot (R p) = 0)) := by
  unfold f_X10_isOut
  rw [X10_sumOn hV hR hp, bno_s]
  simp only [vlR_0 hH hk]
  by_cases c : tot (R p) = 0
  · rw [if_pos c, decide_eq_true c]
  · rw [if_neg c, decide_eq_false c]
theorem X10_enter_racks {i : Nat} (hi : i < 26) (q g : Int32) : ∀ (m k n : Nat) (σ : St), k + m = 16 → m < n → (∀ z, z < k → ga σ 19 (16 * i + z) = ga σ 9 z) →
    ∃ σ', f_X10_enters_48 n σ (nI i) q g (nI k) = some σ' ∧ (∀ z, z < 16 → ga σ' 19 (16 * i + z) = ga σ 9 z) ∧ (∀ z, z < 16 * i → ga σ' 19 z = ga σ 19 z) ∧ ga σ' 20 = upd (ga σ 20) i q ∧ ga σ' 21 = upd (ga σ 21) i 0 ∧ ga σ' 22 = upd (ga σ 22) i (-1000000) ∧ ga σ' 23 = upd (ga σ 23) i g ∧ FR [] [19, 20, 21, 22, 23] σ σ' := by
  intro m
  induction m with
  | zero =>
    intro k n σ hk hn hc
    obtain ⟨n, rfl⟩ : ∃ j, n = j + 1 := ⟨n - 1, by omega⟩
    have : k = 16 := by omega
    subst this
    rw [f_X10_enters_48, if_pos (by decide), ixo_nI hi (by omega), lt_e, ixo_nI hi (by omega), lt_e, ixo_nI hi (by omega), lt_e, ixo_nI hi (by omega), lt_e, nI_clamp (by omega)]
    refine ⟨_, rfl, hc, fun _ _ => rfl, rfl, rfl, rfl, rfl, ?_⟩
    have f1 := (FR_sa σ 20 (upd (ga σ 20) i q)).mo (is2 := []) (js2 := [19, 20, 21, 22, 23]) (by decide) (by decide)
    have f2 := f1.t ((FR_sa _ 21 (upd (ga (sa σ 20 (upd (ga σ 20) i q)) 21) i 0)).mo (by decide) (by decide))
    have f3 := f2.t ((FR_sa _ 22 (upd (ga (sa (sa σ 20 (upd (ga σ 20) i q)) 21 (upd (ga (sa σ 20 (upd (ga σ 20) i q)) 21) i 0)) 22) i (-1000000))).mo (by decide) (by decide))
    exact f3.t ((FR_sa _ 23 _).mo (by decide) (by decide))
  | succ m ih =>
    intro k n σ hk hn hc
    obtain ⟨n, rfl⟩ : ∃ j, n = j + 1 := ⟨n - 1, by omega⟩
    have c : ¬ (16 : Int32) ≤ nI k := nI_ge (b := 16) (by omega) (by omega)
    have ea : (16 : Int32) * nI i + nI k = nI (16 * i + k) := by
      simp only [L16, iI_nI, iI_mul, iI_add]
      congr 1 <;> omega
    rw [f_X10_enters_48, if_neg c, ea, ixo_nI (by omega) (by omega), ixo_nI (by omega) (by omega), lt_e, nI_clamp (by omega), nI_clamp (by omega), nI_1]
    obtain ⟨σ', e, h1, h2, h3, h4, h5, h6, f⟩ := ih (k + 1) n (sa σ 19 (upd (ga σ 19) (16 * i + k) (ga σ 9 k))) (by omega) (by omega) (by
      intro z hz
      show (if 16 * i + z = 16 * i + k then ga σ 9 k else ga σ 19 (16 * i + z)) = ga σ 9 z
      by_cases c2 : z = k
      · rw [if_pos (by omega), c2]
      · rw [if_neg (by omega)]; exact hc z (by omega))
    refine ⟨σ', e, h1, ?_, h3, h4, h5, h6, ((FR_sa σ 19 _).mo (by decide) (by decide)).t f⟩
    intro z hz
    rw [h2 z hz]
    show (if z = 16 * i + k then ga σ 9 k else ga σ 19 z) = ga σ 19 z
    rw [if_neg (by omega)]
theorem X10_enter_board {i : Nat} (hi : i < 26) (q g : Int32) : ∀ (m k n : Nat) (σ : St), k + m = 49 → m < n → (∀ z, z < k → ga σ 18 (49 * i + z) = ga σ 8 z) →
    ∃ σ', f_X10_enters_13 n σ (nI i) q g (nI k) = some σ' ∧ (∀ z, z < 49 → ga σ' 18 (49 * i + z) = ga σ 8 z) ∧ (∀ z, z < 49 * i → ga σ' 18 z = ga σ 18 z) ∧ (∀ z, z < 16 → ga σ' 19 (16 * i + z) = ga σ 9 z) ∧ (∀ z, z < 16 * i → ga σ' 19 z = ga σ 19 z) ∧ ga σ' 20 = upd (ga σ 20) i q ∧ ga σ' 21 = upd (ga σ 21) i 0 ∧ ga σ' 22 = upd (ga σ 22) i (-1000000) ∧ ga σ' 23 = upd (ga σ 23) i g ∧ FR [] [18, 19, 20, 21, 22, 23] σ σ' := by
  intro m
  induction m with
  | zero =>
    intro k n σ hk hn hc
    obtain ⟨n, rfl⟩ : ∃ j, n = j + 1 := ⟨n - 1, by omega⟩
    have : k = 49 := by omega
    subst this
    obtain ⟨σ', e, h1, h2, h3, h4, h5, h6, f⟩ := X10_enter_racks hi q g 16 0 FU σ (by omega) (FU_big (by omega)) (by intro i hi; omega)
    rw [f_X10_enters_13, if_pos (by decide)]
    refine ⟨σ', e, ?_, ?_, h1, h2, h3, h4, h5, h6, f.mo (by decide) (by decide)⟩
    · intro z hz
      rw [f.2 18 (by decide)]
      exact hc z hz
    · intro z hz
      rw [f.2 18 (by decide)]
  | succ m ih =>
    intro k n σ hk hn hc
    obtain ⟨n, rfl⟩ : ∃ j, n = j + 1 := ⟨n - 1, by omega⟩
    have c : ¬ (49 : Int32) ≤ nI k := nI_ge (b := 49) (by omega) (by omega)
    have ea : (49 : Int32) * nI i + nI k = nI (49 * i + k) := by
      simp only [L49, iI_nI, iI_mul, iI_add]
      congr 1 <;> omega
    rw [f_X10_enters_13, if_neg c, ea, ixo_nI (by omega) (by omega), ixo_nI (by omega) (by omega), lt_e, nI_clamp (by omega), nI_clamp (by omega), nI_1]
    obtain ⟨σ', e, h1, h2, h3, h4, h5, h6, h7, h8, f⟩ := ih (k + 1) n (sa σ 18 (upd (ga σ 18) (49 * i + k) (ga σ 8 k))) (by omega) (by omega) (by
      intro z hz
      show (if 49 * i + z = 49 * i + k then ga σ 8 k else ga σ 18 (49 * i + z)) = ga σ 8 z
      by_cases c2 : z = k
      · rw [if_pos (by omega), c2]
      · rw [if_neg (by omega)]; exact hc z (by omega))
    refine ⟨σ', e, h1, ?_, h3, h4, h5, h6, h7, h8, ((FR_sa σ 18 _).mo (by decide) (by decide)).t f⟩
    intro z hz
    rw [h2 z hz]
    show (if z = 49 * i + k then ga σ 8 k else ga σ 18 z) = ga σ 18 z
    rw [if_neg (by omega)]
theorem X10_enters (hB : BR T (ga σ 8)) (hR : RR R (ga σ 9)) {i : Nat} (hi : i < 26) (q g : Int32) :
    ∃ σ', f_X10_enters σ (nI i) q g = some σ' ∧ BR T (fun z => ga σ' 18 (49 * i + z)) ∧ RR R (fun z => ga σ' 19 (16 * i + z)) ∧ (∀ z, z < 49 * i → ga σ' 18 z = ga σ 18 z) ∧ (∀ z, z < 16 * i → ga σ' 19 z = ga σ 19 z) ∧ ga σ' 20 = upd (ga σ 20) i q ∧ ga σ' 21 = upd (ga σ 21) i 0 ∧ ga σ' 22 = upd (ga σ 22) i (-1000000) ∧ ga σ' 23 = upd (ga σ 23) i g ∧ gi σ' 24 = gi σ 24 + 1 ∧ FR [24] [18, 19, 20, 21, 22, 23] σ σ' := by
  unfold f_X10_enters
  rw [lt_e]
  obtain ⟨σ', e, h1, h2, h3, h4, h5, h6, h7, h8, f⟩ := X10_enter_board hi q g 49 0 FU (si σ 24 (gi σ 24 + 1)) (by omega) (FU_big (by omega)) (by intro i hi; omega)
  refine ⟨σ', e, ⟨hB.1, ?_⟩, ?_, h2, h4, h5, h6, h7, h8, ?_, (FR_si σ 24 _).tr f (by decide) (by decide)⟩
  · intro r c hr hc
    show ga σ' 18 (49 * i + (7 * r + c)) = _
    rw [h1 _ (by omega)]
    exact hB.2 r c hr hc
  · intro p l hp hl
    show ga σ' 19 (16 * i + (8 * p + l)) = _
    rw [h3 _ (by omega)]
    exact hR p l hp hl
  · rw [f.1 24 (by decide), gi_si]
theorem X10_back_racks {i : Nat} (hi : i < 26) : ∀ (m k n : Nat) (σ : St), k + m = 16 → m < n → (∀ z, z < k → ga σ 9 z = ga σ 19 (16 * i + z)) →
    ∃ σ', f_X10_takesBack_33 n σ (nI i) (nI k) = some σ' ∧ (∀ z, z < 16 → ga σ' 9 z = ga σ 19 (16 * i + z)) ∧ FR [] [9] σ σ' := by
  intro m
  induction m with
  | zero =>
    intro k n σ hk hn hc
    obtain ⟨n, rfl⟩ : ∃ j, n = j + 1 := ⟨n - 1, by omega⟩
    have : k = 16 := by omega
    subst this
    rw [f_X10_takesBack_33, if_pos (by decide)]
    exact ⟨σ, rfl, hc, FR.rfl' _ _ _⟩
  | succ m ih =>
    intro k n σ hk hn hc
    obtain ⟨n, rfl⟩ : ∃ j, n = j + 1 := ⟨n - 1, by omega⟩
    have c : ¬ (16 : Int32) ≤ nI k := nI_ge (b := 16) (by omega) (by omega)
    have ea : (16 : Int32) * nI i + nI k = nI (16 * i + k) := by
      simp only [L16, iI_nI, iI_mul, iI_add]
      congr 1 <;> omega
    rw [f_X10_takesBack_33, if_neg c, ea, ixo_nI (by omega) (by omega), ixo_nI (by omega) (by omega), lt_e, nI_clamp (by omega), nI_clamp (by omega), nI_1]
    obtain ⟨σ', e, h, f⟩ := ih (k + 1) n (sa σ 9 (upd (ga σ 9) k (ga σ 19 (16 * i + k)))) (by omega) (by omega) (by
      intro z hz
      show (if z = k then ga σ 19 (16 * i + k) else ga σ 9 z) = ga σ 19 (16 * i + z)
      by_cases c2 : z = k
      · rw [if_pos c2, c2]
      · rw [if_neg c2]; exact hc z (by omega))
    exact ⟨σ', e, h, (FR_sa σ 9 _).t f⟩
theorem X10_back_board {i : Nat} (hi : i < 26) : ∀ (m k n : Nat) (σ : St), k + m = 49 → m < n → (∀ z, z < k → ga σ 8 z = ga σ 18 (49 * i + z)) →
    ∃ σ', f_X10_takesBack_2 n σ (nI i) (nI k) = some σ' ∧ (∀ z, z < 49 → ga σ' 8 z = ga σ 18 (49 * i + z)) ∧ (∀ z, z < 16 → ga σ' 9 z = ga σ 19 (16 * i + z)) ∧ FR [] [8, 9] σ σ' := by
  intro m
  induction m with
  | zero =>
    intro k n σ hk hn hc
    obtain ⟨n, rfl⟩ : ∃ j, n = j + 1 := ⟨n - 1, by omega⟩
    have : k = 49 := by omega
    subst this
    obtain ⟨σ', e, h, f⟩ := X10_back_racks hi 16 0 FU σ (by omega) (FU_big (by omega)) (by intro i hi; omega)
    rw [f_X10_takesBack_2, if_pos (by decide)]
    refine ⟨σ', e, ?_, h, f.mo (by decide) (by decide)⟩
    intro z hz
    rw [f.2 8 (by decide)]
    exact hc z hz
  | succ m ih =>
    intro k n σ hk hn hc
    obtain ⟨n, rfl⟩ : ∃ j, n = j + 1 := ⟨n - 1, by omega⟩
    have c : ¬ (49 : Int32) ≤ nI k := nI_ge (b := 49) (by omega) (by omega)
    have ea : (49 : Int32) * nI i + nI k = nI (49 * i + k) := by
      simp only [L49, iI_nI, iI_mul, iI_add]
      congr 1 <;> omega
    rw [f_X10_takesBack_2, if_neg c, ea, ixo_nI (by omega) (by omega), ixo_nI (by omega) (by omega), lt_e, nI_clamp (by omega), nI_clamp (by omega), nI_1]
    obtain ⟨σ', e, h, h2, f⟩ := ih (k + 1) n (sa σ 8 (upd (ga σ 8) k (ga σ 18 (49 * i + k)))) (by omega) (by omega) (by
      intro z hz
      show (if z = k then ga σ 18 (49 * i + k) else ga σ 8 z) = ga σ 18 (49 * i + z)
      by_cases c2 : z = k
      · rw [if_pos c2, c2]
      · rw [if_neg c2]; exact hc z (by omega))
    exact ⟨σ', e, h, h2, ((FR_sa σ 8 _).mo (by decide) (by decide)).t f⟩
theorem X10_takesBack {i : Nat} (hi : i < 26) (hB : BR T (fun z => ga σ 18 (49 * i + z))) (hR : RR R (fun z => ga σ 19 (16 * i + z))) : ∃ σ', f_X10_takesBack σ (nI i) = some σ' ∧ BR T (ga σ' 8) ∧ RR R (ga σ' 9) ∧ FR [] [8, 9] σ σ' := by
  obtain ⟨σ', e, h, h2, f⟩ := X10_back_board hi 49 0 FU σ (by omega) (FU_big (by omega)) (by intro i hi; omega)
  refine ⟨σ', e, ⟨hB.1, ?_⟩, ?_, f⟩
  · intro r c hr hc
    rw [h _ (by omega)]
    exact hB.2 r c hr hc
  · intro p l hp hl
    rw [h2 _ (by omega)]
    exact hR p l hp hl
theorem X10_betters {i : Nat} (hi : i < 26) (v : Int32) : f_X10_betters σ (nI i) v = some (sa σ 22 (upd (ga σ 22) i (mxI (ga σ 22 i) v))) := by
  unfold f_X10_betters mxI
  rw [ixo_nI hi (by omega), ixo_nI hi (by omega), ixo_nI hi (by omega), ixo_nI hi (by omega), lt_e, lt_e, nI_clamp (by omega)]
  by_cases c : v ≤ ga σ 22 i
  · rw [if_pos c, if_neg (by rw [fa_le] at c; rw [fa_lt]; omega)]
  · rw [if_neg c, if_pos (fa_of_nle c)]
end
