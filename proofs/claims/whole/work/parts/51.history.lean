/-! ===== saved states ===== -/
def SD (D : List (List Nat)) : Prop := D.Pairwise (fun u v => pk u < pk v)
/-- a saved table of the class and a saved segment of the reference -/
def PAIR (τ : St) (f : Nat → Int32) : Prop := ∃ (D : List (List Nat)) (V E : Nat → Int32) (P : Nat → Nat → Int32) (S : Nat → Int32) (t : List Nat) (T : Bd) (R : Nat → Nat → Nat), CB D V E P S t T R τ ∧ MB D V E P S T R f ∧ HV V ∧ SD D
def HIST (X : S2) (m : St) : Prop := ∃ o c : Nat, o < 4 ∧ c ≤ 4 ∧ X.2.1 = nI o ∧ X.2.2.1 = nI c ∧ gi m 2 = nI c ∧ X.2.2.2.length ≤ 4 ∧ c ≤ X.2.2.2.length ∧ (o = 0 ∨ X.2.2.2.length = 4) ∧ ∀ i, i < c → ∃ τ, X.2.2.2[(o + i) % 4]? = some τ ∧ PAIR τ (fun k => ga m 1 (373 * i + k))
theorem PAIR_cong {τ : St} {f g : Nat → Int32} (h : PAIR τ f) (hg : ∀ i, i < 373 → g i = f i) : PAIR τ g := by
  obtain ⟨D, V, E, P, S, t, T, R, h1, h2, h3, h4⟩ := h
  exact ⟨D, V, E, P, S, t, T, R, h1, MB_cong h2 hg, h3, h4⟩
theorem HIST_cong {X : S2} {m m' : St} (h : HIST X m) (h2 : gi m' 2 = gi m 2) (h1 : ga m' 1 = ga m 1) : HIST X m' := by
  unfold HIST
  rw [h2, h1]
  exact h
theorem X10_copy_out {c : Nat} (hc : c ≤ 3) : ∀ (w k n : Nat) (σ : St), k + w = 373 → w < n → gi σ 2 = nI c → (∀ z, z < k → ga σ 1 (373 * c + z) = ga σ 0 z) →
    ∃ σ', f_X10_save_51 n σ (nI k) = some σ' ∧ (∀ z, z < 373 → ga σ' 1 (373 * c + z) = ga σ 0 z) ∧ (∀ z, z < 373 * c → ga σ' 1 z = ga σ 1 z) ∧ gi σ' 2 = nI (c + 1) ∧ FR [2] [1] σ σ' := by
  intro w
  induction w with
  | zero =>
    intro k n σ hk hn h2 hz
    obtain ⟨n, rfl⟩ : ∃ j, n = j + 1 := ⟨n - 1, by omega⟩
    have : k = 373 := by omega
    subst this
    rw [f_X10_save_51, if_pos (by decide), lt_e, h2, nI_1]
    exact ⟨_, rfl, hz, fun _ _ => rfl, rfl, (FR_si σ 2 _).mo (by decide) (by decide)⟩
  | succ w ih =>
    intro k n σ hk hn h2 hz
    obtain ⟨n, rfl⟩ : ∃ j, n = j + 1 := ⟨n - 1, by omega⟩
    have c1 : ¬ (373 : Int32) ≤ nI k := nI_ge (b := 373) (by omega) (by omega)
    have ea : (373 : Int32) * nI c + nI k = nI (373 * c + k) := by
      simp only [L373, iI_nI, iI_mul, iI_add]
      congr 1 <;> omega
    rw [f_X10_save_51, if_neg c1, h2, ea, ixo_nI (by omega) (by omega), ixo_nI (by omega) (by omega), lt_e, nI_clamp (by omega), nI_clamp (by omega), nI_1]
    obtain ⟨σ', e, r1, r2, r3, f⟩ := ih (k + 1) n (sa σ 1 (upd (ga σ 1) (373 * c + k) (ga σ 0 k))) (by omega) (by omega) h2 (by
      intro z hz1
      show (if 373 * c + z = 373 * c + k then ga σ 0 k else ga σ 1 (373 * c + z)) = ga σ 0 z
      by_cases c2 : z = k
      · rw [if_pos (by omega), c2]
      · rw [if_neg (by omega)]; exact hz z (by omega))
    refine ⟨σ', e, r1, ?_, r3, ((FR_sa σ 1 _).mo (by decide) (by decide)).t f⟩
    intro z hz1
    rw [r2 z hz1]
    show (if z = 373 * c + k then _ else ga σ 1 z) = ga σ 1 z
    rw [if_neg (by omega)]
theorem X10_shift (g0 : Nat → Int32) : ∀ (w k n : Nat) (σ : St), k + w = 1119 → w < n → gi σ 2 = nI 4 → (∀ z, z < k → ga σ 1 z = g0 (z + 373)) → (∀ z, k ≤ z → ga σ 1 z = g0 z) →
    ∃ σ', f_X10_save_10 n σ (nI k) = f_X10_save_49 σ' ∧ (∀ z, z < 1119 → ga σ' 1 z = g0 (z + 373)) ∧ gi σ' 2 = nI 3 ∧ FR [2] [1] σ σ' := by
  intro w
  induction w with
  | zero =>
    intro k n σ hk hn h2 h3 h4
    obtain ⟨n, rfl⟩ : ∃ j, n = j + 1 := ⟨n - 1, by omega⟩
    have : k = 1119 := by omega
    subst this
    rw [f_X10_save_10, if_pos (by decide), lt_e, h2]
    exact ⟨_, rfl, h3, rfl, (FR_si σ 2 _).mo (by decide) (by decide)⟩
  | succ w ih =>
    intro k n σ hk hn h2 h3 h4
    obtain ⟨n, rfl⟩ : ∃ j, n = j + 1 := ⟨n - 1, by omega⟩
    have c1 : ¬ (1119 : Int32) ≤ nI k := nI_ge (b := 1119) (by omega) (by omega)
    have ea : nI k + (373 : Int32) = nI (k + 373) := nI_add k 373
    rw [f_X10_save_10, if_neg c1, ea, ixo_nI (by omega) (by omega), ixo_nI (by omega) (by omega), lt_e, nI_clamp (by omega), nI_clamp (by omega), nI_1]
    obtain ⟨σ', e, r1, r2, f⟩ := ih (k + 1) n (sa σ 1 (upd (ga σ 1) k (ga σ 1 (k + 373)))) (by omega) (by omega) h2 (by
      intro z hz
      show (if z = k then ga σ 1 (k + 373) else ga σ 1 z) = g0 (z + 373)
      by_cases c2 : z = k
      · rw [if_pos c2, c2, h4 _ (by omega)]
      · rw [if_neg c2]; exact h3 z (by omega)) (by
      intro z hz
      show (if z = k then ga σ 1 (k + 373) else ga σ 1 z) = g0 z
      rw [if_neg (by omega)]
      exact h4 z (by omega))
    exact ⟨σ', e, r1, r2, ((FR_sa σ 1 _).mo (by decide) (by decide)).t f⟩
theorem X10_save {m : St} {c : Nat} (hc : c ≤ 4) (h : gi m 2 = nI c) : ∃ m', f_X10_save m = some m' ∧ FR [2] [1] m m' ∧ ((c < 4 ∧ gi m' 2 = nI (c + 1) ∧ (∀ z, z < 373 → ga m' 1 (373 * c + z) = ga m 0 z) ∧ (∀ z, z < 373 * c → ga m' 1 z = ga m 1 z)) ∨ (c = 4 ∧ gi m' 2 = nI 4 ∧ (∀ z, z < 373 → ga m' 1 (1119 + z) = ga m 0 z) ∧ (∀ z, z < 1119 → ga m' 1 z = ga m 1 (z + 373)))) := by
  have e4 : (nI c = (4 : Int32)) = (c = 4) := propext (nI_eq (b := 4) (by omega) (by omega))
  unfold f_X10_save
  rw [h]
  simp only [e4]
  by_cases k : c = 4
  · rw [if_pos k]
    subst k
    obtain ⟨σ1, e1, r1, r2, f1⟩ := X10_shift (ga m 1) 1119 0 FU m (by omega) (FU_big (by omega)) h (by intro z hz; omega) (fun _ _ => rfl)
    obtain ⟨σ2, e2, q1, q2, q3, f2⟩ := X10_copy_out (c := 3) (by omega) 373 0 FU σ1 (by omega) (FU_big (by omega)) r2 (by intro z hz; omega)
    refine ⟨σ2, ?_, f1.t f2, Or.inr ⟨rfl, q3, ?_, ?_⟩⟩
    · have e1' : f_X10_save_10 FU m 0 = f_X10_save_49 σ1 := e1
      rw [e1']
      exact e2
    · intro z hz
      rw [← f1.2 0 (by decide)]
      exact q1 z hz
    · intro z hz
      rw [q2 z (by omega)]
      exact r1 z hz
  · rw [if_neg k]
    obtain ⟨σ2, e2, q1, q2, q3, f2⟩ := X10_copy_out (c := c) (by omega) 373 0 FU m (by omega) (FU_big (by omega)) h (by intro z hz; omega)
    exact ⟨σ2, e2, f2, Or.inl ⟨by omega, q3, q1, q2⟩⟩
theorem X3_place {o c : Nat} (ho : o < 4) (hc : c ≤ 4) {X : S2} (h : X.2.1 = nI o) : f_X3_placeOf X (nI c) = some (nI ((o + c) % 4)) := by
  unfold f_X3_placeOf
  rw [h, nI_add]
  exact congrArg some (pk_rem (a := o + c) (d := 4) (by omega) (by omega) (by omega))
theorem ones_some : ∃ q, f_X7_ones = some q := ⟨_, rfl⟩
theorem X3_save {X : S2} {m : St} (h : HIST X m) (hp : PAIR X.1 (ga m 0)) : ∃ X' m', f_X3_save X = some X' ∧ f_X10_save m = some m' ∧ X'.1 = X.1 ∧ HIST X' m' ∧ FR [2] [1] m m' := by
  obtain ⟨o, c, ho, hc, h1, h2, h3, h4, h5, h6, h7⟩ := h
  obtain ⟨m', em, fm, hm⟩ := X10_save hc h3
  have hpl := X3_place ho hc h1
  have hset1 : ∃ τs, hset X.2.2.2 ((o + c) % 4) X.1 = some τs ∧ τs.length ≤ 4 ∧ X.2.2.2.length ≤ τs.length ∧ ((o + c) % 4 < τs.length) ∧ τs[(o + c) % 4]? = some X.1 ∧ ∀ j, j ≠ (o + c) % 4 → j < X.2.2.2.length → τs[j]? = X.2.2.2[j]? := by
    unfold hset
    by_cases k : (o + c) % 4 < X.2.2.2.length
    · rw [if_pos k]
      refine ⟨_, rfl, by rw [List.length_set]; exact h4, by rw [List.length_set]; exact Nat.le_refl _, by rw [List.length_set]; exact k, by rw [List.getElem?_set_self k], ?_⟩
      intro j hj _
      rw [List.getElem?_set_ne (fun q => hj q.symm)]
    · have k2 : (o + c) % 4 = X.2.2.2.length := by
        rcases h6 with h6 | h6
        · omega
        · omega
      rw [if_neg k, if_pos k2]
      refine ⟨_, rfl, by simp; omega, by simp, by simp; omega, by rw [k2]; simp, ?_⟩
      intro j hj hj2
      rw [List.getElem?_append_left hj2]
  obtain ⟨τs, e1, g1, g2, g3, g4, g5⟩ := hset1
  obtain ⟨on, hon⟩ := ones_some
  have e4 : ((4 : Int32) ≤ nI c) = (4 ≤ c) := propext (nI_leI (a := 4) (by omega) (by omega))
  have hS : f_X3_save X = f_save2 X τs := by
    unfold f_X3_save
    rw [h2, hpl, bno_s, ixo_nI (by omega) (by omega), hon, bno_s, nI_clamp (by omega), e1, bno_s]
  unfold f_save2 at hS
  rw [h2] at hS
  simp only [e4] at hS
  by_cases k : 4 ≤ c
  · have hc4 : c = 4 := by omega
    have hp1 : f_X3_placeOf X 1 = some (nI ((o + 1) % 4)) := X3_place (c := 1) ho (by omega) h1
    rw [if_pos k, hp1, bno_s] at hS
    rcases hm with ⟨m1, _⟩ | ⟨m1, m2, m3, m4⟩
    · omega
    · refine ⟨_, m', hS, em, rfl, ⟨(o + 1) % 4, 4, by omega, by omega, rfl, by show nI c = _; rw [hc4], m2, g1, by show 4 ≤ τs.length; omega, Or.inr (by show τs.length = 4; omega), ?_⟩, fm⟩
      intro i hi
      show ∃ τ, τs[((o + 1) % 4 + i) % 4]? = some τ ∧ _
      by_cases ki : i = 3
      · subst ki
        refine ⟨X.1, ?_, PAIR_cong hp (fun z hz => ?_)⟩
        · rw [show ((o + 1) % 4 + 3) % 4 = (o + c) % 4 by omega]
          exact g4
        · exact m3 z hz
      · obtain ⟨τ, t1, t2⟩ := h7 (i + 1) (by omega)
        refine ⟨τ, ?_, PAIR_cong t2 (fun z hz => ?_)⟩
        · rw [show ((o + 1) % 4 + i) % 4 = (o + (i + 1)) % 4 by omega, g5 _ (by omega) (by omega)]
          exact t1
        · show ga m' 1 (373 * i + z) = ga m 1 (373 * (i + 1) + z)
          rw [m4 _ (by omega)]
          congr 1
          omega
  · rw [if_neg k, nI_1] at hS
    rcases hm with ⟨m1, m2, m3, m4⟩ | ⟨m1, _⟩
    · refine ⟨_, m', hS, em, rfl, ⟨o, c + 1, ho, by omega, h1, rfl, m2, g1, ?_, ?_, ?_⟩, fm⟩
      · show c + 1 ≤ τs.length
        rcases h6 with h6 | h6
        · have : (o + c) % 4 = c := by omega
          omega
        · omega
      · show o = 0 ∨ τs.length = 4
        rcases h6 with h6 | h6
        · exact Or.inl h6
        · exact Or.inr (by omega)
      · intro i hi
        show ∃ τ, τs[(o + i) % 4]? = some τ ∧ _
        by_cases ki : i = c
        · subst ki
          exact ⟨X.1, g4, PAIR_cong hp (fun z hz => m3 z hz)⟩
        · obtain ⟨τ, t1, t2⟩ := h7 i (by omega)
          refine ⟨τ, ?_, PAIR_cong t2 (fun z hz => ?_)⟩
          · have hlt := (List.getElem?_eq_some_iff.mp t1).1
            rw [g5 _ (by omega) hlt]
            exact t1
          · exact m4 _ (by omega)
    · omega
/-- undo -/
theorem X10_copy_in {c : Nat} (hc : c ≤ 3) : ∀ (w k n : Nat) (σ : St), k + w = 373 → w < n → gi σ 2 = nI c → (∀ z, z < k → ga σ 0 z = ga σ 1 (373 * c + z)) →
    ∃ σ', f_X10_undo_35 n σ (nI k) = some (nI c, σ') ∧ (∀ z, z < 373 → ga σ' 0 z = ga σ 1 (373 * c + z)) ∧ FR [] [0] σ σ' := by
  intro w
  induction w with
  | zero =>
    intro k n σ hk hn h2 hz
    obtain ⟨n, rfl⟩ : ∃ j, n = j + 1 := ⟨n - 1, by omega⟩
    have : k = 373 := by omega
    subst this
    rw [f_X10_undo_35, if_pos (by decide), h2]
    exact ⟨σ, rfl, hz, FR.rfl' _ _ _⟩
  | succ w ih =>
    intro k n σ hk hn h2 hz
    obtain ⟨n, rfl⟩ : ∃ j, n = j + 1 := ⟨n - 1, by omega⟩
    have c1 : ¬ (373 : Int32) ≤ nI k := nI_ge (b := 373) (by omega) (by omega)
    have ea : (373 : Int32) * nI c + nI k = nI (373 * c + k) := by
      simp only [L373, iI_nI, iI_mul, iI_add]
      congr 1 <;> omega
    rw [f_X10_undo_35, if_neg c1, h2, ea, ixo_nI (by omega) (by omega), ixo_nI (by omega) (by omega), lt_e, nI_clamp (by omega), nI_clamp (by omega), nI_1]
    obtain ⟨σ', e, r1, f⟩ := ih (k + 1) n (sa σ 0 (upd (ga σ 0) k (ga σ 1 (373 * c + k)))) (by omega) (by omega) h2 (by
      intro z hz1
      show (if z = k then ga σ 1 (373 * c + k) else ga σ 0 z) = ga σ 1 (373 * c + z)
      by_cases c2 : z = k
      · rw [if_pos c2, c2]
      · rw [if_neg c2]; exact hz z (by omega))
    exact ⟨σ', e, r1, (FR_sa σ 0 _).t f⟩
theorem X7_copyFrom {D : List (List Nat)} {V E : Nat → Int32} {P : Nat → Nat → Int32} {S : Nat → Int32} {t t2 : List Nat} {T : Bd} {R : Nat → Nat → Nat} {σ τ : St} (h : CB D V E P S t2 T R τ) (ht : gi σ 0 = nI (pk t)) : ∃ σ', f_X7_copyFrom σ τ = some σ' ∧ CB D V E P S t T R σ' := by
  obtain ⟨h1, h2, h3, h4, h5, h6, h7, h8⟩ := h
  unfold f_X7_copyFrom f_X1_copyFrom f_X0_copyFrom
  exact ⟨_, rfl, h1, h2, h3, h4, h5, ht, h7, h8⟩
