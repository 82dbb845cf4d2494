/-! ===== the reference's cross words are the class's ===== -/
theorem up_full {g : Int → Option Nat} : ∀ (m n : Nat) (q : Int), m ≤ n → (∀ k : Nat, k < m → (g (q + k)).isSome = true) → (m < n → g (q + m) = none) → (up g n q).length = m ∧ ∀ k : Nat, k < m → (up g n q)[k]? = g (q + k)
  | 0, 0, q, _, _, _ => ⟨rfl, fun k hk => by omega⟩
  | 0, n + 1, q, _, _, h => by
    have h := h (by omega)
    rw [show q + ((0 : Nat) : Int) = q by omega] at h
    refine ⟨?_, fun k hk => by omega⟩
    rw [up, h]
    rfl
  | m + 1, 0, q, h, _, _ => by omega
  | m + 1, n + 1, q, h, h1, h2 => by
    have h0 := h1 0 (by omega)
    rw [show q + ((0 : Nat) : Int) = q by omega] at h0
    obtain ⟨a, ha⟩ := Option.isSome_iff_exists.mp h0
    have ih := up_full m n (q + 1) (by omega) (fun k hk => by
      have := h1 (k + 1) (by omega)
      rwa [show q + ((k + 1 : Nat) : Int) = q + 1 + (k : Int) by omega] at this) (fun hm => by
      have := h2 (by omega)
      rwa [show q + ((m + 1 : Nat) : Int) = q + 1 + (m : Int) by omega] at this)
    rw [up, ha]
    refine ⟨by simp [ih.1], ?_⟩
    intro k hk
    match k with
    | 0 => rw [show q + ((0 : Nat) : Int) = q by omega, ha]; rfl
    | k + 1 =>
      have := ih.2 k (by omega)
      rw [show q + ((k + 1 : Nat) : Int) = q + 1 + (k : Int) by omega, ← this]
      rfl
theorem lo_some {g : Int → Option Nat} : ∀ (n : Nat) (p i : Int), lo g n p ≤ i → i < p → (g i).isSome = true
  | 0, p, i, h1, h2 => by
    unfold lo at h1
    omega
  | n + 1, p, i, h1, h2 => by
    unfold lo at h1
    by_cases c : (g (p - 1)).isSome = true
    · rw [if_pos c] at h1
      by_cases c2 : i = p - 1
      · rw [c2]; exact c
      · exact lo_some n (p - 1) i h1 (by omega)
    · rw [if_neg c] at h1
      omega
theorem hiw_some {g : Int → Option Nat} : ∀ (n : Nat) (p i : Int), p < i → i ≤ hiw g n p → (g i).isSome = true
  | 0, p, i, h1, h2 => by
    unfold hiw at h2
    omega
  | n + 1, p, i, h1, h2 => by
    unfold hiw at h2
    by_cases c : (g (p + 1)).isSome = true
    · rw [if_pos c] at h2
      by_cases c2 : i = p + 1
      · rw [c2]; exact c
      · exact hiw_some n (p + 1) i (by omega) h2
    · rw [if_neg c] at h2
      omega
theorem hiw_stop {g : Int → Option Nat} (hg : ∀ i, (g i).isSome = true → i < 7) : ∀ (n : Nat) (p : Int), 7 - p < n → p < 7 → g (hiw g n p + 1) = none
  | 0, p, h, h2 => by omega
  | n + 1, p, h, h2 => by
    unfold hiw
    by_cases c : (g (p + 1)).isSome = true
    · rw [if_pos c]
      exact hiw_stop hg n (p + 1) (by omega) (hg _ c)
    · rw [if_neg c]
      simpa using c
section thr
theorem thr_all {T : Bd} (h : okT T) {e : Nat} {j p : Int} (hp : 0 ≤ p ∧ p < 7) (l : Nat) : (thr (M T e j) p l).length = (hiw (M T e j) 8 p - lo (M T e j) 7 p + 1).toNat ∧ (∀ k : Nat, k < (hiw (M T e j) 8 p - lo (M T e j) 7 p + 1).toNat → (thr (M T e j) p l)[k]? = put1 (M T e j) p l (lo (M T e j) 7 p + k)) ∧
    0 ≤ lo (M T e j) 7 p ∧ lo (M T e j) 7 p ≤ p ∧ p ≤ hiw (M T e j) 8 p ∧ hiw (M T e j) 8 p < 7 := by
  have g0 : ∀ i, (M T e j i).isSome = true → 0 ≤ i := fun i hi => (M_some h hi).2.2.1
  have g7 : ∀ i, (M T e j i).isSome = true → i < 7 := fun i hi => (M_some h hi).2.2.2
  have b1 := lo_bd g0 7 p hp.1
  have b2 := hiw_bd g7 8 p hp.2
  have hs := hiw_stop g7 8 p (by omega) hp.2
  have f := up_full (g := put1 (M T e j) p l) (hiw (M T e j) 8 p - lo (M T e j) 7 p + 1).toNat 7 (lo (M T e j) 7 p) (by omega) (fun k hk => by
    unfold put1
    by_cases c : lo (M T e j) 7 p + (k : Int) = p
    · rw [if_pos c]; rfl
    · rw [if_neg c]
      by_cases c2 : lo (M T e j) 7 p + (k : Int) < p
      · exact lo_some 7 p _ (by omega) c2
      · exact hiw_some 8 p _ (by omega) (by omega)) (fun _ => by
    unfold put1
    rw [if_neg (by omega), show lo (M T e j) 7 p + ((hiw (M T e j) 8 p - lo (M T e j) 7 p + 1).toNat : Int) = hiw (M T e j) 8 p + 1 by omega]
    exact hs)
  exact ⟨f.1, f.2, b1.1, b1.2, b2.2, b2.1⟩
end thr
theorem BR_at {T : Bd} {f : Nat → Int32} (h : BR T f) {e : Nat} {j i : Int} (hj : 0 ≤ j ∧ j < 7) (hi : 0 ≤ i ∧ i < 7) : 0 ≤ 7 * rwE e j i + clE e j i ∧ 7 * rwE e j i + clE e j i < 49 ∧ f (7 * rwE e j i + clE e j i).toNat = enc (M T e j i) := by
  obtain ⟨j, rfl⟩ : ∃ n : Nat, j = n := ⟨j.toNat, by omega⟩
  obtain ⟨i, rfl⟩ : ∃ n : Nat, i = n := ⟨i.toNat, by omega⟩
  unfold rwE clE M
  by_cases c : e = 0
  · simp only [if_pos c]
    refine ⟨by omega, by omega, ?_⟩
    rw [show ((7 : Int) * j + i).toNat = 7 * j + i by omega]
    exact h.2 j i (by omega) (by omega)
  · simp only [if_neg c]
    refine ⟨by omega, by omega, ?_⟩
    rw [show ((7 : Int) * i + j).toNat = 7 * i + j by omega]
    exact h.2 i j (by omega) (by omega)
theorem X10_takes_loop {T : Bd} {d : Nat} (hd : d < 2) {a j : Nat} (ha : a < 7) (hj : j < 7) (hM : M T (1 - d) j a = none) {l : Nat} (hl : l < 8) {L : Int} (hL : L = lo (M T (1 - d) j) 7 a) : ∀ (m k n : Nat) (σ : St), BR T (ga σ 8) → gi σ 7 = nI (thr (M T (1 - d) j) a l).length → gi σ 12 = nI (thr (M T (1 - d) j) a l).length → gi σ 10 = iI (rwE (1 - d) j L) → gi σ 11 = iI (clE (1 - d) j L) →
    k + m = (thr (M T (1 - d) j) a l).length → m < n → (∀ i x, i < k → (thr (M T (1 - d) j) a l)[i]? = some x → ga σ 6 i = nI x) →
    ∃ σ', f_X10_takesCross_10 n σ (nI d) (nI l) (nI k) = some σ' ∧ HW (thr (M T (1 - d) j) a l) σ' ∧ FR [] [6] σ σ' := by
  intro m
  induction m with
  | zero =>
    intro k n σ h g7 g12 g10 g11 hk hn hc
    obtain ⟨n, rfl⟩ : ∃ j, n = j + 1 := ⟨n - 1, by omega⟩
    have hok := thr_ok h.1 (e := 1 - d) (b := j) (p := a) hl
    have h7 := hok.2
    rw [f_X10_takesCross_10, g12, if_pos (nI_le (by omega) (by omega))]
    refine ⟨σ, rfl, ⟨g7, hok, ?_⟩, FR.rfl' _ _ _⟩
    intro i x hi
    have := (List.getElem?_eq_some_iff.mp hi).1
    exact hc i x (by omega) hi
  | succ m ih =>
    intro k n σ h g7 g12 g10 g11 hk hn hc
    obtain ⟨n, rfl⟩ : ∃ j, n = j + 1 := ⟨n - 1, by omega⟩
    have hok := thr_ok h.1 (e := 1 - d) (b := j) (p := a) hl
    have h7 := hok.2
    have t := thr_all h.1 (e := 1 - d) (j := j) (p := a) (by omega) l
    have tk := t.2.1 k (by omega)
    have hb : 0 ≤ L + k ∧ L + k < 7 := by omega
    have at1 := BR_at h (e := 1 - d) (j := j) (i := L + k) (by omega) hb
    have hidx : ∀ s0 s1 : Int32, s0 + s1 = iI (7 * rwE (1 - d) j (L + k) + clE (1 - d) j (L + k)) → f_X10_takesCross_49 (f_X10_takesCross_10 n) σ (nI d) (nI l) (nI k) s0 s1 = f_X10_takesCross_10 n (sa σ 6 (upd (ga σ 6) k (nI ((put1 (M T (1 - d) j) a l (L + k)).getD 0)))) (nI d) (nI l) (nI (k + 1)) := by
      intro s0 s1 hs
      unfold f_X10_takesCross_49 f_X10_takesCross_79
      rw [hs, ixo_iI at1.1 (by omega) (by omega), ixo_iI at1.1 (by omega) (by omega), iI_nat (by omega) (by omega), at1.2.2, ixo_nI (by omega) (by omega), ixo_nI (by omega) (by omega), lt_e, lt_e, nI_clamp (by omega), nI_1]
      simp only [enc_m1 _ (fun y e => (M_ok h.1 e).2.2.2.2)]
      unfold put1
      by_cases c : L + (k : Int) = a
      · rw [if_pos c]
        rw [if_pos (show M T (1 - d) j (L + k) = none by rw [c]; exact hM)]
        rfl
      · rw [if_neg c]
        cases e : M T (1 - d) j (L + k) with
        | none =>
          exfalso
          have h1 : (put1 (M T (1 - d) j) a l (L + k)).isSome = true := by
            rw [hL, ← tk]
            simp
            omega
          unfold put1 at h1
          rw [if_neg c, e] at h1
          cases h1
        | some y => rw [if_neg (by simp)]; rfl
    have f1 := FR_sa σ 6 (upd (ga σ 6) k (nI ((put1 (M T (1 - d) j) a l (L + k)).getD 0)))
    obtain ⟨σ', e, hw, f2⟩ := ih (k + 1) n (sa σ 6 (upd (ga σ 6) k (nI ((put1 (M T (1 - d) j) a l (L + k)).getD 0)))) h g7 g12 g10 g11 (by omega) (by omega) (by
      intro i x hi hix
      show (if i = k then nI ((put1 (M T (1 - d) j) a l (L + k)).getD 0) else ga σ 6 i) = _
      by_cases c : i = k
      · rw [if_pos c]
        rw [c, tk, ← hL] at hix
        rw [hix]
        rfl
      · rw [if_neg c]
        exact hc i x (by omega) hix)
    refine ⟨σ', ?_, hw, f1.t f2⟩
    rw [f_X10_takesCross_10, g12, if_neg (nI_ge (by omega) (by omega))]
    unfold f_X10_takesCross_33
    rw [g10, g11]
    rcases (by omega : d = 0 ∨ d = 1) with rfl | rfl
    · rw [if_pos (show nI 0 = 0 from rfl), if_pos (show nI 0 = 0 from rfl), hidx _ _ ?_]
      · exact e
      · rw [L7, iI_nI, iI_add, iI_mul, iI_add, Int32.add_zero]
        rfl
    · rw [if_neg (by decide), if_neg (by decide), hidx _ _ ?_]
      · exact e
      · rw [L7, Int32.add_zero, iI_nI, iI_mul, iI_add, iI_add]
        unfold rwE clE
        rw [if_pos (by omega), if_pos (by omega), if_pos (by omega), if_pos (by omega)]
        congr 1
        omega
/-- the length of the cross word at a place -/
def cxl (T : Bd) (d a j : Nat) : Nat := (hiw (M T (1 - d) j) 8 a - lo (M T (1 - d) j) 7 a + 1).toNat
theorem cxl_len {T : Bd} (h : okT T) {d a j : Nat} (ha : a < 7) (l : Nat) : (thr (M T (1 - d) j) a l).length = cxl T d a j ∧ 1 ≤ cxl T d a j ∧ cxl T d a j ≤ 7 := by
  have t := thr_all h (e := 1 - d) (j := j) (p := a) (by omega) l
  unfold cxl
  exact ⟨t.1, by omega, by omega⟩
/-- the cross word is found -/
def CX (T : Bd) (d a j : Nat) (σ : St) : Prop := gi σ 10 = iI (rwE (1 - d) j (lo (M T (1 - d) j) 7 a)) ∧ gi σ 11 = iI (clE (1 - d) j (lo (M T (1 - d) j) 7 a)) ∧ gi σ 12 = nI (cxl T d a j)
def RW (d a b : Nat) : Nat := if d = 0 then a else b
def CL (d a b : Nat) : Nat := if d = 0 then b else a
theorem rw_RW {d : Nat} (hd : d < 2) (a j : Nat) : iI (rwE (1 - d) j a) = nI (RW d a j) ∧ iI (clE (1 - d) j a) = nI (CL d a j) := by
  rcases (by omega : d = 0 ∨ d = 1) with rfl | rfl
  · exact ⟨(iI_nI a).symm, (iI_nI j).symm⟩
  · exact ⟨(iI_nI j).symm, (iI_nI a).symm⟩
theorem X10_finds {T : Bd} {d : Nat} (hd : d < 2) {a j : Nat} (ha : a < 7) (hj : j < 7) {σ : St} (h : BR T (ga σ 8)) : ∃ σ', f_X10_findsCross σ (nI (RW d a j)) (nI (CL d a j)) (nI d) = some σ' ∧ CX T d a j σ' ∧ FR [10, 11, 12] [] σ σ' := by
  obtain ⟨σ', e, e1, e2, e3, f⟩ := X10_findsCross hd ha hj h
  have r := rw_RW hd a j
  rw [r.1, r.2] at e
  refine ⟨σ', e, ⟨e1, e2, ?_⟩, f⟩
  rw [e3, iI_nI]
  have t := thr_all h.1 (e := 1 - d) (j := j) (p := a) (by omega) 0
  unfold cxl
  congr 1
  omega
theorem X10_takesCross {T : Bd} {d : Nat} (hd : d < 2) {a j : Nat} (ha : a < 7) (hj : j < 7) (hM : M T (1 - d) j a = none) {l : Nat} (hl : l < 8) {σ : St} (h : BR T (ga σ 8)) (hX : CX T d a j σ) : ∃ σ', f_X10_takesCross σ (nI d) (nI l) = some σ' ∧ HW (thr (M T (1 - d) j) a l) σ' ∧ FR [7] [6] σ σ' := by
  have hl2 := (cxl_len h.1 (d := d) (j := j) ha l).1
  unfold f_X10_takesCross
  rw [lt_e]
  obtain ⟨σ', e, hw, f⟩ := X10_takes_loop hd ha hj hM hl rfl (thr (M T (1 - d) j) a l).length 0 FU (si σ 7 (gi σ 12)) h (by rw [gi_si, hX.2.2, hl2]) (by show gi σ 12 = _; rw [hX.2.2, hl2]) hX.1 hX.2.1 (by omega) (FU_big (by have := (cxl_len h.1 (d := d) (j := j) ha l).2.2; omega)) (by intro i x hi; omega)
  exact ⟨σ', e, hw, (FR_si σ 7 _).tr f (by decide) (by decide)⟩
