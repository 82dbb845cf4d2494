/-! ===== the reference's reason is the class's refusal ===== -/
/-- the racks laid aside -/
def RR (R : Nat → Nat → Nat) (f : Nat → Int32) : Prop := ∀ p l, p < 2 → l < 8 → f (8 * p + l) = nI (R p l)
/-- the letters that are needed -/
def NE (f : List Nat) (σ : St) : Prop := ∀ l, l < 8 → ga σ 15 l = nI (f.count l)
theorem X10_cross_loop {D : List (List Nat)} {T : Bd} {d a b : Nat} (hd : d < 2) (ha : a < 7) {t : List Nat} (h7 : b + t.length ≤ 7) : ∀ (suf pre : List Nat) (n : Nat) (σ : St), AD D (ga σ 0) → BR T (ga σ 8) → HL t σ → t = pre ++ suf → suf.length < n →
    ∃ σ', f_X10_reason_297 n σ (nI d) (nI (RW d a b)) (nI (CL d a b)) (nI pre.length) = some (if okX D T d a (b + pre.length) suf then 0 else 8, σ') ∧ FR [7, 10, 11, 12] [6] σ σ' := by
  intro suf
  induction suf with
  | nil =>
    intro pre n σ hD h hL e hn
    obtain ⟨n, rfl⟩ : ∃ j, n = j + 1 := ⟨n - 1, by simp at hn; omega⟩
    rw [List.append_nil] at e
    rw [f_X10_reason_297, hL.1, if_pos (by rw [e]; exact nI_le (Nat.le_refl _) (by rw [e] at h7; omega)), okX]
    exact ⟨σ, rfl, FR.rfl' _ _ _⟩
  | cons x suf ih =>
    intro pre n σ hD h hL e hn
    have hlen : t.length = pre.length + (suf.length + 1) := by rw [e]; simp
    obtain ⟨n, rfl⟩ : ∃ j, n = j + 1 := ⟨n - 1, by simp at hn; omega⟩
    have hg : t[pre.length]? = some x := by rw [e]; simp
    have hx : x < 8 := hL.2.1.1 x (by rw [e]; simp)
    have hsq := sq_lt (d := d) ha (show b + pre.length < 7 by omega)
    have hBR := BR_sq h (d := d) ha (show b + pre.length < 7 by omega)
    have hrc := sq_rcm (d := d) ha (show b + pre.length < 7 by omega)
    have go : ∀ σ1, FR [7, 10, 11, 12] [6] σ σ1 → ∃ σ', f_X10_reason_374 (f_X10_reason_297 n) σ1 (nI d) (nI (RW d a b)) (nI (CL d a b)) (nI pre.length) = some (if okX D T d a (b + pre.length + 1) suf then 0 else 8, σ') ∧ FR [7, 10, 11, 12] [6] σ σ' := by
      intro σ1 f
      obtain ⟨σ', e1, f1⟩ := ih (pre ++ [x]) n σ1 (by rw [f.2 0 (by decide)]; exact hD) (by rw [f.2 8 (by decide)]; exact h) ⟨by rw [f.1 14 (by decide)]; exact hL.1, hL.2.1, by rw [f.2 13 (by decide)]; exact hL.2.2⟩ (by rw [e]; simp) (by simp at hn; omega)
      refine ⟨σ', ?_, f.t f1⟩
      unfold f_X10_reason_374
      rw [nI_1]
      rw [List.length_append] at e1
      exact e1
    rw [f_X10_reason_297, hL.1, if_neg (nI_ge (by omega) (by omega)), X10_squareOf hd, bno_s, ixo_nI hsq (by omega), nI_clamp (by omega), hBR, okX]
    simp only [enc_m1 _ (fun y e => (M_ok h.1 e).2.2.2.2)]
    cases hM : M T d a (b + pre.length : Nat) with
    | some y =>
      obtain ⟨σ', e1, f1⟩ := go σ (FR.rfl' _ _ _)
      rw [if_neg (by simp)]
      exact ⟨σ', e1, f1⟩
    | none =>
      have hM2 : M T (1 - d) (b + pre.length : Nat) a = none := by rw [← M_turn hd]; exact hM
      obtain ⟨σ1, e1, hX, f1⟩ := X10_finds hd ha (show b + pre.length < 7 by omega) h
      have h1 : BR T (ga σ1 8) := by rw [f1.2 8 (by decide)]; exact h
      obtain ⟨σ2, e2, hW, f2⟩ := X10_takesCross hd ha (show b + pre.length < 7 by omega) hM2 hx h1 hX
      have f12 : FR [7, 10, 11, 12] [6] σ σ2 := f1.tr f2 (by decide) (by decide)
      have hD2 : AD D (ga σ2 0) := by rw [f12.2 0 (by decide)]; exact hD
      have hc := cxl_len h.1 (d := d) (j := b + pre.length) ha x
      have hX2 : gi σ2 12 = nI (cxl T d a (b + pre.length)) := by rw [f2.1 12 (by decide)]; exact hX.2.2
      obtain ⟨σ', e3, f3⟩ := go σ2 f12
      rw [if_pos rfl, hrc.1, show nI (sq d a (b + pre.length)) - nI (RW d a (b + pre.length)) * 7 = nI (CL d a (b + pre.length)) by rw [← hrc.1]; exact hrc.2, e1, bno_s, ixo_nI (by omega) (by omega), nI_clamp (by omega), f1.2 13 (by decide), hL.2.2 _ x hg, e2, bno_s, hX2]
      have e4 : (nI (cxl T d a (b + pre.length)) ≤ (1 : Int32)) = (cxl T d a (b + pre.length) ≤ 1) := propext (nI_leI (b := 1) (by omega) (by omega))
      simp only [e4, Option.isSome_none, Bool.false_or]
      by_cases c : cxl T d a (b + pre.length) ≤ 1
      · rw [if_pos c]
        have em : mst D (thr (M T (1 - d) (b + pre.length : Nat)) a x) = true := by
          unfold mst
          rw [hc.1, decide_eq_true (by omega), Bool.true_or]
        rw [em, Bool.true_and]
        exact ⟨σ', e3, f3⟩
      · rw [if_neg c, X10_foundAt hD2 hW, bno_s]
        simp only [num_m1 hD.2.1]
        rw [mst_long (by rw [hc.1]; omega)]
        by_cases c2 : thr (M T (1 - d) (b + pre.length : Nat)) a x ∈ D
        · rw [if_neg (fun q => q c2), decide_eq_true c2, Bool.true_and]
          exact ⟨σ', e3, f3⟩
        · rw [if_pos c2, decide_eq_false c2, Bool.false_and]
          exact ⟨σ2, rfl, f12⟩
theorem tk_iff {R : Nat → Nat} {f : List Nat} (hf : lt8 f) : tk R f = none ↔ ¬ ∀ l, l < 8 → f.count l ≤ R l := by
  constructor
  · intro h h2
    have := tk_some f R (fun l => by
      by_cases c : l < 8
      · exact h2 l c
      · rw [List.count_eq_zero_of_not_mem (fun q => c (hf l q))]
        omega)
    rw [h] at this
    cases this
  · intro h
    by_cases c : ∃ l, R l < f.count l
    · obtain ⟨l, hl⟩ := c
      exact tk_none f R l hl
    · exact absurd (fun l _ => Nat.not_lt.mp (fun q => c ⟨l, q⟩)) h
theorem X10_need_loop {T : Bd} {R : Nat → Nat → Nat} {p d a b : Nat} (hp : p < 2) (hd : d < 2) (ha : a < 7) {t f : List Nat} (h7 : b + t.length ≤ 7) {σ : St} (h : BR T (ga σ 8)) (hR : RR R (ga σ 9)) (hk : okR (R p)) (hL : HL t σ) (hN : NE f σ) (hf : f.length ≤ 7) : ∀ (m l n : Nat), l + m = 8 → m < n →
    f_X10_reason_221 n σ (nI p) (nI d) (nI (RW d a b)) (nI (CL d a b)) (nI l) = if (List.range' l m).all (fun i => decide (f.count i ≤ R p i)) = true then (if con T d a b t.length then f_X10_reason_294 σ (nI d) (nI (RW d a b)) (nI (CL d a b)) else some (7, σ)) else some (6, σ) := by
  intro m
  induction m with
  | zero =>
    intro l n hl hn
    obtain ⟨n, rfl⟩ : ∃ j, n = j + 1 := ⟨n - 1, by omega⟩
    have : l = 8 := by omega
    subst this
    rw [f_X10_reason_221, if_pos (by decide), if_pos (by rfl)]
    exact X10_con h hd ha h7 hL.1 _ _
  | succ m ih =>
    intro l n hl hn
    obtain ⟨n, rfl⟩ : ∃ j, n = j + 1 := ⟨n - 1, by omega⟩
    have c : ¬ (8 : Int32) ≤ nI l := nI_ge (b := 8) (by omega) (by omega)
    have ea : (8 : Int32) * nI p + nI l = nI (8 * p + l) := by
      simp only [L8, iI_nI, iI_mul, iI_add]
      congr 1 <;> omega
    have b1 := R_le (R := R p) l (by omega)
    have b2 : f.count l ≤ f.length := List.count_le_length
    unfold okR at hk
    have e4 : (nI (f.count l) ≤ nI (R p l)) = (f.count l ≤ R p l) := propext (nI_leI (by omega) (by omega))
    rw [f_X10_reason_221, if_neg c, ea, ixo_nI (by omega) (by omega), ixo_nI (by omega) (by omega), nI_clamp (by omega), nI_clamp (by omega), hN l (by omega), hR p l hp (by omega)]
    simp only [e4]
    rw [List.range'_succ, List.all_cons]
    by_cases c2 : f.count l ≤ R p l
    · rw [if_pos c2, nI_1, ih (l + 1) n (by omega) (by omega), decide_eq_true c2, Bool.true_and]
    · rw [if_neg c2, decide_eq_false c2, Bool.false_and, if_neg (by simp)]
theorem NE_more {f : List Nat} {σ : St} (h : NE f σ) {x : Nat} (hx : x < 8) : NE (f ++ [x]) (sa σ 15 (upd (ga σ 15) x (nI (f.count x) + 1))) := by
  intro l hl
  show (if l = x then nI (f.count x) + 1 else ga σ 15 l) = _
  by_cases c : l = x
  · rw [if_pos c, c, List.count_append, nI_1]
    simp
  · rw [if_neg c, h l hl, List.count_append, List.count_eq_zero_of_not_mem (show l ∉ [x] by simpa using c)]
    rfl
theorem X10_tiles_loop {T : Bd} {p d a b : Nat} (hd : d < 2) (ha : a < 7) {t : List Nat} (h7 : b + t.length ≤ 7) : ∀ (suf pre f : List Nat) (n : Nat) (σ : St), BR T (ga σ 8) → HL t σ → NE f σ → f.length ≤ pre.length → t = pre ++ suf → suf.length < n →
    ∃ σ', FR [] [15] σ σ' ∧ (agr (M T d a) (b + pre.length) suf = false → f_X10_reason_118 n σ (nI p) (nI d) (nI (RW d a b)) (nI (CL d a b)) (nI f.length) (nI pre.length) = some (4, σ')) ∧
      (agr (M T d a) (b + pre.length) suf = true → NE (f ++ frs (M T d a) (b + pre.length) suf) σ' ∧ f_X10_reason_118 n σ (nI p) (nI d) (nI (RW d a b)) (nI (CL d a b)) (nI f.length) (nI pre.length) = if (f ++ frs (M T d a) (b + pre.length) suf) = [] then some (5, σ') else f_X10_reason_221 FU σ' (nI p) (nI d) (nI (RW d a b)) (nI (CL d a b)) 0) := by
  intro suf
  induction suf with
  | nil =>
    intro pre f n σ h hL hN hf e hn
    obtain ⟨n, rfl⟩ : ∃ j, n = j + 1 := ⟨n - 1, by simp at hn; omega⟩
    rw [List.append_nil] at e
    refine ⟨σ, FR.rfl' _ _ _, (fun q => by cases q), fun _ => ?_⟩
    have e1 : (nI f.length = (0 : Int32)) = (f.length = 0) := propext (nI_eq (b := 0) (by rw [e] at h7; omega) (by omega))
    rw [f_X10_reason_118, hL.1, if_pos (by rw [e]; exact nI_le (Nat.le_refl _) (by rw [e] at h7; omega)), frs, List.append_nil]
    simp only [e1, List.length_eq_zero_iff]
    exact ⟨hN, trivial⟩
  | cons x suf ih =>
    intro pre f n σ h hL hN hf e hn
    have hlen : t.length = pre.length + (suf.length + 1) := by rw [e]; simp
    obtain ⟨n, rfl⟩ : ∃ j, n = j + 1 := ⟨n - 1, by simp at hn; omega⟩
    have hg : t[pre.length]? = some x := by rw [e]; simp
    have hx : x < 8 := hL.2.1.1 x (by rw [e]; simp)
    have hsq := sq_lt (d := d) ha (show b + pre.length < 7 by omega)
    have hBR := BR_sq h (d := d) ha (show b + pre.length < 7 by omega)
    have hfx : f.count x ≤ f.length := List.count_le_length
    rw [f_X10_reason_118, hL.1, if_neg (nI_ge (by omega) (by omega)), X10_squareOf hd, bno_s, ixo_nI hsq (by omega), nI_clamp (by omega), hBR, agr, frs]
    simp only [enc_m1 _ (fun y e => (M_ok h.1 e).2.2.2.2)]
    rw [ixo_nI (by omega) (by omega), nI_clamp (by omega), hL.2.2 _ x hg]
    unfold f_X10_reason_163
    rw [ixo_nI (by omega) (by omega), nI_clamp (by omega), hL.2.2 _ x hg, ixo_nI hx (by omega), nI_clamp (by omega), hN x hx]
    unfold f_X10_reason_187
    rw [ixo_nI hx (by omega), ixo_nI hx (by omega), nI_clamp (by omega), lt_e, lt_e]
    simp only [enc_m1 _ (fun y e => (M_ok h.1 e).2.2.2.2)]
    unfold f_X10_reason_202
    cases hM : M T d a (b + pre.length : Nat) with
    | none =>
      obtain ⟨σ', f1, k1, k2⟩ := ih (pre ++ [x]) (f ++ [x]) n (sa σ 15 (upd (ga σ 15) x (nI (f.count x) + 1))) h hL (NE_more hN hx) (by simp; omega) (by rw [e]; simp) (by simp at hn; omega)
      rw [List.length_append, List.length_append] at k1 k2
      have e2 : f ++ [x] ++ frs (M T d a) (b + (pre.length + [x].length)) suf = f ++ x :: frs (M T d a) (b + pre.length + 1) suf := by
        rw [List.append_assoc]
        rfl
      rw [e2] at k2
      refine ⟨σ', (FR_sa σ 15 _).t f1, ?_, ?_⟩
      · intro q
        rw [if_pos rfl, if_pos rfl, if_pos rfl, nI_1 f.length, nI_1 pre.length]
        exact k1 q
      · intro q
        rw [if_pos rfl, if_pos rfl, if_pos rfl, nI_1 f.length, nI_1 pre.length]
        exact k2 q
    | some y =>
      have hy := (M_ok h.1 hM).2.2.2.2
      have hne : ¬ (some y = (none : Option Nat)) := by simp
      have hss : (some y).isSome = true := rfl
      simp only [if_neg hne, if_pos hss]
      show ∃ σ', FR [] [15] σ σ' ∧ (_ → (if nI y = nI x then _ else _) = _) ∧ (_ → _ ∧ (if nI y = nI x then _ else _) = _)
      by_cases c : y = x
      · have hsame : sa σ 15 (upd (ga σ 15) x (nI (f.count x) + 0)) = σ ∨ True := Or.inr trivial
        obtain ⟨σ', f1, k1, k2⟩ := ih (pre ++ [x]) f n (sa σ 15 (upd (ga σ 15) x (nI (f.count x) + 0))) h hL (by
          intro l hl
          show (if l = x then nI (f.count x) + 0 else ga σ 15 l) = _
          by_cases c2 : l = x
          · rw [if_pos c2, c2, Int32.add_zero]
          · rw [if_neg c2]; exact hN l hl) (by simp; omega) (by rw [e]; simp) (by simp at hn; omega)
        rw [List.length_append] at k1 k2
        refine ⟨σ', (FR_sa σ 15 _).t f1, ?_, ?_⟩
        · intro q
          rw [if_pos (by rw [c]), Int32.add_zero (nI f.length), nI_1 pre.length]
          have q2 : agr (M T d a) (b + pre.length + 1) suf = false := by simpa [c] using q
          exact k1 q2
        · intro q
          rw [if_pos (by rw [c]), Int32.add_zero (nI f.length), nI_1 pre.length]
          have q2 : agr (M T d a) (b + pre.length + 1) suf = true := by simpa [c] using q
          exact k2 q2
      · refine ⟨σ, FR.rfl' _ _ _, ?_, ?_⟩
        · intro q
          rw [if_neg (fun z => c ((nI_eq (by omega) (by omega)).mp z))]
        · intro q
          simp [c] at q
theorem X10_zero_loop {p d a b : Nat} : ∀ (m l n : Nat) (σ : St), l + m = 8 → m < n → (∀ i, i < l → ga σ 15 i = 0) →
    ∃ σ', f_X10_reason_91 n σ (nI p) (nI d) (nI (RW d a b)) (nI (CL d a b)) (nI l) = f_X10_reason_118 FU σ' (nI p) (nI d) (nI (RW d a b)) (nI (CL d a b)) 0 0 ∧ NE [] σ' ∧ FR [] [15] σ σ' := by
  intro m
  induction m with
  | zero =>
    intro l n σ hl hn hz
    obtain ⟨n, rfl⟩ : ∃ j, n = j + 1 := ⟨n - 1, by omega⟩
    have : l = 8 := by omega
    subst this
    rw [f_X10_reason_91, if_pos (by decide)]
    exact ⟨σ, rfl, fun i hi => hz i hi, FR.rfl' _ _ _⟩
  | succ m ih =>
    intro l n σ hl hn hz
    obtain ⟨n, rfl⟩ : ∃ j, n = j + 1 := ⟨n - 1, by omega⟩
    have c : ¬ (8 : Int32) ≤ nI l := nI_ge (b := 8) (by omega) (by omega)
    rw [f_X10_reason_91, if_neg c, ixo_nI (by omega) (by omega), lt_e, nI_clamp (by omega), nI_1]
    obtain ⟨σ', e, hN, f⟩ := ih (l + 1) n (sa σ 15 (upd (ga σ 15) l 0)) (by omega) (by omega) (by
      intro i hi
      show (if i = l then 0 else ga σ 15 i) = _
      by_cases c2 : i = l
      · rw [if_pos c2]
      · rw [if_neg c2]; exact hz i (by omega))
    exact ⟨σ', e, hN, (FR_sa σ 15 _).t f⟩
theorem X10_reason {D : List (List Nat)} {T : Bd} {R : Nat → Nat → Nat} {σ : St} (hD : AD D (ga σ 0)) (h : BR T (ga σ 8)) (hR : RR R (ga σ 9)) {p d a b : Nat} (hp : p < 2) (hd : d < 2) (ha : a < 7) (hb : b < 7) (hk : okR (R p)) {u : List Nat} (hW : HW u σ) :
    ∃ σ', f_X10_reason σ (nI p) (nI d) (nI (RW d a b)) (nI (CL d a b)) = some (rsn D T (R p) d a b u, σ') ∧ HL u σ' ∧ (rsn D T (R p) d a b u = 0 → NE (frs (M T d a) b u) σ') ∧ FR [7, 10, 11, 12, 14] [6, 13, 15] σ σ' := by
  obtain ⟨σ1, e1, hL, f1⟩ := X10_laysWord hW
  have hW1 : HW u σ1 := ⟨by rw [f1.1 7 (by decide)]; exact hW.1, hW.2.1, by rw [f1.2 6 (by decide)]; exact hW.2.2⟩
  have hD1 : AD D (ga σ1 0) := by rw [f1.2 0 (by decide)]; exact hD
  have h1 : BR T (ga σ1 8) := by rw [f1.2 8 (by decide)]; exact h
  have hR1 : RR R (ga σ1 9) := by rw [f1.2 9 (by decide)]; exact hR
  have hu := hW.2.1
  have hu7 := hu.2
  have F1 : FR [7, 10, 11, 12, 14] [6, 13, 15] σ σ1 := f1.mo (by decide) (by decide)
  unfold f_X10_reason rsn
  rw [e1, bno_s, X10_foundAt hD1 hW1, bno_s]
  simp only [num_m1 hD.2.1]
  by_cases c1 : u ∉ D
  · rw [if_pos c1, if_pos c1]
    exact ⟨σ1, rfl, hL, fun q => absurd q (by decide), F1⟩
  rw [if_neg c1, if_neg c1]
  have e24 : (if nI d = 0 then f_X10_reason_24 σ1 (nI p) (nI d) (nI (RW d a b)) (nI (CL d a b)) (nI (CL d a b)) else f_X10_reason_24 σ1 (nI p) (nI d) (nI (RW d a b)) (nI (CL d a b)) (nI (RW d a b))) = f_X10_reason_24 σ1 (nI p) (nI d) (nI (RW d a b)) (nI (CL d a b)) (nI b) := by
    unfold RW CL
    rcases (by omega : d = 0 ∨ d = 1) with rfl | rfl
    · rw [if_pos (by decide)]; rfl
    · rw [if_neg (by decide)]; rfl
  rw [e24]
  unfold f_X10_reason_24
  rw [hL.1, nI_add]
  have e7 : (nI (b + u.length) ≤ (7 : Int32)) = (b + u.length ≤ 7) := propext (nI_leI (b := 7) (by omega) (by omega))
  simp only [e7]
  by_cases c2 : 7 < b + u.length
  · rw [if_pos c2, if_neg (by omega)]
    exact ⟨σ1, rfl, hL, fun q => absurd q (by decide), F1⟩
  rw [if_neg c2, if_pos (by omega)]
  have t1 : f_X10_hasTile σ1 (nI (RW d a b) - nI d) (nI (CL d a b) - (1 - nI d)) = some (M T d a ((b : Int) - 1)).isSome := by
    refine X10_tM h1 (by omega) (by omega) (by omega) (by omega) ?_ ?_
    · unfold RW
      rcases (by omega : d = 0 ∨ d = 1) with rfl | rfl
      · simp only [if_pos, iI_nI, iI_sub] <;> (refine congrArg iI ?_; first | rfl | omega | (simp <;> omega))
      · rw [if_neg (by omega), if_neg (by omega)]; simp only [iI_nI, iI_sub] <;> (refine congrArg iI ?_; first | rfl | omega | (simp <;> omega))
    · unfold CL
      rcases (by omega : d = 0 ∨ d = 1) with rfl | rfl
      · simp only [if_pos, L1, iI_nI, iI_sub] <;> (refine congrArg iI ?_; first | rfl | omega | (simp <;> omega))
      · rw [if_neg (by omega), if_neg (by omega)]; simp only [L1, iI_nI, iI_sub] <;> (refine congrArg iI ?_; first | rfl | omega | (simp <;> omega))
  have t2 : f_X10_hasTile σ1 (nI (RW d a b) + nI d * nI u.length) (nI (CL d a b) + (1 - nI d) * nI u.length) = some (M T d a ((b : Int) + u.length)).isSome := by
    refine X10_tM h1 (by omega) (by omega) (by omega) (by omega) ?_ ?_
    · unfold RW
      rcases (by omega : d = 0 ∨ d = 1) with rfl | rfl
      · simp only [if_pos, iI_nI, iI_mul, iI_add] <;> (refine congrArg iI ?_; first | rfl | omega | (simp <;> omega))
      · rw [if_neg (by omega), if_neg (by omega)]; simp only [iI_nI, iI_mul, iI_add] <;> (refine congrArg iI ?_; first | rfl | omega | (simp <;> omega))
    · unfold CL
      rcases (by omega : d = 0 ∨ d = 1) with rfl | rfl
      · simp only [if_pos, L1, iI_nI, iI_sub, iI_mul, iI_add] <;> (refine congrArg iI ?_; first | rfl | omega | (simp <;> omega))
      · rw [if_neg (by omega), if_neg (by omega)]; simp only [L1, iI_nI, iI_sub, iI_mul, iI_add] <;> (refine congrArg iI ?_; first | rfl | omega | (simp <;> omega))
  rw [t1, bno_s, if_b, t2, bno_s, if_b]
  unfold tcE
  cases hc3 : (M T d a ((b : Int) - 1)).isSome with
  | true =>
    rw [if_pos rfl, if_pos (by simp)]
    exact ⟨σ1, rfl, hL, fun q => absurd q (by decide), F1⟩
  | false =>
  rw [if_neg (by simp)]
  cases hc4 : (M T d a ((b : Int) + u.length)).isSome with
  | true =>
    rw [if_pos rfl, if_pos (by simp)]
    exact ⟨σ1, rfl, hL, fun q => absurd q (by decide), F1⟩
  | false =>
  rw [if_neg (by simp), if_neg (by simp)]
  obtain ⟨σ2, e2, hN2, f2⟩ := X10_zero_loop (p := p) (d := d) (a := a) (b := b) 8 0 FU σ1 (by omega) (FU_big (by omega)) (by intro i hi; omega)
  have hL2 : HL u σ2 := ⟨by rw [f2.1 14 (by decide)]; exact hL.1, hL.2.1, by rw [f2.2 13 (by decide)]; exact hL.2.2⟩
  obtain ⟨σ3, f3, k1, k2⟩ := X10_tiles_loop (p := p) hd ha (show b + u.length ≤ 7 by omega) u [] [] FU σ2 (by rw [f2.2 8 (by decide)]; exact h1) hL2 hN2 (by simp) rfl (FU_big (by omega))
  have hL3 : HL u σ3 := ⟨by rw [f3.1 14 (by decide)]; exact hL2.1, hL.2.1, by rw [f3.2 13 (by decide)]; exact hL2.2.2⟩
  have F3 : FR [7, 10, 11, 12, 14] [6, 13, 15] σ σ3 := F1.t ((f2.t f3).mo (by decide) (by decide))
  have e2' : f_X10_reason_91 FU σ1 (nI p) (nI d) (nI (RW d a b)) (nI (CL d a b)) 0 = f_X10_reason_118 FU σ2 (nI p) (nI d) (nI (RW d a b)) (nI (CL d a b)) 0 0 := e2
  rw [e2']
  by_cases c4 : agr (M T d a) b u = false
  · rw [if_pos c4]
    have e3 : f_X10_reason_118 FU σ2 (nI p) (nI d) (nI (RW d a b)) (nI (CL d a b)) 0 0 = some (4, σ3) := k1 c4
    rw [e3]
    exact ⟨σ3, rfl, hL3, fun q => absurd q (by decide), F3⟩
  rw [if_neg c4]
  obtain ⟨hN3, e3⟩ := k2 (by simpa using c4)
  have e3' : f_X10_reason_118 FU σ2 (nI p) (nI d) (nI (RW d a b)) (nI (CL d a b)) 0 0 = if frs (M T d a) b u = [] then some (5, σ3) else f_X10_reason_221 FU σ3 (nI p) (nI d) (nI (RW d a b)) (nI (CL d a b)) 0 := e3
  have hN3' : NE (frs (M T d a) b u) σ3 := hN3
  rw [e3']
  by_cases c5 : frs (M T d a) b u = []
  · rw [if_pos c5, if_pos c5]
    exact ⟨σ3, rfl, hL3, fun q => absurd q (by decide), F3⟩
  rw [if_neg c5, if_neg c5]
  have hfl : (frs (M T d a) b u).length ≤ u.length := by
    have : ∀ (v : List Nat) (j : Nat), (frs (M T d a) j v).length ≤ v.length := by
      intro v
      induction v with
      | nil => intro j; simp [frs]
      | cons y v ih =>
        intro j
        have := ih (j + 1)
        unfold frs
        split
        · simp; omega
        · simp; omega
    exact this u b
  have e4 := X10_need_loop (R := R) hp hd ha (show b + u.length ≤ 7 by omega) (σ := σ3) (by rw [F3.2 8 (by decide)]; exact h) (by rw [F3.2 9 (by decide)]; exact hR) hk hL3 hN3' (by omega) 8 0 FU (by omega) (FU_big (by omega))
  have e4' : f_X10_reason_221 FU σ3 (nI p) (nI d) (nI (RW d a b)) (nI (CL d a b)) 0 = _ := e4
  rw [e4']
  have hlt := frs_lt8 (M T d a) u b hu.1
  by_cases c6 : tk (R p) (frs (M T d a) b u) = none
  · rw [if_pos c6, if_neg (fun q => (tk_iff hlt).mp c6 (fun l hl => of_decide_eq_true (List.all_eq_true.mp q l (List.mem_range'_1.mpr (by omega)))))]
    exact ⟨σ3, rfl, hL3, fun q => absurd q (by decide), F3⟩
  rw [if_neg c6, if_pos (List.all_eq_true.mpr (fun l hl => decide_eq_true (Decidable.not_not.mp (fun q => c6 ((tk_iff hlt).mpr (fun z => q (z l (by have := List.mem_range'_1.mp hl; omega))))))))]
  cases hc7 : con T d a b u.length with
  | false =>
    rw [if_neg (by simp), if_pos rfl]
    exact ⟨σ3, rfl, hL3, fun q => absurd q (by decide), F3⟩
  | true =>
  rw [if_pos rfl, if_neg (by simp)]
  unfold f_X10_reason_294
  obtain ⟨σ4, e5, f5⟩ := X10_cross_loop hd ha (show b + u.length ≤ 7 by omega) u [] FU σ3 (by rw [F3.2 0 (by decide)]; exact hD) (by rw [F3.2 8 (by decide)]; exact h) hL3 rfl (FU_big (by omega))
  have e5' : f_X10_reason_297 FU σ3 (nI d) (nI (RW d a b)) (nI (CL d a b)) 0 = some (if okX D T d a b u then 0 else 8, σ4) := e5
  rw [e5']
  refine ⟨σ4, ?_, ⟨by rw [f5.1 14 (by decide)]; exact hL3.1, hL.2.1, by rw [f5.2 13 (by decide)]; exact hL3.2.2⟩, fun _ => ?_, F3.t (f5.mo (by decide) (by decide))⟩
  · cases okX D T d a b u <;> rfl
  · intro l hl
    rw [f5.2 15 (by decide)]
    exact hN3' l hl
