/-! ===== the reference: the word that is laid, squares, touching, the centre ===== -/
/-- the word that is laid -/
def HL (w : List Nat) (σ : St) : Prop := gi σ 14 = nI w.length ∧ okW w ∧ ∀ i a, w[i]? = some a → ga σ 13 i = nI a
theorem X10_lays_word_loop {u : List Nat} : ∀ (m k n : Nat) (σ : St), HW u σ → gi σ 14 = nI u.length → k + m = u.length → m < n → (∀ i a, i < k → u[i]? = some a → ga σ 13 i = nI a) →
    ∃ σ', f_X10_laysWord_10 n σ (nI k) = some σ' ∧ HL u σ' ∧ FR [] [13] σ σ' := by
  intro m
  induction m with
  | zero =>
    intro k n σ h h7 hk hn hc
    obtain ⟨n, rfl⟩ : ∃ j, n = j + 1 := ⟨n - 1, by omega⟩
    have h77 := h.2.1.2
    rw [f_X10_laysWord_10, h.1, if_pos (nI_le (by omega) (by omega))]
    refine ⟨σ, rfl, ⟨h7, h.2.1, ?_⟩, FR.rfl' _ _ _⟩
    intro i a hi
    have := (List.getElem?_eq_some_iff.mp hi).1
    exact hc i a (by omega) hi
  | succ m ih =>
    intro k n σ h h7 hk hn hc
    obtain ⟨n, rfl⟩ : ∃ j, n = j + 1 := ⟨n - 1, by omega⟩
    have h77 := h.2.1.2
    rw [f_X10_laysWord_10, h.1, if_neg (nI_ge (by omega) (by omega)), ixo_nI (by omega) (by omega), ixo_nI (by omega) (by omega), lt_e, nI_clamp (by omega), nI_1]
    have f1 := FR_sa σ 13 (upd (ga σ 13) k (ga σ 6 k))
    obtain ⟨σ', e, hw, f2⟩ := ih (k + 1) n (sa σ 13 (upd (ga σ 13) k (ga σ 6 k))) h h7 (by omega) (by omega) (by
      intro i a hi hia
      show (if i = k then ga σ 6 k else ga σ 13 i) = _
      by_cases c : i = k
      · rw [if_pos c, ← c]
        exact h.2.2 i a hia
      · rw [if_neg c]
        exact hc i a (by omega) hia)
    exact ⟨σ', e, hw, f1.t f2⟩
theorem X10_laysWord {u : List Nat} {σ : St} (h : HW u σ) : ∃ σ', f_X10_laysWord σ = some σ' ∧ HL u σ' ∧ FR [14] [13] σ σ' := by
  have h77 := h.2.1.2
  unfold f_X10_laysWord
  rw [lt_e, h.1]
  obtain ⟨σ', e, hw, f2⟩ := X10_lays_word_loop (u := u) u.length 0 FU (si σ 14 (nI u.length)) h rfl (by omega) (FU_big (by omega)) (by intro i a hi; omega)
  exact ⟨σ', e, hw, (FR_si σ 14 _).tr f2 (by decide) (by decide)⟩
/-- a square's number in the reference -/
def sq (d a j : Nat) : Nat := if d = 0 then 7 * a + j else 7 * j + a
theorem sq_lt {d a j : Nat} (ha : a < 7) (hj : j < 7) : sq d a j < 49 := by
  unfold sq
  split <;> omega
theorem sq_rcm {d a j : Nat} (ha : a < 7) (hj : j < 7) : nI (sq d a j) / 7 = nI (RW d a j) ∧ nI (sq d a j) - nI (sq d a j) / 7 * 7 = nI (CL d a j) := by
  have e := dm7 (sq d a j) (sq_lt ha hj)
  unfold RW CL
  rw [e.1, show nI (sq d a j) - nI (sq d a j / 7) * 7 = nI (sq d a j % 7) by rw [← e.1]; exact e.2]
  unfold sq
  by_cases c : d = 0
  · simp only [if_pos c]
    exact ⟨by congr 1; omega, by congr 1; omega⟩
  · simp only [if_neg c]
    exact ⟨by congr 1; omega, by congr 1; omega⟩
theorem X10_squareOf {d : Nat} (hd : d < 2) (a b k : Nat) : f_X10_squareOf (nI d) (nI (RW d a b)) (nI (CL d a b)) (nI k) = some (nI (sq d a (b + k))) := by
  unfold f_X10_squareOf f_X10_squareOf_13 RW CL sq
  rcases (by omega : d = 0 ∨ d = 1) with rfl | rfl
  · rw [if_neg (by decide), if_pos (by decide), if_pos rfl, if_pos rfl, if_pos rfl]
    simp only [L7, L0, iI_nI, iI_add, iI_mul]
    congr 2 <;> omega
  · rw [if_pos (by decide), if_neg (by decide), if_neg (by omega), if_neg (by omega), if_neg (by omega)]
    simp only [L7, L0, iI_nI, iI_add, iI_mul]
    congr 2 <;> omega
theorem BR_sq {T : Bd} {f : Nat → Int32} (h : BR T f) {d a j : Nat} (ha : a < 7) (hj : j < 7) : f (sq d a j) = enc (M T d a j) := by
  unfold sq M
  by_cases c : d = 0
  · rw [if_pos c, if_pos c, h.2 a j ha hj]
  · rw [if_neg c, if_neg c, h.2 j a hj ha]
theorem X10_tM {T : Bd} {σ : St} (h : BR T (ga σ 8)) {d : Nat} {a j : Int} (h1 : -100 ≤ a) (h2 : a < 100) (h3 : -100 ≤ j) (h4 : j < 100) {r c : Int32} (hr : r = iI (if d = 0 then a else j)) (hc : c = iI (if d = 0 then j else a)) : f_X10_hasTile σ r c = some (M T d a j).isSome := by
  rw [hr, hc]
  unfold M
  by_cases k : d = 0
  · rw [if_pos k, if_pos k, if_pos k, X10_hasTile h (by omega) (by omega) (by omega) (by omega)]
  · rw [if_neg k, if_neg k, if_neg k, X10_hasTile h (by omega) (by omega) (by omega) (by omega)]
def tcB (T : Bd) (d a b k : Nat) : Bool := (M T d a (b + k : Nat)).isSome || (M T d ((a : Int) - 1) (b + k : Nat)).isSome || (M T d ((a : Int) + 1) (b + k : Nat)).isSome
theorem X10_touch_step {T : Bd} {σ : St} (h : BR T (ga σ 8)) {d a b k : Nat} (hd : d < 2) (ha : a < 7) (hb : b + k < 7) (bk : Int32 → Int32 → Int32 → Int32 → Int32 → Option Bool) (acc : Bool) :
    (if nI d = 1 then f_X10_isTouching_27 bk σ (nI d) (nI (RW d a b)) (nI (CL d a b)) (b2i acc) (nI k) (nI (RW d a b)) (nI k) else f_X10_isTouching_27 bk σ (nI d) (nI (RW d a b)) (nI (CL d a b)) (b2i acc) (nI k) (nI (RW d a b)) 0) = bk (nI d) (nI (RW d a b)) (nI (CL d a b)) (b2i (acc || tcB T d a b k)) (nI (k + 1)) := by
  have fin : ∀ (x6 x7 : Int32) (s : Bool), f_X10_hasTile σ x6 x7 = some (M T d a (b + k : Nat)).isSome → f_X10_isTouching_113 bk σ (nI d) (nI (RW d a b)) (nI (CL d a b)) (b2i acc) (nI k) x6 x7 (b2i s) = bk (nI d) (nI (RW d a b)) (nI (CL d a b)) (b2i (acc || ((M T d a (b + k : Nat)).isSome || s))) (nI (k + 1)) := by
    intro x6 x7 s e
    unfold f_X10_isTouching_113 f_X10_isTouching_136 f_X10_isTouching_141
    rw [e, bno_s, if_b, if_b, if_b, nI_1]
    cases acc with
    | true => rfl
    | false =>
      cases (M T d a (b + k : Nat)).isSome with
      | true => rfl
      | false => cases s <;> rfl
  have f1 := fun x6 x7 e => fin x6 x7 true e
  have f0 := fun x6 x7 e => fin x6 x7 false e
  rw [show b2i true = 1 from rfl] at f1
  rw [show b2i false = 0 from rfl] at f0
  unfold tcB
  rcases (by omega : d = 0 ∨ d = 1) with rfl | rfl
  · rw [if_neg (by decide)]
    unfold f_X10_isTouching_27 f_X10_isTouching_41 f_X10_isTouching_74
    rw [if_pos (by decide), if_pos (by decide)]
    have e0 : f_X10_hasTile σ (nI (RW 0 a b) + 0) (nI (CL 0 a b) + nI k) = some (M T 0 a (b + k : Nat)).isSome := X10_tM h (by omega) (by omega) (by omega) (by omega) (by unfold RW; simp only [L0, iI_nI, iI_add] <;> (refine congrArg iI ?_; first | rfl | omega | (simp <;> omega))) (by unfold CL; simp only [iI_nI, iI_add] <;> (refine congrArg iI ?_; first | rfl | omega | (simp <;> omega)))
    have e1 : f_X10_hasTile σ (nI (RW 0 a b) + 0 - 1) (nI (CL 0 a b) + nI k) = some (M T 0 ((a : Int) - 1) (b + k : Nat)).isSome := X10_tM h (by omega) (by omega) (by omega) (by omega) (by unfold RW; simp only [L0, L1, iI_nI, iI_add, iI_sub] <;> (refine congrArg iI ?_; first | rfl | omega | (simp <;> omega))) (by unfold CL; simp only [iI_nI, iI_add] <;> (refine congrArg iI ?_; first | rfl | omega | (simp <;> omega)))
    have e2 : f_X10_hasTile σ (nI (RW 0 a b) + 0 + 1) (nI (CL 0 a b) + nI k) = some (M T 0 ((a : Int) + 1) (b + k : Nat)).isSome := X10_tM h (by omega) (by omega) (by omega) (by omega) (by unfold RW; simp only [L0, L1, iI_nI, iI_add, iI_sub] <;> (refine congrArg iI ?_; first | rfl | omega | (simp <;> omega))) (by unfold CL; simp only [iI_nI, iI_add] <;> (refine congrArg iI ?_; first | rfl | omega | (simp <;> omega)))
    rw [e1, bno_s, if_b, e2, bno_s, if_b, f1 _ _ e0, f0 _ _ e0]
    cases (M T 0 ((a : Int) - 1) (b + k : Nat)).isSome <;> cases (M T 0 ((a : Int) + 1) (b + k : Nat)).isSome <;> cases (M T 0 a (b + k : Nat)).isSome <;> cases acc <;> rfl
  · rw [if_pos (by decide)]
    unfold f_X10_isTouching_27 f_X10_isTouching_41 f_X10_isTouching_108
    rw [if_neg (by decide), if_neg (by decide)]
    have e0 : f_X10_hasTile σ (nI (RW 1 a b) + nI k) (nI (CL 1 a b) + 0) = some (M T 1 a (b + k : Nat)).isSome := X10_tM h (by omega) (by omega) (by omega) (by omega) (by unfold RW; simp only [iI_nI, iI_add] <;> (refine congrArg iI ?_; first | rfl | omega | (simp <;> omega))) (by unfold CL; simp only [L0, iI_nI, iI_add] <;> (refine congrArg iI ?_; first | rfl | omega | (simp <;> omega)))
    have e1 : f_X10_hasTile σ (nI (RW 1 a b) + nI k) (nI (CL 1 a b) + 0 - 1) = some (M T 1 ((a : Int) - 1) (b + k : Nat)).isSome := X10_tM h (by omega) (by omega) (by omega) (by omega) (by unfold RW; simp only [iI_nI, iI_add] <;> (refine congrArg iI ?_; first | rfl | omega | (simp <;> omega))) (by unfold CL; simp only [L0, L1, iI_nI, iI_add, iI_sub] <;> (refine congrArg iI ?_; first | rfl | omega | (simp <;> omega)))
    have e2 : f_X10_hasTile σ (nI (RW 1 a b) + nI k) (nI (CL 1 a b) + 0 + 1) = some (M T 1 ((a : Int) + 1) (b + k : Nat)).isSome := X10_tM h (by omega) (by omega) (by omega) (by omega) (by unfold RW; simp only [iI_nI, iI_add] <;> (refine congrArg iI ?_; first | rfl | omega | (simp <;> omega))) (by unfold CL; simp only [L0, L1, iI_nI, iI_add, iI_sub] <;> (refine congrArg iI ?_; first | rfl | omega | (simp <;> omega)))
    rw [e1, bno_s, if_b, e2, bno_s, if_b, f1 _ _ e0, f0 _ _ e0]
    cases (M T 1 ((a : Int) - 1) (b + k : Nat)).isSome <;> cases (M T 1 ((a : Int) + 1) (b + k : Nat)).isSome <;> cases (M T 1 a (b + k : Nat)).isSome <;> cases acc <;> rfl
theorem X10_touch_loop {T : Bd} {σ : St} (h : BR T (ga σ 8)) {d a b len : Nat} (hd : d < 2) (ha : a < 7) (hb : b + len ≤ 7) (hl : gi σ 14 = nI len) : ∀ (m k n : Nat) (acc : Bool), k + m = len → m < n →
    f_X10_isTouching_6 σ n (nI d) (nI (RW d a b)) (nI (CL d a b)) (b2i acc) (nI k) = some (acc || (List.range' k m).any (fun k => tcB T d a b k)) := by
  intro m
  induction m with
  | zero =>
    intro k n acc hk hn
    obtain ⟨n, rfl⟩ : ∃ j, n = j + 1 := ⟨n - 1, by omega⟩
    rw [f_X10_isTouching_6, hl, if_pos (nI_le (by omega) (by omega)), i2b_b, bno_s]
    simp
  | succ m ih =>
    intro k n acc hk hn
    obtain ⟨n, rfl⟩ : ∃ j, n = j + 1 := ⟨n - 1, by omega⟩
    rw [f_X10_isTouching_6, hl, if_neg (nI_ge (by omega) (by omega)), X10_touch_step h hd ha (by omega), ih (k + 1) n _ (by omega) (by omega), List.range'_succ, List.any_cons, Bool.or_assoc]
theorem X10_isTouching {T : Bd} {σ : St} (h : BR T (ga σ 8)) {d a b len : Nat} (hd : d < 2) (ha : a < 7) (hb : b + len ≤ 7) (hl : gi σ 14 = nI len) : f_X10_isTouching σ (nI d) (nI (RW d a b)) (nI (CL d a b)) = some (tch T d a b len) := by
  have := X10_touch_loop h hd ha hb hl len 0 FU false (by omega) (FU_big (by omega))
  unfold f_X10_isTouching tch
  rw [List.range_eq_range']
  exact this
theorem X10_cen_loop {σ : St} {d a b len : Nat} (hd : d < 2) (ha : a < 7) (hb : b + len ≤ 7) (hl : gi σ 14 = nI len) : ∀ (m k n : Nat) (acc : Bool), k + m = len → m < n →
    f_X10_coversCentre_6 σ n (nI d) (nI (RW d a b)) (nI (CL d a b)) (b2i acc) (nI k) = some (acc || (List.range' k m).any (fun k => decide (sq d a (b + k) = 24))) := by
  intro m
  induction m with
  | zero =>
    intro k n acc hk hn
    obtain ⟨n, rfl⟩ : ∃ j, n = j + 1 := ⟨n - 1, by omega⟩
    rw [f_X10_coversCentre_6, hl, if_pos (nI_le (by omega) (by omega)), i2b_b, bno_s]
    simp
  | succ m ih =>
    intro k n acc hk hn
    obtain ⟨n, rfl⟩ : ∃ j, n = j + 1 := ⟨n - 1, by omega⟩
    have hs := sq_lt (d := d) ha (show b + k < 7 by omega)
    have e1 : (nI (sq d a (b + k)) = (24 : Int32)) = (sq d a (b + k) = 24) := propext (nI_eq (b := 24) (by omega) (by omega))
    have i1 := ih (k + 1) n true (by omega) (by omega)
    have i0 := ih (k + 1) n false (by omega) (by omega)
    rw [show b2i true = 1 from rfl] at i1
    rw [show b2i false = 0 from rfl] at i0
    rw [f_X10_coversCentre_6, hl, if_neg (nI_ge (by omega) (by omega)), if_b, X10_squareOf hd, bno_s]
    unfold f_X10_coversCentre_33 f_X10_coversCentre_38
    simp only [e1]
    rw [nI_1, i1, i0, List.range'_succ, List.any_cons]
    cases acc with
    | true => rfl
    | false =>
      rw [if_neg (by simp)]
      by_cases c : sq d a (b + k) = 24
      · rw [if_pos c, decide_eq_true c]; rfl
      · rw [if_neg c, decide_eq_false c]; rfl
theorem X10_coversCentre {σ : St} {d a b len : Nat} (hd : d < 2) (ha : a < 7) (hb : b + len ≤ 7) (hl : gi σ 14 = nI len) : f_X10_coversCentre σ (nI d) (nI (RW d a b)) (nI (CL d a b)) = some (decide (a = 3 ∧ b ≤ 3 ∧ 3 < b + len)) := by
  have := X10_cen_loop hd ha hb hl len 0 FU false (by omega) (FU_big (by omega))
  unfold f_X10_coversCentre
  rw [show b2i false = 0 from rfl] at this
  refine this.trans (congrArg some ?_)
  rw [Bool.false_or]
  by_cases c : a = 3 ∧ b ≤ 3 ∧ 3 < b + len
  · rw [decide_eq_true c, List.any_eq_true]
    refine ⟨3 - b, List.mem_range'_1.mpr (by omega), ?_⟩
    rw [decide_eq_true_iff]
    unfold sq
    split <;> omega
  · rw [decide_eq_false c, ← Bool.not_eq_true, List.any_eq_true]
    rintro ⟨k, hk, h2⟩
    have hk := List.mem_range'_1.mp hk
    rw [decide_eq_true_iff] at h2
    apply c
    unfold sq at h2
    by_cases c2 : d = 0
    · rw [if_pos c2] at h2; omega
    · rw [if_neg c2] at h2; omega
/-- whether it is connected, in the reference -/
theorem X10_con {T : Bd} {σ : St} (h : BR T (ga σ 8)) {d a b len : Nat} (hd : d < 2) (ha : a < 7) (hb : b + len ≤ 7) (hl : gi σ 14 = nI len) {α : Type} (x y : Option α) :
    (bno (f_X10_isBare σ) fun r1 => if (b2i r1) = 0 then (bno (f_X10_isTouching σ (nI d) (nI (RW d a b)) (nI (CL d a b))) fun r2 => if (b2i r2) = 0 then x else y) else (bno (f_X10_coversCentre σ (nI d) (nI (RW d a b)) (nI (CL d a b))) fun r3 => if (b2i r3) = 0 then x else y)) = if con T d a b len then y else x := by
  rw [X10_isBare h, bno_s, if_b, X10_isTouching h hd ha hb hl, bno_s, if_b, X10_coversCentre hd ha hb hl, bno_s, if_b]
  unfold con
  cases bare T <;> rfl
