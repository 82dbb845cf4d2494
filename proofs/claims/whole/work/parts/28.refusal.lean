/-! ===== the conditions about squares as bits; refusal ===== -/
theorem cell_none {T : Bd} (h : okT T) {z : Int} (h2 : z < 0 ∨ 64 ≤ z) : cell T z = none := by
  unfold cell
  rw [if_neg (by omega)]
theorem X5_touches {T : Bd} {σ : St} (h : OC T σ) {d a b len : Nat} (hd : d < 2) (ha : a < 7) (hb : b < 7) (hl : b + len ≤ 7) : f_X5_touchesTileAtAnEnd σ (nI (stn d a b)) (nI len) = some (tcE T d a b len) := by
  have b1 := adr_bd (d := d) (a := a) (b := (b : Int) - 1) (by omega) (by omega) (by omega) (by omega)
  have b2 := adr_bd (d := d) (a := a) (b := (b : Int) + len) (by omega) (by omega) (by omega) (by omega)
  unfold f_X5_touchesTileAtAnEnd tcE
  rw [st_sq d hd a ha b hb, bno_s, st_st d hd a ha b hb, bno_s, iI_sub, adr_prev, X0_hasTile h (by omega) (by omega), cell_adr h.1 (by omega) (by omega) (by omega) (by omega), bno_s, if_b, iI_nI, iI_mul, iI_add, adr_far,
    X0_hasTile h (by omega) (by omega), cell_adr h.1 (by omega) (by omega) (by omega) (by omega), bno_s, if_b]
  cases (M T d a ((b : Int) - 1)).isSome with
  | true => rfl
  | false =>
    cases (M T d a ((b : Int) + len)).isSome with
    | true => rfl
    | false => rfl
/-- occupied, as bits -/
theorem oc_bit {T : Bd} {σ : St} (h : OC T σ) {x : Nat} (hx : x < 64) : lb (gl σ 0) x = (cell T x).isSome := (h.2 x hx).1
theorem adr_lt {d a j : Nat} (ha : a < 7) (hj : j < 7) : 0 ≤ adr d a j ∧ adr d a j < 64 := by
  unfold adr
  by_cases c : d = 0
  · rw [if_pos c]; omega
  · rw [if_neg c]; omega
theorem X5_hasEmpty {T : Bd} {σ : St} (h : OC T σ) {d a b : Nat} (hd : d < 2) (ha : a < 7) (hb : b < 7) {u : List Nat} (hl : b + u.length ≤ 7) : f_X5_hasEmptySquare σ (nI (stn d a b)) (nI u.length) = some (decide (frs (M T d a) b u ≠ [])) := by
  obtain ⟨m, e, hm⟩ := X6_squares hd ha hb hl
  unfold f_X5_hasEmptySquare f_X0_emptyOf
  rw [e, bno_s, bno_s]
  simp only [cmp_0, lb_eq0]
  have key : (∀ i, i < 64 → lb (m &&& (gl σ 0 ^^^ (-1))) i = false) ↔ frs (M T d a) b u = [] := by
    rw [frs_nil]
    constructor
    · intro h1 k hk
      have ⟨a1, a2⟩ := adr_lt (d := d) (a := a) (j := b + k) ha (by omega)
      obtain ⟨x, hx⟩ : ∃ x : Nat, (x : Int) = adr d a (b + k : Nat) := ⟨(adr d a (b + k : Nat)).toNat, by omega⟩
      have h2 := h1 x (by omega)
      rw [lb_and, lb_not (by omega), (hm x (by omega)).mpr ⟨k, hk, hx⟩, oc_bit h (by omega), hx, cell_adr h.1 (by omega) (by omega) (by omega) (by omega)] at h2
      simpa using h2
    · intro h1 i hi
      rw [lb_and, lb_not hi]
      cases c : lb m i with
      | false => rfl
      | true =>
        obtain ⟨k, hk, hx⟩ := (hm i hi).mp c
        rw [oc_bit h hi, hx, cell_adr h.1 (by omega) (by omega) (by omega) (by omega), h1 k hk]
        rfl
  by_cases c : frs (M T d a) b u = []
  · rw [if_pos (key.mpr c)]
    simp [c]
  · rw [if_neg (fun q => c (key.mp q))]
    simp [c]
theorem bare_T {T : Bd} (h : okT T) : bare T = true ↔ ∀ r c, T r c = none := by
  unfold bare
  rw [List.all_eq_true]
  constructor
  · intro h1 r c
    cases e : T r c with
    | none => rfl
    | some a =>
      exfalso
      have hb := h r c a e
      have h2 := h1 (7 * r + c).toNat (List.mem_range.mpr (by omega))
      rw [show (((7 * r + c).toNat / 7 : Nat) : Int) = r by omega, show (((7 * r + c).toNat % 7 : Nat) : Int) = c by omega, e] at h2
      cases h2
  · intro h1 k _
    rw [h1]
    rfl
theorem oc_zero {T : Bd} {σ : St} (h : OC T σ) : (gl σ 0 = 0) = (bare T = true) := by
  rw [lb_eq0]
  apply propext
  rw [bare_T h.1]
  constructor
  · intro h1 r c
    cases e : T r c with
    | none => rfl
    | some a =>
      exfalso
      have hb := h.1 r c a e
      have h2 := h1 (8 * r + c).toNat (by omega)
      rw [oc_bit h (by omega), show (((8 * r + c).toNat : Nat) : Int) = 8 * r + c by omega, cell_rc h.1 (by omega) (by omega) (by omega) (by omega), e] at h2
      cases h2
  · intro h1 i hi
    rw [oc_bit h hi]
    unfold cell
    rw [if_pos (by omega), h1]
    rfl
theorem st_nI {d : Nat} : iI (st d) = nI (if d = 0 then 1 else 8) := by
  unfold st
  by_cases c : d = 0
  · rw [if_pos c, if_pos c]; rfl
  · rw [if_neg c, if_neg c]; rfl
/-- the bits beside: one step back, one step on -/
theorem bit_back {T : Bd} {σ : St} (h : OC T σ) {e : Nat} {a : Int} {b : Int} {x : Nat} (hx : x < 64) (he : (x : Int) = adr e a b) (ha : 0 ≤ a ∧ a < 7) (hb : 0 ≤ b ∧ b < 7) : lb (lshl (gl σ 0) (iI (st e))) x = (M T e a (b - 1)).isSome := by
  have e1 := cell_adr h.1 (d := e) (a := a) (b := b - 1) (by omega) (by omega) (by omega) (by omega)
  rw [← adr_prev, ← he] at e1
  have hst : st e = ((if e = 0 then 1 else 8 : Nat) : Int) := by
    unfold st
    by_cases c : e = 0
    · rw [if_pos c, if_pos c]; rfl
    · rw [if_neg c, if_neg c]; rfl
  have hk : (if e = 0 then 1 else 8 : Nat) < 64 := by split <;> omega
  rw [st_nI, lb_shl hk hx, ← e1, hst]
  by_cases c : (if e = 0 then 1 else 8 : Nat) ≤ x
  · rw [decide_eq_true c, Bool.true_and, oc_bit h (by omega), Int.natCast_sub c]
  · rw [decide_eq_false c, Bool.false_and, cell_none h.1 (by omega)]
    rfl
theorem bit_on {T : Bd} {σ : St} (h : OC T σ) {e : Nat} {a : Int} {b : Int} {x : Nat} (hx : x < 64) (he : (x : Int) = adr e a b) (ha : 0 ≤ a ∧ a < 7) (hb : 0 ≤ b ∧ b < 7) : lb (lush (gl σ 0) (iI (st e))) x = (M T e a (b + 1)).isSome := by
  have e1 := cell_adr h.1 (d := e) (a := a) (b := b + 1) (by omega) (by omega) (by omega) (by omega)
  rw [← adr_next, ← he] at e1
  have hst : st e = ((if e = 0 then 1 else 8 : Nat) : Int) := by
    unfold st
    by_cases c : e = 0
    · rw [if_pos c, if_pos c]; rfl
    · rw [if_neg c, if_neg c]; rfl
  have hk : (if e = 0 then 1 else 8 : Nat) < 64 := by split <;> omega
  rw [st_nI, lb_shr hk, ← e1, hst]
  by_cases c : (if e = 0 then 1 else 8 : Nat) + x < 64
  · rw [oc_bit h c, Int.natCast_add, Int.add_comm]
  · rw [lb_big (by omega), cell_none h.1 (by omega)]
    rfl
theorem lb_centre : ∀ i, i < 64 → lb 134217728 i = decide (i = 27) := by decide +kernel
theorem X5_isConnected {T : Bd} {σ : St} (h : OC T σ) {d a b len : Nat} (hd : d < 2) (ha : a < 7) (hb : b < 7) (hl : b + len ≤ 7) : f_X5_isConnected σ (nI (stn d a b)) (nI len) = some (con T d a b len) := by
  obtain ⟨m, e, hm⟩ := X6_squares hd ha hb hl
  unfold f_X5_isConnected f_X0_connects con
  rw [e, bno_s, st_cs d hd a ha b hb, bno_s, lt_e]
  simp only [cmp_0, oc_zero h]
  by_cases c : bare T = true
  · rw [if_pos c, if_pos c]
    simp only [lb_eq0]
    have key : (∀ i, i < 64 → lb (m &&& 134217728) i = false) ↔ ¬ (a = 3 ∧ b ≤ 3 ∧ 3 < b + len) := by
      constructor
      · intro h1 h2
        have h3 := h1 27 (by omega)
        rw [lb_and, lb_centre 27 (by omega), (hm 27 (by omega)).mpr ⟨3 - b, by omega, by unfold adr; split <;> omega⟩] at h3
        cases h3
      · intro h1 i hi
        rw [lb_and, lb_centre i hi]
        by_cases c2 : i = 27
        · cases c3 : lb m i with
          | false => rfl
          | true =>
            exfalso
            obtain ⟨k, hk, hx⟩ := (hm i hi).mp c3
            rw [c2] at hx
            apply h1
            unfold adr at hx
            by_cases c4 : d = 0
            · rw [if_pos c4] at hx; omega
            · rw [if_neg c4] at hx; omega
        · rw [decide_eq_false c2, Bool.and_false]
    by_cases c2 : a = 3 ∧ b ≤ 3 ∧ 3 < b + len
    · rw [if_neg (fun q => key.mp q c2), decide_eq_true c2, bno_s]
    · rw [if_pos (key.mpr c2), decide_eq_false c2, bno_s]
  · rw [if_neg c, if_neg c]
    simp only [lb_eq0]
    have hbit : ∀ i : Nat, i < 64 → ∀ k, k < len → (i : Int) = adr d a (b + k : Nat) → lb (gl σ 0 ||| lshl (gl σ 0) (iI (st (1 - d))) ||| lush (gl σ 0) (iI (st (1 - d)))) i = ((M T d a (b + k : Nat)).isSome || (M T d ((a : Int) - 1) (b + k : Nat)).isSome || (M T d ((a : Int) + 1) (b + k : Nat)).isSome) := by
      intro i hi k hk hx
      have hx2 : (i : Int) = adr (1 - d) (b + k : Nat) a := by rw [← adr_turn hd]; exact hx
      rw [lb_or, lb_or, bit_back h hi hx2 (by omega) (by omega), bit_on h hi hx2 (by omega) (by omega), oc_bit h hi, hx, cell_adr h.1 (by omega) (by omega) (by omega) (by omega), ← M_turn hd, ← M_turn hd]
    have key : (∀ i, i < 64 → lb (m &&& (gl σ 0 ||| lshl (gl σ 0) (iI (st (1 - d))) ||| lush (gl σ 0) (iI (st (1 - d))))) i = false) ↔ tch T d a b len = false := by
      unfold tch
      rw [← Bool.not_eq_true, List.any_eq_true]
      constructor
      · rintro h1 ⟨k, hk, h2⟩
        have hk := List.mem_range.mp hk
        have ⟨a1, a2⟩ := adr_lt (d := d) (a := a) (j := b + k) ha (by omega)
        obtain ⟨x, hx⟩ : ∃ x : Nat, (x : Int) = adr d a (b + k : Nat) := ⟨(adr d a (b + k : Nat)).toNat, by omega⟩
        have h3 := h1 x (by omega)
        rw [lb_and, hbit x (by omega) k hk hx, h2, (hm x (by omega)).mpr ⟨k, hk, hx⟩] at h3
        cases h3
      · intro h1 i hi
        rw [lb_and]
        cases c3 : lb m i with
        | false => rfl
        | true =>
          obtain ⟨k, hk, hx⟩ := (hm i hi).mp c3
          rw [hbit i hi k hk hx, Bool.true_and, ← Bool.not_eq_true]
          exact fun q => h1 ⟨k, List.mem_range.mpr hk, q⟩
    cases c2 : tch T d a b len with
    | true => rw [if_neg (fun q => by rw [key.mp q] at c2; cases c2), bno_s]
    | false => rw [if_pos (key.mpr c2), bno_s]
theorem X5_refusal_m1 (σ : St) (p s : Int32) : f_X5_refusal σ p s (-1) = some 1 := by
  unfold f_X5_refusal
  rw [if_pos rfl]
theorem pr1_m1 {R : Nat → Nat} (hR : okR R) {f : List Nat} (hf : lt8 f) : (pr1 (tk R f) = -1) = (tk R f = none) := by
  apply propext
  cases e : tk R f with
  | none => exact ⟨fun _ => rfl, fun _ => rfl⟩
  | some R2 =>
    constructor
    · intro h
      exfalso
      have h1 := tk_ok f R R2 hf e
      have h2 : pr R2 < 2147483648 := pr_lt (by unfold okR at *; omega)
      exact nI_pos h2 (by rw [show nI (pr R2) = -1 from h]; decide)
    · intro h
      cases h
theorem X5_refusal {D : List (List Nat)} {T : Bd} {R : Nat → Nat → Nat} {σ : St} (hD : CD D σ) (h : OC T σ) (hR : KC R σ) {p d a b w : Nat} (hp : p < 2) (hd : d < 2) (ha : a < 7) (hb : b < 7) {u : List Nat} (hw : D[w]? = some u) :
    f_X5_refusal σ (nI p) (nI (stn d a b)) (nI w) = some (rsn D T (R p) d a b u) := by
  have hlt := (List.getElem?_eq_some_iff.mp hw).1
  have h30 := hD.2.1
  have hmem : u ∈ D := List.mem_of_getElem? hw
  obtain ⟨⟨h8, h7⟩, h2⟩ := hD.2.2.1 u hmem
  have hkr := (hR p hp).1
  unfold f_X5_refusal rsn
  have e1 : ¬ nI w = -1 := fun q => nI_pos (n := w) (by omega) (by rw [q]; decide)
  rw [if_neg e1, X1_word hD hw, bno_s, X8_length h8 h7, bno_s, st_room d hd a ha b hb, bno_s, if_neg (show ¬ (u ∉ D) from fun q => q hmem)]
  by_cases c1 : 7 < b + u.length
  · rw [if_pos c1, if_neg (nI_ge (by omega) (by omega))]
  · rw [if_neg c1, if_pos (nI_le (by omega) (by omega)), X5_touches h hd ha hb (by omega), bno_s, if_b]
    cases tcE T d a b u.length with
    | true => rfl
    | false =>
      rw [if_neg (by simp), if_neg (by simp), X5_agr h hd ha hb h8 (by omega), bno_s, if_b]
      cases agr (M T d a) b u with
      | false => rfl
      | true =>
        rw [if_pos rfl, if_neg (by simp), X5_hasEmpty h hd ha hb (by omega), bno_s, if_b]
        by_cases c2 : frs (M T d a) b u = []
        · rw [if_pos c2, if_neg (by simpa using c2)]
        · rw [if_neg c2, if_pos (by simpa using c2), X7_rack hR hp, bno_s, X5_rackAfter h hd ha hb h8 (by omega) hkr, bno_s]
          simp only [pr1_m1 hkr (frs_lt8 _ u b h8)]
          by_cases c3 : tk (R p) (frs (M T d a) b u) = none
          · rw [if_pos c3, if_pos c3]
          · rw [if_neg c3, if_neg c3, X5_isConnected h hd ha hb (by omega), bno_s, if_b]
            cases con T d a b u.length with
            | false => rfl
            | true =>
              rw [if_pos rfl, if_neg (by simp), X5_crossWords hD h hd ha hb h8 (by omega), bno_s, if_b]
              cases okX D T d a b u with
              | false => rfl
              | true => rfl
