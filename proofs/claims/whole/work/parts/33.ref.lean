/-! ===== the reference: small things ===== -/
theorem X10_in (x : Int32) (lw hg : Int64) : f_X10_in x.toInt64 lw hg = some (decide (lw.toInt ≤ x.toInt ∧ x.toInt ≤ hg.toInt)) := by
  unfold f_X10_in
  simp only [lg_cmp_lt, lg_cmp_gt, Int64.lt_iff_toInt_lt, Int32.toInt_toInt64]
  by_cases c1 : x.toInt < lw.toInt
  · rw [if_pos c1, decide_eq_false (by omega)]
  · rw [if_neg c1]
    by_cases c2 : hg.toInt < x.toInt
    · rw [if_pos c2, decide_eq_false (by omega)]
    · rw [if_neg c2, decide_eq_true (by omega)]
theorem dec_cong {p q : Prop} [Decidable p] [Decidable q] (h : p ↔ q) : decide p = decide q := by
  by_cases c : p
  · rw [decide_eq_true c, decide_eq_true (h.mp c)]
  · rw [decide_eq_false c, decide_eq_false (fun k => c (h.mpr k))]
theorem X10_isLetter {z : Int} (h1 : -2147483648 ≤ z) (h2 : z < 2147483648) : f_X10_isLetter (iI z) = some (decide (0 ≤ z ∧ z < 8)) := by
  unfold f_X10_isLetter
  rw [X10_in, bno_s, iI_toInt h1 h2, show (0 : Int64).toInt = 0 from rfl, show (7 : Int64).toInt = 7 from rfl]
  exact congrArg some (dec_cong (by omega))
theorem X10_isPlayer {z : Int} (h1 : -2147483648 ≤ z) (h2 : z < 2147483648) : f_X10_isPlayer (iI z) = some (decide (0 ≤ z ∧ z < 2)) := by
  unfold f_X10_isPlayer
  rw [X10_in, bno_s, iI_toInt h1 h2, show (0 : Int64).toInt = 0 from rfl, show (1 : Int64).toInt = 1 from rfl]
  exact congrArg some (dec_cong (by omega))
theorem X10_isSquare {r c : Int} (h1 : -2147483648 ≤ r) (h2 : r < 2147483648) (h3 : -2147483648 ≤ c) (h4 : c < 2147483648) : f_X10_isSquare (iI r) (iI c) = some (decide (0 ≤ r ∧ r < 7 ∧ 0 ≤ c ∧ c < 7)) := by
  unfold f_X10_isSquare
  rw [X10_in, bno_s, if_b, X10_in, bno_s, if_b, iI_toInt h1 h2, iI_toInt h3 h4, show (0 : Int64).toInt = 0 from rfl, show (6 : Int64).toInt = 6 from rfl]
  by_cases c1 : 0 ≤ r ∧ r ≤ 6
  · rw [decide_eq_true c1, if_pos rfl]
    by_cases c2 : 0 ≤ c ∧ c ≤ 6
    · rw [decide_eq_true c2, if_pos rfl, decide_eq_true (by omega)]
    · rw [decide_eq_false c2, if_neg (by simp), decide_eq_false (by omega)]
  · rw [decide_eq_false c1, if_neg (by simp), decide_eq_false (by omega)]
theorem X10_goes (σ : St) (x y z : Bool) : f_X10_goes σ (b2i x) (b2i y) (b2i z) = some (x && y && z, si σ 3 (if x then (if y then (if z then 0 else 3) else 2) else 1)) := by
  cases x with
  | false => rfl
  | true =>
    cases y with
    | false => rfl
    | true =>
      cases z with
      | false => rfl
      | true => rfl
/-- what keeps all but some numbers and arrays -/
def FR (is js : List Nat) (σ σ' : St) : Prop := (∀ k, k ∉ is → gi σ' k = gi σ k) ∧ ∀ k, k ∉ js → ga σ' k = ga σ k
theorem FR.rfl' (is js : List Nat) (σ : St) : FR is js σ σ := ⟨fun _ _ => rfl, fun _ _ => rfl⟩
theorem FR.tr {is js is2 js2 is3 js3 : List Nat} {σ σ1 σ2 : St} (h : FR is js σ σ1) (h2 : FR is2 js2 σ1 σ2) (hi : ∀ k ∈ is ++ is2, k ∈ is3) (hj : ∀ k ∈ js ++ js2, k ∈ js3) : FR is3 js3 σ σ2 :=
  ⟨fun k hk => by rw [h2.1 k (fun q => hk (hi k (List.mem_append_right _ q))), h.1 k (fun q => hk (hi k (List.mem_append_left _ q)))], fun k hk => by rw [h2.2 k (fun q => hk (hj k (List.mem_append_right _ q))), h.2 k (fun q => hk (hj k (List.mem_append_left _ q)))]⟩
theorem FR.mo {is js is2 js2 : List Nat} {σ σ1 : St} (h : FR is js σ σ1) (hi : ∀ k ∈ is, k ∈ is2) (hj : ∀ k ∈ js, k ∈ js2) : FR is2 js2 σ σ1 :=
  ⟨fun k hk => h.1 k (fun q => hk (hi k q)), fun k hk => h.2 k (fun q => hk (hj k q))⟩
theorem FR.t {is js : List Nat} {σ σ1 σ2 : St} (h : FR is js σ σ1) (h2 : FR is js σ1 σ2) : FR is js σ σ2 := ⟨fun k hk => by rw [h2.1 k hk, h.1 k hk], fun k hk => by rw [h2.2 k hk, h.2 k hk]⟩
theorem FR_si (σ : St) (k : Nat) (v : Int32) : FR [k] [] σ (si σ k v) := ⟨fun j hj => by
  show (if j = k then v else gi σ j) = _
  rw [if_neg (by simpa using hj)], fun _ _ => rfl⟩
theorem FR_sa (σ : St) (k : Nat) (f : Nat → Int32) : FR [] [k] σ (sa σ k f) := ⟨fun _ _ => rfl, fun j hj => by
  show (if j = k then f else ga σ j) = _
  rw [if_neg (by simpa using hj)]⟩
theorem gi_si (σ : St) (k : Nat) (v : Int32) : gi (si σ k v) k = v := if_pos rfl
theorem ga_sa (σ : St) (k : Nat) (f : Nat → Int32) : ga (sa σ k f) k = f := if_pos rfl
theorem ga_si (σ : St) (k j : Nat) (v : Int32) : ga (si σ k v) j = ga σ j := rfl
theorem gi_sa (σ : St) (k j : Nat) (f : Nat → Int32) : gi (sa σ k f) j = gi σ j := rfl
/-- the board laid aside -/
def BR (T : Bd) (f : Nat → Int32) : Prop := okT T ∧ ∀ r c : Nat, r < 7 → c < 7 → f (7 * r + c) = enc (T r c)
theorem enc_is (o : Option Nat) (h : ∀ a, o = some a → a < 8) : (enc o = -1) = (o.isSome = false) := by
  rw [enc_m1 o h]
  cases o <;> simp
theorem X10_hasTile {T : Bd} {σ : St} (h : BR T (ga σ 8)) {r c : Int} (h1 : -2147483648 ≤ r) (h2 : r < 2147483648) (h3 : -2147483648 ≤ c) (h4 : c < 2147483648) : f_X10_hasTile σ (iI r) (iI c) = some (T r c).isSome := by
  unfold f_X10_hasTile
  rw [X10_isSquare h1 h2 h3 h4, bno_s, if_b]
  by_cases k : 0 ≤ r ∧ r < 7 ∧ 0 ≤ c ∧ c < 7
  · obtain ⟨r, rfl⟩ : ∃ n : Nat, r = n := ⟨r.toNat, by omega⟩
    obtain ⟨c, rfl⟩ : ∃ n : Nat, c = n := ⟨c.toNat, by omega⟩
    rw [decide_eq_true k, if_pos rfl, L7, iI_mul, iI_add, ixo_iI (by omega) (by omega) (by omega), iI_nat (by omega) (by omega), show ((7 : Int) * r + c).toNat = 7 * r + c by omega, h.2 r c (by omega) (by omega)]
    simp only [enc_is (T r c) (fun a e => (h.1 _ _ a e).2.2.2.2)]
    cases (T r c).isSome <;> rfl
  · rw [decide_eq_false k, if_neg (by simp), T_out h.1 (by omega)]
    rfl
theorem X10_bare_loop {T : Bd} {σ : St} (h : BR T (ga σ 8)) : ∀ (m k n : Nat) (is : Bool), k + m = 49 → m < n →
    f_X10_isBare_4 σ n (b2i is) (nI k) = some (is && (List.range' k m).all (fun k => (T (k / 7 : Nat) (k % 7 : Nat)).isNone)) := by
  intro m
  induction m with
  | zero =>
    intro k n is hk hn
    obtain ⟨n, rfl⟩ : ∃ j, n = j + 1 := ⟨n - 1, by omega⟩
    have : k = 49 := by omega
    subst this
    rw [f_X10_isBare_4, if_pos (by decide), i2b_b, bno_s]
    simp
  | succ m ih =>
    intro k n is hk hn
    obtain ⟨n, rfl⟩ : ∃ j, n = j + 1 := ⟨n - 1, by omega⟩
    have c : ¬ (49 : Int32) ≤ nI k := nI_ge (b := 49) (by omega) (by omega)
    have e := h.2 (k / 7) (k % 7) (by omega) (by omega)
    rw [show 7 * (k / 7) + k % 7 = k by omega] at e
    rw [f_X10_isBare_4, if_neg c, if_b, ixo_nI (by omega) (by omega), nI_clamp (by omega), e]
    simp only [enc_is _ (fun a e => (h.1 (k / 7 : Nat) (k % 7 : Nat) a e).2.2.2.2)]
    unfold f_X10_isBare_28 f_X10_isBare_29
    rw [nI_1]
    have i0 := ih (k + 1) n false (by omega) (by omega)
    have i1 := ih (k + 1) n true (by omega) (by omega)
    rw [show b2i false = 0 from rfl] at i0
    rw [show b2i true = 1 from rfl] at i1
    rw [i0, i1, List.range'_succ, List.all_cons]
    cases is with
    | false => rfl
    | true =>
      rw [if_pos rfl]
      cases T (k / 7 : Nat) (k % 7 : Nat) <;> rfl
theorem X10_isBare {T : Bd} {σ : St} (h : BR T (ga σ 8)) : f_X10_isBare σ = some (bare T) := by
  have := X10_bare_loop h 49 0 FU true (by omega) (FU_big (by omega))
  unfold f_X10_isBare bare
  rw [List.range_eq_range']
  exact this
/-- the word that is looked at -/
def HW (w : List Nat) (σ : St) : Prop := gi σ 7 = nI w.length ∧ okW w ∧ ∀ i a, w[i]? = some a → ga σ 6 i = nI a
/-- the dictionary in the array of all -/
def AD (D : List (List Nat)) (f : Nat → Int32) : Prop := f 16 = nI D.length ∧ D.length ≤ 30 ∧ (∀ u ∈ D, okW u ∧ 2 ≤ u.length) ∧ ∀ w u, D[w]? = some u → f (17 + 8 * w) = nI u.length ∧ ∀ k x, u[k]? = some x → f (18 + 8 * w + k) = nI x
def cmpL : List Nat → List Nat → Int
  | [], t => - (t.length : Int)
  | x :: u, [] => ((x :: u).length : Int)
  | x :: u, y :: t => if x = y then cmpL u t else (x : Int) - y
theorem cmpL_0 : ∀ (u t : List Nat), cmpL u t = 0 ↔ u = t
  | [], [] => by simp [cmpL]
  | [], y :: t => by simp [cmpL]; omega
  | x :: u, [] => by simp [cmpL]; omega
  | x :: u, y :: t => by
    unfold cmpL
    by_cases c : x = y
    · rw [if_pos c, cmpL_0 u t, c]
      simp
    · rw [if_neg c]
      simp [c]
      omega
theorem cmpL_bd : ∀ (u t : List Nat), lt8 u → lt8 t → u.length ≤ 7 → t.length ≤ 7 → -8 < cmpL u t ∧ cmpL u t < 8
  | [], t, _, _, _, h => by unfold cmpL; omega
  | x :: u, [], _, _, h, _ => by unfold cmpL; omega
  | x :: u, y :: t, h1, h2, h3, h4 => by
    obtain ⟨hx, h1⟩ := lt8_cons.mp h1
    obtain ⟨hy, h2⟩ := lt8_cons.mp h2
    have h3' : u.length + 1 ≤ 7 := h3
    have h4' : t.length + 1 ≤ 7 := h4
    have := cmpL_bd u t h1 h2 (by omega) (by omega)
    unfold cmpL
    by_cases c : x = y
    · rw [if_pos c]; exact this
    · rw [if_neg c]; omega
theorem X10_against_loop {D : List (List Nat)} {σ : St} {t : List Nat} (hD : AD D (ga σ 0)) (ht : HW t σ) {w : Nat} {u : List Nat} (hw : D[w]? = some u) : ∀ (su st pu : List Nat) (n : Nat) (pt : List Nat), u = pu ++ su → t = pt ++ st → pu.length = pt.length → su.length < n →
    f_X10_against_15 σ n (nI w) (nI u.length) (nI pu.length) = some (iI (cmpL su st)) := by
  have hlt := (List.getElem?_eq_some_iff.mp hw).1
  have h30 := hD.2.1
  have hu7 := (hD.2.2.1 u (List.mem_of_getElem? hw)).1.2
  have ht7 := ht.2.1.2
  intro su
  induction su with
  | nil =>
    intro st pu n pt e1 e2 e3 hn
    obtain ⟨n, rfl⟩ : ∃ j, n = j + 1 := ⟨n - 1, by simp at hn; omega⟩
    have l1 : u.length = pu.length := by rw [e1]; simp
    have l2 : t.length = pt.length + st.length := by rw [e2]; simp
    rw [f_X10_against_15, if_pos (by rw [l1]; exact nI_le (Nat.le_refl _) (by omega)), ht.1, iI_nI, iI_nI, iI_sub, cmpL]
    congr 2 <;> omega
  | cons x su ih =>
    intro st pu n pt e1 e2 e3 hn
    obtain ⟨n, rfl⟩ : ∃ j, n = j + 1 := ⟨n - 1, by simp at hn; omega⟩
    have l1 : u.length = pu.length + (su.length + 1) := by rw [e1]; simp
    have l2 : t.length = pt.length + st.length := by rw [e2]; simp
    rw [f_X10_against_15, if_neg (nI_ge (by omega) (by omega)), ht.1]
    cases st with
    | nil =>
      have l3 : t.length = pt.length := by simpa using l2
      rw [if_pos (nI_le (by omega) (by omega)), iI_nI, iI_nI, iI_sub, cmpL]
      congr 2
      simp
      omega
    | cons y st =>
      have l3 : t.length = pt.length + (st.length + 1) := by simpa using l2
      have hx : u[pu.length]? = some x := by rw [e1]; simp
      have hy : t[pu.length]? = some y := by rw [e2, e3]; simp
      have gx := (hD.2.2.2 w u hw).2 _ x hx
      have gy := ht.2.2 _ y hy
      have ea : (17 : Int32) + 8 * nI w + 1 + nI pu.length = nI (18 + 8 * w + pu.length) := by
        simp only [L17, L8, L1, iI_nI, iI_mul, iI_add]
        congr 1
        omega
      rw [if_neg (nI_ge (by omega) (by omega)), ea, ixo_nI (by omega) (by omega), ixo_nI (by omega) (by omega), lt_e, nI_clamp (by omega), nI_clamp (by omega), gx, gy, cmpL]
      have x8 : x < 8 := (hD.2.2.1 u (List.mem_of_getElem? hw)).1.1 x (by rw [e1]; simp)
      by_cases c : x = y
      · rw [if_pos c, if_pos (by rw [c, iI_nI, iI_sub, Int.sub_self]; rfl), nI_1]
        have := ih st (pu ++ [x]) n (pt ++ [y]) (by rw [e1]; simp) (by rw [e2]; simp) (by simp [e3]) (by simp at hn; omega)
        rw [List.length_append] at this
        exact this
      · rw [if_neg c, iI_nI, iI_nI, iI_sub]
        have hn0 : ¬ iI ((x : Int) - y) = 0 := by
          have y8 : y < 8 := ht.2.1.1 y (by rw [e2]; simp)
          rw [iI_eq0 (by omega) (by omega)]
          omega
        rw [if_neg hn0]
theorem X10_against {D : List (List Nat)} {σ : St} {t : List Nat} (hD : AD D (ga σ 0)) (ht : HW t σ) {w : Nat} {u : List Nat} (hw : D[w]? = some u) : f_X10_against σ (nI w) = some (iI (cmpL u t)) := by
  have hlt := (List.getElem?_eq_some_iff.mp hw).1
  have h30 := hD.2.1
  have ea : (17 : Int32) + 8 * nI w = nI (17 + 8 * w) := by
    simp only [L17, L8, iI_nI, iI_mul, iI_add]
    congr 1 <;> omega
  unfold f_X10_against
  rw [ea, ixo_nI (by omega) (by omega), lt_e, nI_clamp (by omega), (hD.2.2.2 w u hw).1]
  exact X10_against_loop hD ht hw u t [] FU [] rfl rfl rfl (FU_big (by have := (hD.2.2.1 u (List.mem_of_getElem? hw)).1.2; omega))
theorem AD_size {D : List (List Nat)} {f : Nat → Int32} (hD : AD D f) : f (Int32.toNatClampNeg 16) = nI D.length := hD.1
theorem X10_found_loop {D : List (List Nat)} {σ : St} {t : List Nat} (hD : AD D (ga σ 0)) (ht : HW t σ) : ∀ (m k n : Nat), k + m = D.length → m < n → f_X10_foundAt_2 σ n (nI k) = some (num (D.drop k) t k) := by
  have h30 := hD.2.1
  intro m
  induction m with
  | zero =>
    intro k n hk hn
    obtain ⟨n, rfl⟩ : ∃ j, n = j + 1 := ⟨n - 1, by omega⟩
    rw [f_X10_foundAt_2, show (16 : Int32) = nI 16 from rfl, ixo_nI (by omega) (by omega), nI_clamp (by omega), hD.1, if_pos (nI_le (by omega) (by omega)), List.drop_eq_nil_of_le (by omega)]
    rfl
  | succ m ih =>
    intro k n hk hn
    obtain ⟨n, rfl⟩ : ∃ j, n = j + 1 := ⟨n - 1, by omega⟩
    have hlt : k < D.length := by omega
    have hu : D[k]? = some D[k] := List.getElem?_eq_getElem hlt
    obtain ⟨⟨u8, u7⟩, _⟩ := hD.2.2.1 D[k] (List.getElem_mem hlt)
    have hb := cmpL_bd D[k] t u8 ht.2.1.1 u7 ht.2.1.2
    rw [f_X10_foundAt_2, show (16 : Int32) = nI 16 from rfl, ixo_nI (by omega) (by omega), nI_clamp (by omega), hD.1, if_neg (nI_ge hlt (by omega)), X10_against hD ht hu, bno_s, List.drop_eq_getElem_cons hlt, num]
    simp (disch := omega) only [iI_eq0]
    by_cases c : D[k] = t
    · rw [if_pos ((cmpL_0 _ _).mpr c), if_pos c]
    · rw [if_neg (fun q => c ((cmpL_0 _ _).mp q)), if_neg c, nI_1]
      exact ih (k + 1) n (by omega) (by omega)
theorem X10_foundAt {D : List (List Nat)} {σ : St} {t : List Nat} (hD : AD D (ga σ 0)) (ht : HW t σ) : f_X10_foundAt σ = some (num D t 0) := by
  have h30 := hD.2.1
  have := X10_found_loop hD ht D.length 0 FU (by omega) (FU_big (by omega))
  rw [List.drop_zero] at this
  exact this
/-- the text of the reference -/
def TX (t : List Nat) (σ : St) : Prop := gi σ 5 = nI t.length ∧ okW t ∧ ∀ i a, t[i]? = some a → ga σ 4 i = nI a
/-- a copying loop: the places below k are done -/
theorem X10_text_loop {t : List Nat} : ∀ (m k n : Nat) (σ : St), TX t σ → gi σ 7 = nI t.length → k + m = t.length → m < n → (∀ i a, i < k → t[i]? = some a → ga σ 6 i = nI a) →
    ∃ σ', f_X10_takesText_10 n σ (nI k) = some σ' ∧ HW t σ' ∧ FR [] [6] σ σ' := by
  intro m
  induction m with
  | zero =>
    intro k n σ h h7 hk hn hc
    obtain ⟨n, rfl⟩ : ∃ j, n = j + 1 := ⟨n - 1, by omega⟩
    have h77 := h.2.1.2
    rw [f_X10_takesText_10, h.1, if_pos (nI_le (by omega) (by omega))]
    refine ⟨σ, rfl, ⟨h7, h.2.1, ?_⟩, FR.rfl' _ _ _⟩
    intro i a hi
    have := (List.getElem?_eq_some_iff.mp hi).1
    exact hc i a (by omega) hi
  | succ m ih =>
    intro k n σ h h7 hk hn hc
    obtain ⟨n, rfl⟩ : ∃ j, n = j + 1 := ⟨n - 1, by omega⟩
    have h77 := h.2.1.2
    rw [f_X10_takesText_10, h.1, if_neg (nI_ge (by omega) (by omega)), ixo_nI (by omega) (by omega), ixo_nI (by omega) (by omega), lt_e, nI_clamp (by omega), nI_1]
    have f1 := FR_sa σ 6 (upd (ga σ 6) k (ga σ 4 k))
    obtain ⟨σ', e, hw, f2⟩ := ih (k + 1) n (sa σ 6 (upd (ga σ 6) k (ga σ 4 k))) h h7 (by omega) (by omega) (by
      intro i a hi hia
      show (if i = k then ga σ 4 k else ga σ 6 i) = _
      by_cases c : i = k
      · rw [if_pos c, ← c]
        exact h.2.2 i a hia
      · rw [if_neg c]
        exact hc i a (by omega) hia)
    exact ⟨σ', e, hw, f1.t f2⟩
theorem X10_takesText {t : List Nat} {σ : St} (h : TX t σ) : ∃ σ', f_X10_takesText σ = some σ' ∧ HW t σ' ∧ FR [7] [6] σ σ' := by
  have h77 := h.2.1.2
  unfold f_X10_takesText
  rw [lt_e, h.1]
  obtain ⟨σ', e, hw, f2⟩ := X10_text_loop (t := t) t.length 0 FU (si σ 7 (nI t.length)) h rfl (by omega) (FU_big (by omega)) (by intro i a hi; omega)
  exact ⟨σ', e, hw, (FR_si σ 7 _).tr f2 (by decide) (by decide)⟩
theorem X10_word_loop {D : List (List Nat)} {w : Nat} {u : List Nat} (hw : D[w]? = some u) : ∀ (m k n : Nat) (σ : St), AD D (ga σ 0) → gi σ 7 = nI u.length → k + m = u.length → m < n → (∀ i a, i < k → u[i]? = some a → ga σ 6 i = nI a) →
    ∃ σ', f_X10_takesWord_18 n σ (nI w) (nI k) = some σ' ∧ HW u σ' ∧ FR [] [6] σ σ' := by
  have hlt := (List.getElem?_eq_some_iff.mp hw).1
  intro m
  induction m with
  | zero =>
    intro k n σ h h7 hk hn hc
    obtain ⟨n, rfl⟩ : ∃ j, n = j + 1 := ⟨n - 1, by omega⟩
    have hu := (h.2.2.1 u (List.mem_of_getElem? hw)).1
    have hu7 := hu.2
    rw [f_X10_takesWord_18, h7, if_pos (nI_le (by omega) (by omega))]
    refine ⟨σ, rfl, ⟨h7, hu, ?_⟩, FR.rfl' _ _ _⟩
    intro i a hi
    have := (List.getElem?_eq_some_iff.mp hi).1
    exact hc i a (by omega) hi
  | succ m ih =>
    intro k n σ h h7 hk hn hc
    obtain ⟨n, rfl⟩ : ∃ j, n = j + 1 := ⟨n - 1, by omega⟩
    have hu := (h.2.2.1 u (List.mem_of_getElem? hw)).1
    have hu7 := hu.2
    have h30 := h.2.1
    have ea : (17 : Int32) + 8 * nI w + 1 + nI k = nI (18 + 8 * w + k) := by
      simp only [L17, L8, L1, iI_nI, iI_mul, iI_add]
      congr 1 <;> omega
    rw [f_X10_takesWord_18, h7, if_neg (nI_ge (by omega) (by omega)), ea, ixo_nI (by omega) (by omega), ixo_nI (by omega) (by omega), lt_e, nI_clamp (by omega), nI_clamp (by omega), nI_1]
    have f1 := FR_sa σ 6 (upd (ga σ 6) k (ga σ 0 (18 + 8 * w + k)))
    obtain ⟨σ', e, hw2, f2⟩ := ih (k + 1) n (sa σ 6 (upd (ga σ 6) k (ga σ 0 (18 + 8 * w + k)))) h h7 (by omega) (by omega) (by
      intro i a hi hia
      show (if i = k then ga σ 0 (18 + 8 * w + k) else ga σ 6 i) = _
      by_cases c : i = k
      · rw [if_pos c, ← c]
        exact (h.2.2.2 w u hw).2 i a hia
      · rw [if_neg c]
        exact hc i a (by omega) hia)
    exact ⟨σ', e, hw2, f1.t f2⟩
theorem X10_takesWord {D : List (List Nat)} {w : Nat} {u : List Nat} {σ : St} (hw : D[w]? = some u) (h : AD D (ga σ 0)) : ∃ σ', f_X10_takesWord σ (nI w) = some σ' ∧ HW u σ' ∧ FR [7] [6] σ σ' := by
  have hlt := (List.getElem?_eq_some_iff.mp hw).1
  have h30 := h.2.1
  have hu7 := (h.2.2.1 u (List.mem_of_getElem? hw)).1.2
  have ea : (17 : Int32) + 8 * nI w = nI (17 + 8 * w) := by
    simp only [L17, L8, iI_nI, iI_mul, iI_add]
    congr 1 <;> omega
  unfold f_X10_takesWord
  rw [ea, ixo_nI (by omega) (by omega), lt_e, nI_clamp (by omega), (h.2.2.2 w u hw).1]
  obtain ⟨σ', e, hw2, f2⟩ := X10_word_loop hw u.length 0 FU (si σ 7 (nI u.length)) h rfl (by omega) (FU_big (by omega)) (by intro i a hi; omega)
  exact ⟨σ', e, hw2, (FR_si σ 7 _).tr f2 (by decide) (by decide)⟩
/-! ===== cross words in the reference ===== -/
def rwE (e : Nat) (j i : Int) : Int := if e = 0 then j else i
def clE (e : Nat) (j i : Int) : Int := if e = 0 then i else j
theorem E_tile {T : Bd} {σ : St} (h : BR T (ga σ 8)) {e : Nat} {j i : Int} (h1 : -100 ≤ i) (h2 : i < 100) (h3 : -100 ≤ j) (h4 : j < 100) : f_X10_hasTile σ (iI (rwE e j i)) (iI (clE e j i)) = some (M T e j i).isSome := by
  unfold rwE clE M
  by_cases c : e = 0
  · simp only [if_pos c]
    exact X10_hasTile h (by omega) (by omega) (by omega) (by omega)
  · simp only [if_neg c]
    exact X10_hasTile h (by omega) (by omega) (by omega) (by omega)
theorem rw_back {e : Nat} (he : e < 2) (j i : Int) : iI (rwE e j i) - nI e = iI (rwE e j (i - 1)) ∧ iI (clE e j i) - (1 - nI e) = iI (clE e j (i - 1)) := by
  rw [iI_nI, L1, iI_sub, iI_sub, iI_sub]
  unfold rwE clE
  rcases (by omega : e = 0 ∨ e = 1) with rfl | rfl
  · simp only [if_pos]
    exact ⟨by congr 1; omega, by congr 1⟩
  · rw [if_neg (by omega), if_neg (by omega), if_neg (by omega), if_neg (by omega)]
    exact ⟨by congr 1, by congr 1; omega⟩
theorem rw_on {e : Nat} (he : e < 2) (j i : Int) : iI (rwE e j i) + nI e = iI (rwE e j (i + 1)) ∧ iI (clE e j i) + (1 - nI e) = iI (clE e j (i + 1)) := by
  rw [iI_nI, L1, iI_sub, iI_add, iI_add]
  unfold rwE clE
  rcases (by omega : e = 0 ∨ e = 1) with rfl | rfl
  · simp only [if_pos]
    exact ⟨by congr 1; omega, by congr 1⟩
  · rw [if_neg (by omega), if_neg (by omega), if_neg (by omega), if_neg (by omega)]
    exact ⟨by congr 1, by congr 1; omega⟩
def hiw (g : Int → Option Nat) : Nat → Int → Int
  | 0, p => p
  | n + 1, p => if (g (p + 1)).isSome then hiw g n (p + 1) else p
theorem hiw_bd {g : Int → Option Nat} (hg : ∀ i, (g i).isSome = true → i < 7) : ∀ (n : Nat) (p : Int), p < 7 → hiw g n p < 7 ∧ p ≤ hiw g n p
  | 0, p, h => ⟨h, Int.le_refl _⟩
  | n + 1, p, h => by
    unfold hiw
    by_cases c : (g (p + 1)).isSome = true
    · rw [if_pos c]
      have := hiw_bd hg n (p + 1) (hg _ c)
      omega
    · rw [if_neg c]
      omega
theorem X10_up_loop {T : Bd} {e : Nat} (he : e < 2) {j : Int} (hj : 0 ≤ j ∧ j < 7) : ∀ (m n : Nat) (q : Int) (σ : St) (s : Int), BR T (ga σ 8) → 0 ≤ q → q < 7 → 7 - q < m → m < n → gi σ 10 = iI (rwE e j s) → gi σ 11 = iI (clE e j s) →
    f_X10_findsCross_79 n σ (nI e) (1 - nI e) (iI (rwE e j q)) (iI (clE e j q)) = some (si σ 12 (iI (hiw (M T e j) m q - s + 1))) := by
  intro m
  induction m with
  | zero =>
    intro n q σ s h q1 q2 hm hn g1 g2
    omega
  | succ m ih =>
    intro n q σ s h q1 q2 hm hn g1 g2
    obtain ⟨n, rfl⟩ : ∃ k, n = k + 1 := ⟨n - 1, by omega⟩
    have r := rw_on he j q
    rw [f_X10_findsCross_79, r.1, r.2, E_tile h (by omega) (by omega) (by omega) (by omega), bno_s, if_b, hiw]
    by_cases c : (M T e j (q + 1)).isSome = true
    · rw [if_pos c, if_pos c]
      have := M_some h.1 c
      exact ih n (q + 1) σ s h (by omega) (by omega) (by omega) (by omega) g1 g2
    · rw [if_neg c, if_neg c, lt_e, g1, g2, iI_sub, iI_add, iI_sub, L1, iI_add]
      congr 3
      unfold rwE clE
      by_cases c2 : e = 0
      · simp only [if_pos c2]; omega
      · simp only [if_neg c2]; omega
theorem X10_lo_loop {T : Bd} {e : Nat} (he : e < 2) {j p : Int} (hj : 0 ≤ j ∧ j < 7) (hp : 0 ≤ p ∧ p < 7) : ∀ (m n : Nat) (q : Int) (σ : St), BR T (ga σ 8) → 0 ≤ q → q < 7 → q < m → m < n → gi σ 10 = iI (rwE e j q) → gi σ 11 = iI (clE e j q) →
    ∃ σ', f_X10_findsCross_27 n σ (iI (rwE e j p)) (iI (clE e j p)) (nI e) (1 - nI e) = some σ' ∧ gi σ' 10 = iI (rwE e j (lo (M T e j) m q)) ∧ gi σ' 11 = iI (clE e j (lo (M T e j) m q)) ∧ gi σ' 12 = iI (hiw (M T e j) 8 p - lo (M T e j) m q + 1) ∧ FR [10, 11, 12] [] σ σ' := by
  intro m
  induction m with
  | zero =>
    intro n q σ h q1 q2 hm hn g1 g2
    omega
  | succ m ih =>
    intro n q σ h q1 q2 hm hn g1 g2
    obtain ⟨n, rfl⟩ : ∃ k, n = k + 1 := ⟨n - 1, by omega⟩
    have r := rw_back he j q
    rw [f_X10_findsCross_27, g1, g2, r.1, r.2, E_tile h (by omega) (by omega) (by omega) (by omega), bno_s, if_b, lo]
    by_cases c : (M T e j (q - 1)).isSome = true
    · rw [if_pos c, if_pos c, lt_e, lt_e]
      have := M_some h.1 c
      have hg : gi (si σ 10 (iI (rwE e j (q - 1)))) 11 = gi σ 11 := rfl
      rw [hg, g2, r.2]
      obtain ⟨σ', e1, e2, e3, e4, f⟩ := ih n (q - 1) (si (si σ 10 (iI (rwE e j (q - 1)))) 11 (iI (clE e j (q - 1)))) h (by omega) (by omega) (by omega) (by omega) rfl rfl
      refine ⟨σ', e1, e2, e3, e4, ?_⟩
      exact ((FR_si σ 10 _).tr (FR_si _ 11 _) (is3 := [10, 11, 12]) (js3 := []) (by decide) (by decide)).t f
    · rw [if_neg c, if_neg c, X10_up_loop he hj 8 FU p σ q h hp.1 hp.2 (by omega) (FU_big (by omega)) g1 g2]
      exact ⟨_, rfl, g1, g2, rfl, (FR_si σ 12 _).mo (by decide) (by decide)⟩
theorem lo_more {g : Int → Option Nat} (hg : ∀ i, (g i).isSome = true → 0 ≤ i) : ∀ (n m : Nat) (p : Int), p ≤ n → p ≤ m → lo g n p = lo g m p
  | 0, 0, p, _, _ => rfl
  | 0, m + 1, p, h, _ => by
    unfold lo
    rw [if_neg (fun q => by have := hg _ q; omega)]
  | n + 1, 0, p, _, h => by
    unfold lo
    rw [if_neg (fun q => by have := hg _ q; omega)]
  | n + 1, m + 1, p, h1, h2 => by
    unfold lo
    by_cases c : (g (p - 1)).isSome = true
    · rw [if_pos c, if_pos c]
      exact lo_more hg n m (p - 1) (by omega) (by omega)
    · rw [if_neg c, if_neg c]
theorem X10_findsCross {T : Bd} {d : Nat} (hd : d < 2) {a j : Nat} (ha : a < 7) (hj : j < 7) {σ : St} (h : BR T (ga σ 8)) :
    ∃ σ', f_X10_findsCross σ (iI (rwE (1 - d) j a)) (iI (clE (1 - d) j a)) (nI d) = some σ' ∧ gi σ' 10 = iI (rwE (1 - d) j (lo (M T (1 - d) j) 7 a)) ∧ gi σ' 11 = iI (clE (1 - d) j (lo (M T (1 - d) j) 7 a)) ∧ gi σ' 12 = iI (hiw (M T (1 - d) j) 8 a - lo (M T (1 - d) j) 7 a + 1) ∧ FR [10, 11, 12] [] σ σ' := by
  have go : ∀ s : Int32, s = nI (1 - d) → f_X10_findsCross_9 σ (iI (rwE (1 - d) j a)) (iI (clE (1 - d) j a)) s = f_X10_findsCross_27 FU (si (si σ 10 (iI (rwE (1 - d) j a))) 11 (iI (clE (1 - d) j a))) (iI (rwE (1 - d) j a)) (iI (clE (1 - d) j a)) (nI (1 - d)) (1 - nI (1 - d)) := by
    intro s hs
    rw [hs]
    rfl
  obtain ⟨σ', e1, e2, e3, e4, f⟩ := X10_lo_loop (T := T) (e := 1 - d) (by omega) (j := j) (p := a) (by omega) (by omega) 7 FU a (si (si σ 10 (iI (rwE (1 - d) j a))) 11 (iI (clE (1 - d) j a))) h (by omega) (by omega) (by omega) (FU_big (by omega)) rfl rfl
  refine ⟨σ', ?_, e2, e3, e4, ((FR_si σ 10 _).tr (FR_si _ 11 _) (is3 := [10, 11, 12]) (js3 := []) (by decide) (by decide)).t f⟩
  unfold f_X10_findsCross
  rcases (by omega : d = 0 ∨ d = 1) with rfl | rfl
  · rw [if_pos (show nI 0 = 0 from rfl), go 1 rfl]
    exact e1
  · rw [if_neg (by decide), go 0 rfl]
    exact e1
