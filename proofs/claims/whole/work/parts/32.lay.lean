/-! ===== tiles laid and taken away, on the class's side ===== -/
def setO (T : Bd) (r c : Nat) (o : Option Nat) : Bd := fun x y => if x = r ∧ y = c then o else T x y
def setT (T : Bd) (d a j : Nat) (o : Option Nat) : Bd := if d = 0 then setO T a j o else setO T j a o
def layT : Bd → Nat → Nat → Nat → List Nat → Bd
  | T, _, _, _, [] => T
  | T, d, a, j, x :: u => layT (setT T d a j (some x)) d a (j + 1) u
theorem okT_setO {T : Bd} (h : okT T) {r c : Nat} (hr : r < 7) (hc : c < 7) {o : Option Nat} (ho : ∀ l, o = some l → l < 8) : okT (setO T r c o) := by
  intro x y l e
  unfold setO at e
  by_cases k : x = r ∧ y = c
  · rw [if_pos k] at e
    have := ho l e
    omega
  · rw [if_neg k] at e
    exact h x y l e
theorem okT_setT {T : Bd} (h : okT T) {d a j : Nat} (ha : a < 7) (hj : j < 7) {o : Option Nat} (ho : ∀ l, o = some l → l < 8) : okT (setT T d a j o) := by
  unfold setT
  by_cases c : d = 0
  · rw [if_pos c]; exact okT_setO h ha hj ho
  · rw [if_neg c]; exact okT_setO h hj ha ho
theorem M_setT (T : Bd) (d a j : Nat) (o : Option Nat) (x y : Int) : M (setT T d a j o) d x y = if x = a ∧ y = j then o else M T d x y := by
  unfold setT M
  by_cases c : d = 0
  · rw [if_pos c, if_pos c, if_pos c]; rfl
  · rw [if_neg c, if_neg c, if_neg c]
    unfold setO
    by_cases k : x = a ∧ y = j
    · rw [if_pos k, if_pos ⟨k.2, k.1⟩]
    · rw [if_neg k, if_neg (fun q => k ⟨q.2, q.1⟩)]
theorem cell_setT {T : Bd} {d a j : Nat} (ha : a < 7) (hj : j < 7) (o : Option Nat) {x : Nat} (hx : x < 64) : cell (setT T d a j o) x = if (x : Int) = adr d a j then o else cell T x := by
  unfold cell setT adr
  rw [if_pos (show (0 : Int) ≤ x ∧ (x : Int) < 64 by omega), if_pos (show (0 : Int) ≤ x ∧ (x : Int) < 64 by omega)]
  by_cases c : d = 0
  · rw [if_pos c, if_pos c]
    unfold setO
    by_cases k : (x : Int) / 8 = a ∧ (x : Int) % 8 = j
    · rw [if_pos k, if_pos (by omega)]
    · rw [if_neg k, if_neg (by omega)]
  · rw [if_neg c, if_neg c]
    unfold setO
    by_cases k : (x : Int) / 8 = j ∧ (x : Int) % 8 = a
    · rw [if_pos k, if_pos (by omega)]
    · rw [if_neg k, if_neg (by omega)]
theorem okT_layT : ∀ (u : List Nat) {T : Bd} {d a j : Nat}, okT T → a < 7 → j + u.length ≤ 7 → lt8 u → okT (layT T d a j u)
  | [], _, _, _, _, h, _, _, _ => h
  | x :: u, T, d, a, j, h, ha, hj, h8 => by
    obtain ⟨hx, h8⟩ := lt8_cons.mp h8
    have hj2 : j + (u.length + 1) ≤ 7 := hj
    exact okT_layT u (okT_setT h ha (by omega) (by intro l e; cases e; exact hx)) ha (by omega) h8
theorem M_layT : ∀ (u : List Nat) (T : Bd) (d a j : Nat) (x y : Int), M (layT T d a j u) d x y = if x = a ∧ (j : Int) ≤ y ∧ y < j + u.length then u[(y - j).toNat]? else M T d x y
  | [], T, d, a, j, x, y => by
    rw [if_neg (by simp)]
    rfl
  | l :: u, T, d, a, j, x, y => by
    show M (layT (setT T d a j (some l)) d a (j + 1) u) d x y = _
    rw [M_layT u, M_setT]
    have hlen : (l :: u).length = u.length + 1 := rfl
    by_cases c : x = a ∧ (j : Int) ≤ y ∧ y < j + (l :: u).length
    · rw [if_pos c]
      by_cases c2 : y = j
      · rw [if_neg (by omega), if_pos ⟨c.1, c2⟩, show (y - j).toNat = 0 by omega]
        rfl
      · rw [hlen] at c
        rw [if_pos (by omega), show (y - j).toNat = (y - (j + 1 : Nat)).toNat + 1 by omega]
        rfl
    · rw [if_neg c]
      rw [hlen] at c
      rw [if_neg (by omega), if_neg (by omega)]
theorem cell_layT {T : Bd} {d a b : Nat} {u : List Nat} (h : okT T) (ha : a < 7) (hl : b + u.length ≤ 7) (h8 : lt8 u) {x : Nat} (hx : x < 64) : cell (layT T d a b u) x = match (List.range u.length).find? (fun k => decide ((x : Int) = adr d a (b + k : Nat))) with
  | some k => u[k]?
  | none => cell T x := by
  have hok := okT_layT (d := d) u h ha hl h8
  -- the square as a place of a line
  obtain ⟨i, j, e, hi, hj⟩ : ∃ i j : Int, (x : Int) = adr d i j ∧ (0 ≤ i ∧ i ≤ 7) ∧ (0 ≤ j ∧ j ≤ 7) := by
    unfold adr
    by_cases c : d = 0
    · exact ⟨x / 8, x % 8, by rw [if_pos c]; omega, by omega, by omega⟩
    · exact ⟨x % 8, x / 8, by rw [if_neg c]; omega, by omega, by omega⟩
  rw [e, cell_adr hok (by omega) (by omega) (by omega) (by omega), cell_adr h (by omega) (by omega) (by omega) (by omega), M_layT]
  have hadr : ∀ k : Nat, b + k < 7 → (adr d i j = adr d a (b + k : Nat) ↔ i = a ∧ j = (b + k : Nat)) := by
    intro k hk
    unfold adr
    by_cases c : d = 0
    · rw [if_pos c, if_pos c]; omega
    · rw [if_neg c, if_neg c]; omega
  by_cases c : i = a ∧ (b : Int) ≤ j ∧ j < b + u.length
  · rw [if_pos c]
    cases e2 : (List.range u.length).find? (fun k => decide (adr d i j = adr d a (b + k : Nat))) with
    | none =>
      have := List.find?_eq_none.mp e2 (j - b).toNat (List.mem_range.mpr (by omega))
      rw [decide_eq_true_iff, hadr _ (by omega)] at this
      omega
    | some k =>
      have h1 := List.find?_some e2
      have h2 := List.mem_range.mp (List.mem_of_find?_eq_some e2)
      rw [decide_eq_true_iff, hadr _ (by omega)] at h1
      show u[(j - b).toNat]? = u[k]?
      congr 1
      omega
  · rw [if_neg c]
    cases e2 : (List.range u.length).find? (fun k => decide (adr d i j = adr d a (b + k : Nat))) with
    | none => rfl
    | some k =>
      have h1 := List.find?_some e2
      have h2 := List.mem_range.mp (List.mem_of_find?_eq_some e2)
      rw [decide_eq_true_iff, hadr _ (by omega)] at h1
      omega
/-- the same but for the tiles -/
def SB (σ σ' : St) : Prop := (∀ k, gi σ' k = gi σ k) ∧ ∀ k, k ≠ 1 → ga σ' k = ga σ k
theorem SB.trans {σ σ1 σ2 : St} (h : SB σ σ1) (h2 : SB σ1 σ2) : SB σ σ2 := ⟨fun k => by rw [h2.1, h.1], fun k hk => by rw [h2.2 k hk, h.2 k hk]⟩
theorem lb_one {k i : Nat} (hk : k < 64) (hi : i < 64) : lb (lshl 1 (nI k)) i = decide (i = k) := by
  have hb1 : ∀ i, i < 64 → lb 1 i = decide (i = 0) := by decide +kernel
  rw [lb_shl hk hi, hb1 _ (by omega)]
  by_cases c : i = k
  · simp [c]
  · rw [decide_eq_false c]
    by_cases c2 : k ≤ i
    · rw [decide_eq_false (show ¬ i - k = 0 by omega), Bool.and_false]
    · rw [decide_eq_false c2, Bool.false_and]
theorem X0_put {T : Bd} {σ : St} (h : OC T σ) {d a j : Nat} (ha : a < 7) (hj : j < 7) {o : Option Nat} (ho : ∀ l, o = some l → l < 8) : ∃ σ', f_X0_put σ (iI (adr d a j)) (enc o) = some σ' ∧ OC (setT T d a j o) σ' ∧ SB σ σ' := by
  have ⟨a1, a2⟩ := adr_lt (d := d) ha hj
  obtain ⟨x, hx⟩ : ∃ x : Nat, (x : Int) = adr d a j := ⟨(adr d a j).toNat, by omega⟩
  have hx64 : x < 64 := by omega
  unfold f_X0_put
  simp (disch := omega) only [iI_lt0, L64, iI_lt, enc_m1 o ho]
  rw [if_neg (by omega), if_pos (by omega), ← hx, ← iI_nI]
  cases o with
  | none =>
    rw [if_pos rfl]
    refine ⟨sl σ 0 (gl σ 0 &&& (lshl 1 (nI x) ^^^ (-1))), rfl, ⟨okT_setT h.1 ha hj ho, ?_⟩, fun k => rfl, fun k _ => rfl⟩
    intro y hy
    rw [cell_setT ha hj none hy, ← hx]
    show lb (gl σ 0 &&& (lshl 1 (nI x) ^^^ (-1))) y = _ ∧ ∀ a, _ → ga σ 1 y = _
    rw [lb_and, lb_not hy, lb_one hx64 hy]
    by_cases c : y = x
    · rw [if_pos (by omega), decide_eq_true c]
      simp
    · rw [if_neg (by omega), decide_eq_false c]
      simpa using h.2 y hy
  | some l =>
    rw [if_neg (by simp), ixo_nI hx64 (by omega), nI_clamp (by omega)]
    refine ⟨sl (sa σ 1 (upd (ga σ 1) x (nI l))) 0 (gl σ 0 ||| lshl 1 (nI x)), rfl, ⟨okT_setT h.1 ha hj ho, ?_⟩, fun k => rfl, fun k hk => ?_⟩
    · intro y hy
      rw [cell_setT ha hj (some l) hy, ← hx]
      show lb (gl σ 0 ||| lshl 1 (nI x)) y = _ ∧ ∀ a, _ → upd (ga σ 1) x (nI l) y = _
      rw [lb_or, lb_one hx64 hy]
      by_cases c : y = x
      · rw [if_pos (by omega), decide_eq_true c]
        refine ⟨by simp, ?_⟩
        intro a e
        cases e
        show (if y = x then nI l else ga σ 1 y) = nI l
        rw [if_pos c]
      · rw [if_neg (by omega), decide_eq_false c]
        refine ⟨by simpa using (h.2 y hy).1, ?_⟩
        intro a e
        show (if y = x then nI l else ga σ 1 y) = nI a
        rw [if_neg c]
        exact (h.2 y hy).2 a e
    · show (if k = 1 then _ else ga σ k) = ga σ k
      rw [if_neg hk]
theorem X5_lay_loop {d a b : Nat} (hd : d < 2) (ha : a < 7) (hb : b < 7) {t : List Nat} (h8 : lt8 t) (h7 : b + t.length ≤ 7) (m : Int64) : ∀ (suf pre : List Nat) (n : Nat) (T : Bd) (σ : St), OC T σ → t = pre ++ suf → suf.length < n →
    ∃ σ', f_X5_lay_78 n σ (nI (stn d a b)) (nI (pk t)) (nI t.length) m (iI (adr d a (b + pre.length : Nat))) (nI pre.length) = some (m, σ') ∧ OC (layT T d a (b + pre.length) suf) σ' ∧ SB σ σ' := by
  intro suf
  induction suf with
  | nil =>
    intro pre n T σ h e hn
    obtain ⟨n, rfl⟩ : ∃ j, n = j + 1 := ⟨n - 1, by simp at hn; omega⟩
    rw [List.append_nil] at e
    rw [f_X5_lay_78, if_pos (by rw [e]; exact nI_le (Nat.le_refl _) (by rw [e] at h7; omega))]
    exact ⟨σ, rfl, h, fun _ => rfl, fun _ _ => rfl⟩
  | cons x suf ih =>
    intro pre n T σ h e hn
    have hlen : t.length = pre.length + (suf.length + 1) := by rw [e]; simp
    obtain ⟨n, rfl⟩ : ∃ j, n = j + 1 := ⟨n - 1, by simp at hn; omega⟩
    have hx : x < 8 := h8 x (by rw [e]; simp)
    obtain ⟨σ1, e1, h1, s1⟩ := X0_put h (d := d) (a := a) (j := b + pre.length) ha (by omega) (o := some x) (by intro l q; cases q; exact hx)
    obtain ⟨σ2, e2, h2, s2⟩ := ih (pre ++ [x]) n _ σ1 h1 (by rw [e]; simp) (by simp at hn; omega)
    refine ⟨σ2, ?_, ?_, s1.trans s2⟩
    · rw [f_X5_lay_78, if_neg (nI_ge (by omega) (by omega)), X8_letter (a := x) h8 (by omega) (by rw [e]; simp), bno_s]
      show bno (f_X0_put σ _ (enc (some x))) _ = _
      rw [e1, bno_s, st_st d hd a ha b hb, bno_s, adr_suc, nI_1]
      rw [List.length_append] at e2
      exact e2
    · rw [List.length_append] at h2
      exact h2
def updR (R : Nat → Nat → Nat) (p : Nat) (r : Nat → Nat) : Nat → Nat → Nat := fun q => if q = p then r else R q
/-- what the class's table holds -/
def CB (D : List (List Nat)) (V E : Nat → Int32) (P : Nat → Nat → Int32) (S : Nat → Int32) (t : List Nat) (T : Bd) (R : Nat → Nat → Nat) (σ : St) : Prop :=
  CD D σ ∧ VC V σ ∧ EC E σ ∧ PC P σ ∧ (∀ p, p < 2 → ga σ 6 p = S p) ∧ gi σ 0 = nI (pk t) ∧ OC T σ ∧ KC R σ
section lay
variable {D : List (List Nat)} {V E : Nat → Int32} {P : Nat → Nat → Int32} {S : Nat → Int32} {t : List Nat} {T : Bd} {R : Nat → Nat → Nat} {σ : St}
theorem CB_SB (h : CB D V E P S t T R σ) {σ' : St} {T' : Bd} (hs : SB σ σ') (hT : OC T' σ') : CB D V E P S t T' R σ' := by
  obtain ⟨h1, h2, h3, h4, h5, h6, _, h8⟩ := h
  refine ⟨⟨by rw [hs.1]; exact h1.1, h1.2.1, h1.2.2.1, by rw [hs.2 0 (by omega)]; exact h1.2.2.2⟩, ?_, ?_, ?_, ?_, by rw [hs.1]; exact h6, hT, ?_⟩
  · intro l hl; rw [hs.2 3 (by omega)]; exact h2 l hl
  · intro l hl; rw [hs.2 4 (by omega)]; exact h3 l hl
  · intro r c hr hc; rw [hs.2 2 (by omega)]; exact h4 r c hr hc
  · intro p hp; rw [hs.2 6 (by omega)]; exact h5 p hp
  · intro p hp; rw [hs.2 5 (by omega)]; exact h8 p hp
theorem X7_changeRack (h : CB D V E P S t T R σ) {p : Nat} (hp : p < 2) {r : Nat → Nat} (hr : okR r) : ∃ σ', f_X7_changeRack σ (nI p) (nI (pr r)) = some σ' ∧ CB D V E P S t T (updR R p r) σ' ∧ gl σ' 0 = gl σ 0 ∧ gi σ' 2 = gi σ 2 ∧ (∀ x, ga σ' 1 x = ga σ 1 x) := by
  obtain ⟨h1, h2, h3, h4, h5, h6, h7, h8⟩ := h
  unfold f_X7_changeRack
  rw [X9_isPlayer_n hp, bno_s, if_b, if_pos rfl, ixo_nI hp (by omega), nI_clamp (by omega)]
  refine ⟨_, rfl, ⟨h1, h2, h3, h4, h5, h6, h7, ?_⟩, rfl, rfl, fun _ => rfl⟩
  intro q hq
  unfold updR
  show okR _ ∧ (if q = p then nI (pr r) else ga σ 5 q) = _
  by_cases c : q = p
  · rw [if_pos c, if_pos c]
    exact ⟨hr, rfl⟩
  · rw [if_neg c, if_neg c]
    exact h8 q hq
/-- the squares that get a tile, as bits -/
def LD (T : Bd) (d a b len : Nat) (m : Int64) : Prop := ∀ x : Nat, x < 64 → (lb m x = true ↔ cell T x = none ∧ ∃ k, k < len ∧ (x : Int) = adr d a (b + k : Nat))
theorem X5_lay (h : CB D V E P S t T R σ) {p d a b w : Nat} (hp : p < 2) (hd : d < 2) (ha : a < 7) (hb : b < 7) {u : List Nat} (hw : D[w]? = some u) (hl : b + u.length ≤ 7) {r : Nat → Nat} (hr : tk (R p) (frs (M T d a) b u) = some r) :
    ∃ m σ', f_X5_lay σ (nI p) (nI (stn d a b * 32 + w)) = some (m, σ') ∧ CB D V E P S t (layT T d a b u) (updR R p r) σ' ∧ LD T d a b u.length m ∧ gi σ' 2 = gi σ 2 := by
  have hh := h
  obtain ⟨h1, h2, h3, h4, h5, h6, h7, h8⟩ := h
  have hlt := (List.getElem?_eq_some_iff.mp hw).1
  have h30 := h1.2.1
  obtain ⟨⟨u8, u7⟩, _⟩ := h1.2.2.1 u (List.mem_of_getElem? hw)
  have e := pc_all _ (stn_lt hd ha hb) w (by omega)
  have hR := (h8 p hp).1
  have hr2 : okR r := by
    have := tk_ok _ _ _ (frs_lt8 _ u b u8) hr
    unfold okR at *
    omega
  obtain ⟨σ1, e1, c1, g1, g2, g3⟩ := X7_changeRack hh hp hr2
  obtain ⟨m, em, hm⟩ := X6_squares hd ha hb hl
  obtain ⟨σ2, e2, o2, s2⟩ := X5_lay_loop hd ha hb u8 hl (m &&& (gl σ1 0 ^^^ (-1))) u [] FU T σ1 c1.2.2.2.2.2.2.1 rfl (FU_big (by omega))
  refine ⟨m &&& (gl σ1 0 ^^^ (-1)), σ2, ?_, CB_SB c1 s2 o2, ?_, by rw [s2.1, g2]⟩
  · unfold f_X5_lay
    rw [e.2.1, bno_s, e.2.2, bno_s, X1_word h1 hw, bno_s, X8_length u8 u7, bno_s, X7_rack h8 hp, bno_s, X5_rackAfter h7 hd ha hb u8 hl hR, hr, bno_s]
    show bno (f_X7_changeRack σ (nI p) (nI (pr r))) _ = _
    rw [e1, bno_s, em, bno_s]
    unfold f_X0_emptyOf
    rw [bno_s, st_sq d hd a ha b hb, bno_s]
    exact e2
  · intro x hx
    rw [lb_and, lb_not hx, g1, oc_bit h7 hx, Bool.and_eq_true, hm x hx]
    constructor
    · rintro ⟨q1, q2⟩
      exact ⟨by simpa using q2, q1⟩
    · rintro ⟨q1, q2⟩
      exact ⟨q2, by simp [q1]⟩
theorem agr_get {g : Int → Option Nat} : ∀ {u : List Nat} {b : Nat}, agr g b u = true → ∀ k, k < u.length → ∀ y, g (b + k : Nat) = some y → u[k]? = some y
  | [], _, _, k, hk, _, _ => by simp at hk
  | x :: u, b, h, 0, _, y, hy => by
    unfold agr at h
    rw [Nat.add_zero] at hy
    rw [hy] at h
    simp at h
    simp [h.1]
  | x :: u, b, h, k + 1, hk, y, hy => by
    unfold agr at h
    rw [Bool.and_eq_true] at h
    have := agr_get h.2 k (by simpa using hk) y (by rw [show b + 1 + k = b + (k + 1) by omega]; exact hy)
    simpa using this
theorem X0_takeAway (hT : okT T) {d a b : Nat} (ha : a < 7) {u : List Nat} (u8 : lt8 u) (hl : b + u.length ≤ 7) (hag : agr (M T d a) b u = true) {m : Int64} (hm : LD T d a b u.length m) (h : CB D V E P S t (layT T d a b u) R σ) :
    ∃ σ', f_X0_takeAway σ m = some σ' ∧ CB D V E P S t T R σ' ∧ gi σ' 2 = gi σ 2 := by
  refine ⟨sl σ 0 (gl σ 0 &&& (m ^^^ (-1))), rfl, CB_SB h ⟨fun _ => rfl, fun _ _ => rfl⟩ ⟨hT, ?_⟩, rfl⟩
  intro x hx
  have ho := h.2.2.2.2.2.2.1.2 x hx
  rw [cell_layT hT ha hl u8 hx] at ho
  show lb (gl σ 0 &&& (m ^^^ (-1))) x = _ ∧ ∀ a, _ → ga σ 1 x = _
  rw [lb_and, lb_not hx, ho.1]
  have hmx := hm x hx
  cases e2 : (List.range u.length).find? (fun k => decide ((x : Int) = adr d a (b + k : Nat))) with
  | none =>
    rw [e2] at ho
    have : ¬ lb m x = true := by
      rw [hmx]
      rintro ⟨_, k, hk, hx2⟩
      have := List.find?_eq_none.mp e2 k (List.mem_range.mpr hk)
      exact this (by simpa using hx2)
    rw [Bool.not_eq_true] at this
    rw [this]
    refine ⟨by simp, ho.2⟩
  | some k =>
    rw [e2] at ho
    have h1 := List.find?_some e2
    have h2 := List.mem_range.mp (List.mem_of_find?_eq_some e2)
    rw [decide_eq_true_iff] at h1
    have hc : cell T x = M T d a (b + k : Nat) := by rw [h1, cell_adr hT (by omega) (by omega) (by omega) (by omega)]
    cases e3 : M T d a (b + k : Nat) with
    | none =>
      have : lb m x = true := hmx.mpr ⟨by rw [hc, e3], k, h2, h1⟩
      rw [this, hc, e3]
      refine ⟨by simp, ?_⟩
      intro a q
      cases q
    | some y =>
      have hne : ¬ lb m x = true := by
        rw [hmx, hc, e3]
        rintro ⟨q, _⟩
        cases q
      rw [Bool.not_eq_true] at hne
      have hg := agr_get hag k h2 y e3
      rw [hne, hc, e3]
      refine ⟨by show ((u[k]?).isSome && !false) = _; rw [hg]; rfl, ?_⟩
      intro a q
      cases q
      exact ho.2 y hg
end lay
