/-! ===== what a play scores, on the class's side ===== -/
def xtr (V : Nat → Int32) (x : Nat) (q : Int32) : Int32 := if q = 1 then V x else if q = 2 then 2 * V x else 0
def wfa (q : Int32) : Int32 := if q = 3 then 2 else if q = 4 then 3 else 1
def PM (P : Nat → Nat → Int32) (d a b : Nat) : Int32 := if d = 0 then P a b else P b a
def xpt (V : Nat → Int32) (T : Bd) (P : Nat → Nat → Int32) (d a j x : Nat) : Int32 :=
  if (thr (M T (1 - d) j) a x).length = 1 then 0 else (vlW V (thr (M T (1 - d) j) a x) + xtr V x (PM P d a j)) * wfa (PM P d a j)
def sS (V : Nat → Int32) (T : Bd) (P : Nat → Nat → Int32) (d a : Nat) : Nat → List Nat → Int32
  | _, [] => 0
  | j, x :: u => (if (M T d a j).isSome then 0 else xtr V x (PM P d a j)) + sS V T P d a (j + 1) u
def sF (T : Bd) (P : Nat → Nat → Int32) (d a : Nat) : Nat → List Nat → Int32
  | _, [] => 1
  | j, _ :: u => (if (M T d a j).isSome then 1 else wfa (PM P d a j)) * sF T P d a (j + 1) u
def sX (V : Nat → Int32) (T : Bd) (P : Nat → Nat → Int32) (d a : Nat) : Nat → List Nat → Int32
  | _, [] => 0
  | j, x :: u => (if (M T d a j).isSome then 0 else xpt V T P d a j x) + sX V T P d a (j + 1) u
def bon (n : Nat) : Int32 := if n = 5 then 20 else 0
def scr (V : Nat → Int32) (T : Bd) (P : Nat → Nat → Int32) (d a b : Nat) (u : List Nat) : Int32 :=
  (vlW V u + sS V T P d a b u) * sF T P d a b u + sX V T P d a b u + bon (frs (M T d a) b u).length
def PC (P : Nat → Nat → Int32) (σ : St) : Prop := ∀ r c, r < 7 → c < 7 → ga σ 2 (8 * r + c) = P r c
section score
variable {D : List (List Nat)} {T : Bd} {V : Nat → Int32} {P : Nat → Nat → Int32} {σ : St}
theorem sq_prem (h : PC P σ) {d a j : Nat} (ha : a < 7) (hj : j < 7) : f_X0_premium σ (iI (adr d a j)) = some (PM P d a j) := by
  have ⟨a1, a2⟩ := adr_lt (d := d) ha hj
  unfold f_X0_premium
  simp (disch := omega) only [iI_lt0, L64, iI_le]
  rw [if_neg (by omega), if_neg (by omega), ixo_iI (by omega) (by omega) (by omega), iI_nat (by omega) (by omega)]
  unfold PM
  by_cases c : d = 0
  · rw [if_pos c, show (adr d a j).toNat = 8 * a + j by unfold adr; rw [if_pos c]; omega, h a j ha hj]
  · rw [if_neg c, show (adr d a j).toNat = 8 * j + a by unfold adr; rw [if_neg c]; omega, h j a hj ha]
theorem X5_extraOf (hV : VC V σ) {x : Nat} (hx : x < 8) (q : Int32) : f_X5_extraOf σ (nI x) q = some (xtr V x q) := by
  unfold f_X5_extraOf xtr
  rw [X7_value hV hx, bno_s, bno_s]
  split
  · rfl
  · split
    · rfl
    · rfl
theorem X5_wordFactor (q : Int32) : f_X5_wordFactor q = some (wfa q) := by
  unfold f_X5_wordFactor wfa
  split
  · rfl
  · split
    · rfl
    · rfl
theorem X5_crossPoints (h : OC T σ) (hV : VC V σ) (hP : PC P σ) {d a b j x : Nat} (hd : d < 2) (ha : a < 7) (hb : b < 7) (hj : j < 7) (hx : x < 8) : f_X5_crossPointsOf σ (iI (adr d a j)) (nI x) (nI (stn d a b)) = some (xpt V T P d a j x) := by
  have hok := thr_ok h.1 (e := 1 - d) (b := j) (p := a) hx
  unfold f_X5_crossPointsOf xpt
  rw [st_cs d hd a ha b hb, bno_s, X5_through h hd ha hj hx, bno_s, X8_length hok.1 hok.2, bno_s]
  have h7 := hok.2
  have e1 : (nI (thr (M T (1 - d) j) a x).length = (1 : Int32)) = ((thr (M T (1 - d) j) a x).length = 1) := propext (nI_eq (b := 1) (by omega) (by omega))
  simp only [e1]
  by_cases c : (thr (M T (1 - d) j) a x).length = 1
  · rw [if_pos c, if_pos c]
  · rw [if_neg c, if_neg c, sq_prem hP ha hj, bno_s, X7_valueOfWord hV hok.1 hok.2, bno_s, X5_extraOf hV hx, bno_s, X5_wordFactor, bno_s]
theorem X5_points_loop (h : OC T σ) (hV : VC V σ) (hP : PC P σ) {d a b : Nat} (hd : d < 2) (ha : a < 7) (hb : b < 7) {t : List Nat} (h8 : lt8 t) (h7 : b + t.length ≤ 7) : ∀ (suf pre : List Nat) (n : Nat) (s f x : Int32) (c : Nat), t = pre ++ suf → suf.length < n → c + suf.length ≤ 7 →
    f_X5_pointsOf_54 σ n (nI (stn d a b)) (nI (pk t)) s f x (nI c) (iI (adr d a (b + pre.length : Nat))) (nI t.length) (nI pre.length) = some ((s + sS V T P d a (b + pre.length) suf) * (f * sF T P d a (b + pre.length) suf) + (x + sX V T P d a (b + pre.length) suf) + bon (c + (frs (M T d a) (b + pre.length) suf).length)) := by
  intro suf
  induction suf with
  | nil =>
    intro pre n s f x c e hn hc
    obtain ⟨n, rfl⟩ : ∃ j, n = j + 1 := ⟨n - 1, by simp at hn; omega⟩
    rw [List.append_nil] at e
    rw [f_X5_pointsOf_54, if_pos (by rw [e]; exact nI_le (Nat.le_refl _) (by rw [e] at h7; omega)), sS, sF, sX, frs, Int32.add_zero s, Int32.add_zero x, Int32.mul_one]
    have e1 : (nI c = (5 : Int32)) = (c = 5) := propext (nI_eq (b := 5) (by simp at hc; omega) (by omega))
    simp only [e1]
    unfold bon
    by_cases c5 : c = 5
    · rw [if_pos c5, if_pos (by simpa using c5)]
    · rw [if_neg c5, if_neg (by simpa using c5)]
  | cons y suf ih =>
    intro pre n s f x c e hn hc
    have hlen : t.length = pre.length + (suf.length + 1) := by rw [e]; simp
    obtain ⟨n, rfl⟩ : ∃ j, n = j + 1 := ⟨n - 1, by simp at hn; omega⟩
    have hy : y < 8 := h8 y (by rw [e]; simp)
    have go : ∀ s f x c, c + suf.length ≤ 7 → f_X5_pointsOf_138 (f_X5_pointsOf_54 σ n) σ (nI (stn d a b)) (nI (pk t)) s f x (nI c) (iI (adr d a (b + pre.length : Nat))) (nI t.length) (nI pre.length) = some ((s + sS V T P d a (b + pre.length + 1) suf) * (f * sF T P d a (b + pre.length + 1) suf) + (x + sX V T P d a (b + pre.length + 1) suf) + bon (c + (frs (M T d a) (b + pre.length + 1) suf).length)) := by
      intro s f x c hc
      unfold f_X5_pointsOf_138
      rw [st_st d hd a ha b hb, bno_s, adr_suc, nI_1]
      have := ih (pre ++ [y]) n s f x c (by rw [e]; simp) (by simp at hn; omega) hc
      rw [List.length_append] at this
      exact this
    rw [f_X5_pointsOf_54, if_neg (nI_ge (by omega) (by omega)), sq_tile h ha (by omega), bno_s, if_b, sS, sF, sX, frs]
    by_cases c2 : (M T d a (b + pre.length : Nat)).isSome = true
    · rw [if_pos c2, if_pos c2, if_pos c2, if_pos c2, if_pos c2, go s f x c (by simp at hc; omega), Int32.zero_add, Int32.one_mul, Int32.zero_add]
    · rw [if_neg c2, if_neg c2, if_neg c2, if_neg c2, if_neg c2, X8_letter (a := y) h8 (by omega) (by rw [e]; simp), bno_s, sq_prem hP ha (by omega), bno_s, X5_extraOf hV hy, bno_s, X5_wordFactor, bno_s, X5_crossPoints h hV hP hd ha hb (by omega) hy, bno_s, nI_1, go _ _ _ (c + 1) (by simp at hc; omega)]
      rw [Int32.add_assoc s, Int32.mul_assoc f, Int32.add_assoc x]
      rw [show c + 1 + (frs (M T d a) (b + pre.length + 1) suf).length = c + (y :: frs (M T d a) (b + pre.length + 1) suf).length by simp; omega]
theorem X5_pointsOf (hD : CD D σ) (h : OC T σ) (hV : VC V σ) (hP : PC P σ) {d a b w : Nat} (hd : d < 2) (ha : a < 7) (hb : b < 7) {u : List Nat} (hw : D[w]? = some u) (hl : b + u.length ≤ 7) : f_X5_pointsOf σ (nI (stn d a b * 32 + w)) = some (scr V T P d a b u) := by
  have hlt := (List.getElem?_eq_some_iff.mp hw).1
  have h30 := hD.2.1
  obtain ⟨⟨h8, h7⟩, h2⟩ := hD.2.2.1 u (List.mem_of_getElem? hw)
  have e := pc_all _ (stn_lt hd ha hb) w (by omega)
  unfold f_X5_pointsOf
  rw [e.2.1, bno_s, e.2.2, bno_s, X1_word hD hw, bno_s, X7_valueOfWord hV h8 h7, bno_s, st_sq d hd a ha b hb, bno_s, X8_length h8 h7, bno_s]
  have := X5_points_loop h hV hP hd ha hb h8 hl u [] FU (vlW V u) 1 0 0 rfl (FU_big (by omega)) (by omega)
  rw [Int32.one_mul, Int32.zero_add, Nat.zero_add] at this
  exact this
end score
