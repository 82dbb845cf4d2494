/-! ===== what a play scores, in the reference ===== -/
def AV (V : Nat → Int32) (f : Nat → Int32) : Prop := ∀ l, l < 8 → f l = V l
def AE (V : Nat → Int32) (f : Nat → Int32) : Prop := ∀ l, l < 8 → f (8 + l) = V l
def AP (P : Nat → Nat → Int32) (f : Nat → Int32) : Prop := ∀ r c, r < 7 → c < 7 → f (306 + (7 * r + c)) = P r c
theorem AP_sq {P : Nat → Nat → Int32} {f : Nat → Int32} (h : AP P f) {d a j : Nat} (ha : a < 7) (hj : j < 7) : f (306 + sq d a j) = PM P d a j := by
  unfold sq PM
  by_cases c : d = 0
  · rw [if_pos c, if_pos c, h a j ha hj]
  · rw [if_neg c, if_neg c, h j a hj ha]
def ltm (q : Int32) : Int32 := if q = 1 then 2 else if q = 2 then 3 else 1
theorem X10_letterTimes (q : Int32) : f_X10_letterTimes q = some (ltm q) := by
  unfold f_X10_letterTimes ltm
  split
  · rfl
  · split
    · rfl
    · rfl
theorem X10_wordTimes (q : Int32) : f_X10_wordTimes q = some (wfa q) := by
  unfold f_X10_wordTimes wfa
  split
  · rfl
  · split
    · rfl
    · rfl
theorem ltm_mul (V : Nat → Int32) (x : Nat) (q : Int32) : V x * ltm q = V x + xtr V x q ∧ V x * (ltm q - 1) = xtr V x q := by
  unfold ltm xtr
  by_cases c : q = 1
  · rw [if_pos c, if_pos c, show (2 : Int32) - 1 = 1 from rfl, Int32.mul_one, Int32.mul_comm, Int32.two_mul]
    exact ⟨rfl, rfl⟩
  · rw [if_neg c, if_neg c]
    by_cases c2 : q = 2
    · rw [if_pos c2, if_pos c2, show (3 : Int32) - 1 = 2 from rfl, show (3 : Int32) = 1 + 2 from rfl, Int32.mul_add, Int32.mul_one, Int32.mul_comm]
      exact ⟨rfl, rfl⟩
    · rw [if_neg c2, if_neg c2, show (1 : Int32) - 1 = 0 from rfl, Int32.mul_one, Int32.mul_zero, Int32.add_zero]
      exact ⟨rfl, rfl⟩
theorem X10_xpts_loop {V : Nat → Int32} {σ : St} (hV : AV V (ga σ 0)) {t : List Nat} (hW : HW t σ) (q : Int32) : ∀ (suf pre : List Nat) (n : Nat) (s : Int32), t = pre ++ suf → suf.length < n →
    f_X10_crossPoints_19 σ n q s (nI pre.length) = some ((s + vlW V suf) * wfa q) := by
  have h7 := hW.2.1.2
  intro suf
  induction suf with
  | nil =>
    intro pre n s e hn
    obtain ⟨n, rfl⟩ : ∃ j, n = j + 1 := ⟨n - 1, by simp at hn; omega⟩
    rw [List.append_nil] at e
    rw [f_X10_crossPoints_19, hW.1, if_pos (by rw [e]; exact nI_le (Nat.le_refl _) (by rw [e] at h7; omega)), X10_wordTimes, bno_s, vlW, Int32.add_zero]
  | cons x suf ih =>
    intro pre n s e hn
    have hlen : t.length = pre.length + (suf.length + 1) := by rw [e]; simp
    obtain ⟨n, rfl⟩ : ∃ j, n = j + 1 := ⟨n - 1, by simp at hn; omega⟩
    have hg : t[pre.length]? = some x := by rw [e]; simp
    have hx : x < 8 := hW.2.1.1 x (by rw [e]; simp)
    rw [f_X10_crossPoints_19, hW.1, if_neg (nI_ge (by omega) (by omega)), ixo_nI (by omega) (by omega), nI_clamp (by omega), hW.2.2 _ x hg, Int32.zero_add, ixo_nI (by omega) (by omega), lt_e, nI_clamp (by omega), hV x hx, nI_1, vlW, ← Int32.add_assoc]
    have := ih (pre ++ [x]) n (s + V x) (by rw [e]; simp) (by simp at hn; omega)
    rw [List.length_append] at this
    exact this
theorem X10_crossPoints {V : Nat → Int32} {σ : St} (hV : AV V (ga σ 0)) {t : List Nat} (hW : HW t σ) {x : Nat} (hx : x < 8) (q : Int32) : f_X10_crossPoints σ (nI x) q = some ((vlW V t + xtr V x q) * wfa q) := by
  unfold f_X10_crossPoints
  rw [Int32.zero_add, ixo_nI (by omega) (by omega), X10_letterTimes, bno_s, lt_e, nI_clamp (by omega), hV x hx, (ltm_mul V x q).2]
  have := X10_xpts_loop hV hW q t [] FU (xtr V x q) rfl (FU_big (by have := hW.2.1.2; omega))
  rw [Int32.add_comm (xtr V x q)] at this
  exact this
section
variable {V : Nat → Int32} {T : Bd} {P : Nat → Nat → Int32} {d a b : Nat} {t : List Nat}
theorem X10_score_loop (hd : d < 2) (ha : a < 7) (h7 : b + t.length ≤ 7) : ∀ (suf pre : List Nat) (n : Nat) (σ : St) (s f x : Int32) (c : Nat), AV V (ga σ 0) → AP P (ga σ 0) → BR T (ga σ 8) → HL t σ → t = pre ++ suf → suf.length < n → c + suf.length ≤ 7 →
    ∃ σ', f_X10_scoreOf_15 n σ (nI d) (nI (RW d a b)) (nI (CL d a b)) s f x (nI c) (nI pre.length) = some ((s + (vlW V suf + sS V T P d a (b + pre.length) suf)) * (f * sF T P d a (b + pre.length) suf) + (x + sX V T P d a (b + pre.length) suf) + bon (c + (frs (M T d a) (b + pre.length) suf).length), σ') ∧ FR [7, 10, 11, 12] [6] σ σ' := by
  intro suf
  induction suf with
  | nil =>
    intro pre n σ s f x c hV hP h hL e hn hc
    obtain ⟨n, rfl⟩ : ∃ j, n = j + 1 := ⟨n - 1, by simp at hn; omega⟩
    rw [List.append_nil] at e
    refine ⟨σ, ?_, FR.rfl' _ _ _⟩
    rw [f_X10_scoreOf_15, hL.1, if_pos (by rw [e]; exact nI_le (Nat.le_refl _) (by rw [e] at h7; omega)), sS, sF, sX, frs, vlW, Int32.add_zero 0, Int32.add_zero s, Int32.add_zero x, Int32.mul_one]
    have e1 : (nI c = (5 : Int32)) = (c = 5) := propext (nI_eq (b := 5) (by simp at hc; omega) (by omega))
    simp only [e1]
    unfold bon
    by_cases c5 : c = 5
    · rw [if_pos c5, if_pos (by simpa using c5)]
    · rw [if_neg c5, if_neg (by simpa using c5)]
  | cons y suf ih =>
    intro pre n σ s f x c hV hP h hL e hn hc
    have hlen : t.length = pre.length + (suf.length + 1) := by rw [e]; simp
    obtain ⟨n, rfl⟩ : ∃ j, n = j + 1 := ⟨n - 1, by simp at hn; omega⟩
    have hg : t[pre.length]? = some y := by rw [e]; simp
    have hy : y < 8 := hL.2.1.1 y (by rw [e]; simp)
    have hsq := sq_lt (d := d) ha (show b + pre.length < 7 by omega)
    have hBR := BR_sq h (d := d) ha (show b + pre.length < 7 by omega)
    have hrc := sq_rcm (d := d) ha (show b + pre.length < 7 by omega)
    have hPM := AP_sq hP (d := d) ha (show b + pre.length < 7 by omega)
    have e3 : (306 : Int32) + nI (sq d a (b + pre.length)) = nI (306 + sq d a (b + pre.length)) := nI_add 306 _
    have go : ∀ (σ1 : St) (s f x : Int32) (c : Nat), FR [7, 10, 11, 12] [6] σ σ1 → c + suf.length ≤ 7 → ∃ σ', f_X10_scoreOf_168 (f_X10_scoreOf_15 n) σ1 (nI d) (nI (RW d a b)) (nI (CL d a b)) s f x (nI c) (nI pre.length) = some ((s + (vlW V suf + sS V T P d a (b + pre.length + 1) suf)) * (f * sF T P d a (b + pre.length + 1) suf) + (x + sX V T P d a (b + pre.length + 1) suf) + bon (c + (frs (M T d a) (b + pre.length + 1) suf).length), σ') ∧ FR [7, 10, 11, 12] [6] σ σ' := by
      intro σ1 s f x c fr hc
      obtain ⟨σ', e1, f1⟩ := ih (pre ++ [y]) n σ1 s f x c (by rw [fr.2 0 (by decide)]; exact hV) (by rw [fr.2 0 (by decide)]; exact hP) (by rw [fr.2 8 (by decide)]; exact h) ⟨by rw [fr.1 14 (by decide)]; exact hL.1, hL.2.1, by rw [fr.2 13 (by decide)]; exact hL.2.2⟩ (by rw [e]; simp) (by simp at hn; omega) hc
      refine ⟨σ', ?_, fr.t f1⟩
      unfold f_X10_scoreOf_168
      rw [nI_1]
      rw [List.length_append] at e1
      exact e1
    rw [f_X10_scoreOf_15, hL.1, if_neg (nI_ge (by omega) (by omega)), X10_squareOf hd, bno_s, ixo_nI hsq (by omega), nI_clamp (by omega), hBR, e3, ixo_nI (by omega) (by omega), nI_clamp (by omega), hPM]
    unfold f_X10_scoreOf_60
    rw [ixo_nI (show pre.length < 7 by omega) (by omega), ixo_nI (show pre.length < 7 by omega) (by omega), nI_clamp (show pre.length < 2 ^ 31 by omega), hL.2.2 _ y hg, Int32.zero_add, ixo_nI (show y < 373 by omega) (by omega), ixo_nI (show y < 373 by omega) (by omega)]
    simp only [X10_letterTimes, X10_wordTimes, bno_s, lt_e]
    rw [nI_clamp (show y < 2 ^ 31 by omega), hV y hy, ixo_nI hsq (by omega), ixo_nI hsq (by omega), nI_clamp (show sq d a (b + pre.length) < 2 ^ 31 by omega), hBR, (ltm_mul V y (PM P d a (b + pre.length))).1, (ltm_mul V y 0).1]
    simp only [enc_m1 _ (fun y e => (M_ok h.1 e).2.2.2.2)]
    rw [sS, sF, sX, frs, vlW]
    cases hM : M T d a (b + pre.length : Nat) with
    | some z =>
      obtain ⟨σ', e1, f1⟩ := go σ (s + (V y + xtr V y 0)) (f * wfa 0) x c (FR.rfl' _ _ _) (by simp at hc; omega)
      rw [if_neg (by simp), if_neg (by simp)]
      refine ⟨σ', ?_, f1⟩
      rw [e1]
      have w0 : wfa 0 = 1 := rfl
      have x0 : xtr V y 0 = 0 := rfl
      rw [w0, x0, if_pos (by rfl), if_pos (by rfl), if_pos (by rfl), if_pos (by rfl), Int32.zero_add, Int32.zero_add, Int32.one_mul, Int32.mul_one, Int32.add_zero (V y)]
      have ea : s + V y + (vlW V suf + sS V T P d a (b + pre.length + 1) suf) = s + (V y + vlW V suf + sS V T P d a (b + pre.length + 1) suf) := by ac_rfl
      rw [ea]
    | none =>
      have hM2 : M T (1 - d) (b + pre.length : Nat) a = none := by rw [← M_turn hd]; exact hM
      obtain ⟨σ1, e1, hX, f1⟩ := X10_finds hd ha (show b + pre.length < 7 by omega) h
      have h1 : BR T (ga σ1 8) := by rw [f1.2 8 (by decide)]; exact h
      obtain ⟨σ2, e2, hW, f2⟩ := X10_takesCross hd ha (show b + pre.length < 7 by omega) hM2 hy h1 hX
      have f12 : FR [7, 10, 11, 12] [6] σ σ2 := f1.tr f2 (by decide) (by decide)
      have hV2 : AV V (ga σ2 0) := by rw [f12.2 0 (by decide)]; exact hV
      have hc2 := cxl_len h.1 (d := d) (j := b + pre.length) ha y
      have hX2 : gi σ2 12 = nI (cxl T d a (b + pre.length)) := by rw [f2.1 12 (by decide)]; exact hX.2.2
      have hg1 : ga σ1 13 pre.length = nI y := by rw [f1.2 13 (by decide)]; exact hL.2.2 _ y hg
      have hg2 : ga σ2 13 pre.length = nI y := by rw [f12.2 13 (by decide)]; exact hL.2.2 _ y hg
      rw [if_pos rfl, if_pos rfl, hrc.1, show nI (sq d a (b + pre.length)) - nI (RW d a (b + pre.length)) * 7 = nI (CL d a (b + pre.length)) by rw [← hrc.1]; exact hrc.2, e1, bno_s, ixo_nI (by omega) (by omega), hg1, e2, bno_s, hX2, ixo_nI (by omega) (by omega), hg2, X10_crossPoints hV2 hW hy, bno_s]
      have e4 : (nI (cxl T d a (b + pre.length)) ≤ (1 : Int32)) = (cxl T d a (b + pre.length) ≤ 1) := propext (nI_leI (b := 1) (by omega) (by omega))
      have hff : ¬ (false = true) := by decide
      simp only [e4, Option.isSome_none, if_neg hff]
      unfold f_X10_scoreOf_165
      rw [nI_1]
      have ex : xpt V T P d a (b + pre.length) y = if cxl T d a (b + pre.length) ≤ 1 then 0 else (vlW V (thr (M T (1 - d) (b + pre.length : Nat)) a y) + xtr V y (PM P d a (b + pre.length))) * wfa (PM P d a (b + pre.length)) := by
        unfold xpt
        rw [hc2.1]
        by_cases c3 : cxl T d a (b + pre.length) ≤ 1
        · rw [if_pos (by omega), if_pos c3]
        · rw [if_neg (by omega), if_neg c3]
      obtain ⟨σ', e5, f5⟩ := go σ2 (s + (V y + xtr V y (PM P d a (b + pre.length)))) (f * wfa (PM P d a (b + pre.length))) (x + xpt V T P d a (b + pre.length) y) (c + 1) f12 (by simp at hc; omega)
      refine ⟨σ', ?_, f5⟩
      have e6 : ∀ X Y : Option (Int32 × St), (X = f_X10_scoreOf_168 (f_X10_scoreOf_15 n) σ2 (nI d) (nI (RW d a b)) (nI (CL d a b)) (s + (V y + xtr V y (PM P d a (b + pre.length)))) (f * wfa (PM P d a (b + pre.length))) (x + 0) (nI (c + 1)) (nI pre.length)) → (Y = f_X10_scoreOf_168 (f_X10_scoreOf_15 n) σ2 (nI d) (nI (RW d a b)) (nI (CL d a b)) (s + (V y + xtr V y (PM P d a (b + pre.length)))) (f * wfa (PM P d a (b + pre.length))) (x + (vlW V (thr (M T (1 - d) (b + pre.length : Nat)) a y) + xtr V y (PM P d a (b + pre.length))) * wfa (PM P d a (b + pre.length))) (nI (c + 1)) (nI pre.length)) → (if cxl T d a (b + pre.length) ≤ 1 then X else Y) = f_X10_scoreOf_168 (f_X10_scoreOf_15 n) σ2 (nI d) (nI (RW d a b)) (nI (CL d a b)) (s + (V y + xtr V y (PM P d a (b + pre.length)))) (f * wfa (PM P d a (b + pre.length))) (x + xpt V T P d a (b + pre.length) y) (nI (c + 1)) (nI pre.length) := by
        intro X Y hX hY
        rw [ex]
        by_cases c3 : cxl T d a (b + pre.length) ≤ 1
        · rw [if_pos c3, if_pos c3, hX]
        · rw [if_neg c3, if_neg c3, hY]
      refine (e6 _ _ rfl rfl).trans (e5.trans ?_)
      rw [show c + 1 + (frs (M T d a) (b + pre.length + 1) suf).length = c + (y :: frs (M T d a) (b + pre.length + 1) suf).length by simp; omega]
      have ea : s + (V y + xtr V y (PM P d a (b + pre.length))) + (vlW V suf + sS V T P d a (b + pre.length + 1) suf) = s + (V y + vlW V suf + (xtr V y (PM P d a (b + pre.length)) + sS V T P d a (b + pre.length + 1) suf)) := by ac_rfl
      rw [ea, Int32.mul_assoc f, Int32.add_assoc x]
theorem X10_scoreOf (hd : d < 2) (ha : a < 7) (h7 : b + t.length ≤ 7) {σ : St} (hV : AV V (ga σ 0)) (hP : AP P (ga σ 0)) (h : BR T (ga σ 8)) (hL : HL t σ) :
    ∃ σ', f_X10_scoreOf σ (nI d) (nI (RW d a b)) (nI (CL d a b)) = some (scr V T P d a b t, σ') ∧ FR [7, 10, 11, 12] [6] σ σ' := by
  obtain ⟨σ', e, f⟩ := X10_score_loop hd ha h7 t [] FU σ 0 1 0 0 hV hP h hL rfl (FU_big (by omega)) (by omega)
  refine ⟨σ', ?_, f⟩
  rw [Int32.one_mul, Int32.zero_add, Int32.zero_add, Nat.zero_add] at e
  exact e
end
