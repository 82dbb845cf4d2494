/-! ===== calls that set something, and undo ===== -/
def nvV (V : Nat → Int32) (l : Nat) (v : Int32) : Nat → Int32 := fun i => if i = l then v else V i
def nvP (P : Nat → Nat → Int32) (r c : Nat) (v : Int32) : Nat → Nat → Int32 := fun x y => if x = r ∧ y = c then v else P x y
section
variable {D : List (List Nat)} {V E : Nat → Int32} {P : Nat → Nat → Int32} {S : Nat → Int32} {t : List Nat} {T : Bd} {R : Nat → Nat → Nat} {X : S2} {m : St}
theorem INV_save (h : INV D V E P S t T R X m) : ∃ X' m', f_X3_save X = some X' ∧ f_X10_save m = some m' ∧ X'.1 = X.1 ∧ INV D V E P S t T R X' m' ∧ gi m' 3 = gi m 3 := by
  obtain ⟨a1, a2, a3, a4, a5, a6⟩ := h
  obtain ⟨X', m', e1, e2, e3, e4, f⟩ := X3_save a6 ⟨D, V, E, P, S, t, T, R, a1, a2, a4, a5⟩
  refine ⟨X', m', e1, e2, e3, ⟨by rw [e3]; exact a1, by rw [f.2 0 (by decide)]; exact a2, ⟨by rw [f.1 5 (by decide)]; exact a3.1, a3.2.1, by rw [f.2 4 (by decide)]; exact a3.2.2⟩, a4, a5, e4⟩, f.1 3 (by decide)⟩
theorem M_setLetter (h : REL X m) (a b c : Int32) : ∃ r X' q m', f_X9_setLetter X a b c = some (r, X') ∧ f_X10_setLetter m a b c = some (q, m') ∧ AGR [0] r q m' ∧ REL X' m' := by
  obtain ⟨D, V, E, P, S, t, T, R, h⟩ := h
  obtain ⟨z, z1, z2, rfl⟩ := iI_of b
  obtain ⟨w, w1, w2, rfl⟩ := iI_of c
  have i1 := rIn z 1 10 z1 z2 1 10 rfl rfl
  have i2 := rIn w (-20) 20 w1 w2 (-20) 20 (by decide) rfl
  have k1 : (iI z < (1 : Int32)) = (z < 1) := by rw [L1, iI_lt z1 z2 (by omega) (by omega)]
  have k2 : (iI z ≤ (10 : Int32)) = (z ≤ 10) := by rw [L10, iI_le z1 z2 (by omega) (by omega)]
  have k3 : (iI w < (-20 : Int32)) = (w < -20) := by rw [L20, iI_neg, iI_lt w1 w2 (by omega) (by omega)]
  have k4 : (iI w ≤ (20 : Int32)) = (w ≤ 20) := by rw [L20, iI_le w1 w2 (by omega) (by omega)]
  unfold f_X9_setLetter f_X10_setLetter f_X10_setLetter_38 f_X10_setLetter_39 f_X9_setLetter_15 f_X9_setLetter_37
  rcases rL a with ⟨l, hl, rfl, e1, e2⟩ | ⟨e1, e2⟩
  · simp only [e1, e2, i1, i2, exq_i, exq_n, bno_s, lt_e, b2t, b2f, g_ttt, g_f, g_tf, g_ttf, if_b, it_, ff_, if_true, if_false, i10, i00, k1, k2, k3, k4]
    by_cases c1 : z < 1
    · rw [if_pos c1, decide_eq_false (by omega), ff_]
      exact ⟨_, _, _, _, rfl, rfl, Or.inr ⟨0, rfl, by simp, rfl⟩, ⟨D, V, E, P, S, t, T, R, INV_thr h 1⟩⟩
    · rw [if_neg c1]
      by_cases c2 : z ≤ 10
      · rw [if_pos c2, decide_eq_true (show 1 ≤ z ∧ z ≤ 10 by omega), it_]
        by_cases c3 : w < -20
        · rw [if_pos c3, decide_eq_false (by omega), ff_]
          exact ⟨_, _, _, _, rfl, rfl, Or.inr ⟨0, rfl, by simp, rfl⟩, ⟨D, V, E, P, S, t, T, R, INV_thr h 1⟩⟩
        · rw [if_neg c3]
          by_cases c4 : w ≤ 20
          · rw [if_pos c4, decide_eq_true (show -20 ≤ w ∧ w ≤ 20 by omega), it_]
            obtain ⟨X', m', e5, e6, e7, hi, g3⟩ := INV_save (INV_thr h 0)
            have e6' : f_X10_save (si m 3 0) = some m' := e6
            obtain ⟨b1, b2, b3, b4, b5, b6, b7, b8⟩ := hi.1
            have es : ∀ k : Nat, (0 : Int32) + nI k = nI k := fun k => Int32.zero_add _
            have e8 : (8 : Int32) + nI l = nI (8 + l) := nI_add 8 l
            simp only [e5, e6', bno_s]
            unfold f_X7_changeLetter
            rw [X7_value b2 hl, X9_isLetter_n hl, es, e8]
            simp only [exq_i, exq_n, bno_s, lt_e, b2t, b2f, g_ttt, g_f, g_tf, g_ttf, if_b, it_, ff_, if_true, if_false]
            rw [ixo_nI hl (by omega), ixo_nI hl (by omega), ixo_nI (show l < 373 by omega) (by omega), ixo_nI (show l < 373 by omega) (by omega), ixo_nI (by omega) (by omega), nI_clamp (show l < 2 ^ 31 by omega), nI_clamp (by omega)]
            obtain ⟨_, a2, a3, a4, a5, a6⟩ := hi
            have hold : ga m' 0 l = V l := a2.2.1 l hl
            refine ⟨_, _, _, _, rfl, rfl, Or.inl ⟨by rw [hold], ?_⟩, ⟨D, nvV V l (iI z), nvV E l (iI w), P, S, t, T, R, ⟨b1, ?_, ?_, b4, b5, b6, b7, b8⟩, ?_, a3, ?_, a5, a6⟩⟩
            · show gi m' 3 = 0
              rw [g3]
              rfl
            · intro k hk
              show (if k = l then iI z else ga X'.1 3 k) = _
              unfold nvV
              by_cases c5 : k = l
              · rw [if_pos c5, if_pos c5]
              · rw [if_neg c5, if_neg c5]; exact b2 k hk
            · intro k hk
              show (if k = l then iI w else ga X'.1 4 k) = _
              unfold nvV
              by_cases c5 : k = l
              · rw [if_pos c5, if_pos c5]
              · rw [if_neg c5, if_neg c5]; exact b3 k hk
            · have hup : ∀ j, ga (sa (sa m' 0 (upd (ga m' 0) l (iI z))) 0 (upd (ga (sa m' 0 (upd (ga m' 0) l (iI z))) 0) (8 + l) (iI w))) 0 j = if j = 8 + l then iI w else if j = l then iI z else ga m' 0 j := fun j => rfl
              obtain ⟨d1, d2, d3, d4, d5, d6, d7⟩ := a2
              refine ⟨AD_cong d1 (fun i h1 h2 => by rw [hup, if_neg (by omega), if_neg (by omega)]), ?_, ?_, AP_cong d4 (fun i h1 h2 => by rw [hup, if_neg (by omega), if_neg (by omega)]), AS_cong d5 (fun i h1 h2 => by rw [hup, if_neg (by omega), if_neg (by omega)]), AT_cong d6 (fun i h1 h2 => by rw [hup, if_neg (by omega), if_neg (by omega)]), AR_cong d7 (fun i h1 h2 => by rw [hup, if_neg (by omega), if_neg (by omega)])⟩
              · intro k hk
                rw [hup, if_neg (by omega)]
                unfold nvV
                by_cases c5 : k = l
                · rw [if_pos c5, if_pos c5]
                · rw [if_neg c5, if_neg c5]; exact d2 k hk
              · intro k hk
                rw [hup]
                unfold nvV
                by_cases c5 : k = l
                · rw [if_pos (by omega), if_pos c5]
                · rw [if_neg (by omega), if_neg (by omega), if_neg c5]; exact d3 k hk
            · intro k hk
              unfold nvV
              by_cases c5 : k = l
              · rw [if_pos c5]
                exact ⟨z.toNat, by rw [iI_nI, Int.toNat_of_nonneg (by omega)], by omega, by omega⟩
              · rw [if_neg c5]; exact a4 k hk
          · rw [if_neg c4, decide_eq_false (by omega), ff_]
            exact ⟨_, _, _, _, rfl, rfl, Or.inr ⟨0, rfl, by simp, rfl⟩, ⟨D, V, E, P, S, t, T, R, INV_thr h 1⟩⟩
      · rw [if_neg c2, decide_eq_false (by omega), ff_]
        exact ⟨_, _, _, _, rfl, rfl, Or.inr ⟨0, rfl, by simp, rfl⟩, ⟨D, V, E, P, S, t, T, R, INV_thr h 1⟩⟩
  · simp only [e1, e2, exq_i, exq_n, bno_s, lt_e, b2t, b2f, g_ttt, g_f, g_tf, g_ttf, if_b, it_, ff_, if_true, if_false, i10, i00]
    exact ⟨_, _, _, _, rfl, rfl, Or.inr ⟨0, rfl, by simp, rfl⟩, ⟨D, V, E, P, S, t, T, R, INV_thr h 1⟩⟩
theorem adr0 (r c : Nat) : iI (adr 0 r c) = nI (8 * r + c) := by
  unfold adr
  rw [if_pos rfl, iI_nI]
  congr 1
theorem M_setPremium (h : REL X m) (a b c : Int32) : ∃ r X' q m', f_X9_setPremium X a b c = some (r, X') ∧ f_X10_setPremium m a b c = some (q, m') ∧ AGR [2, 0] r q m' ∧ REL X' m' := by
  obtain ⟨D, V, E, P, S, t, T, R, h⟩ := h
  obtain ⟨z, z1, z2, rfl⟩ := iI_of c
  have i1 := rIn z 0 4 z1 z2 0 4 rfl rfl
  unfold f_X9_setPremium f_X10_setPremium f_X9_setPremium_14
  rcases rQ a b with ⟨r, c, hr, hc, rfl, rfl, e1, e2⟩ | ⟨e1, e2⟩
  · simp (disch := omega) only [e1, e2, i1, exq_i, exq_n, bno_s, lt_e, b2t, b2f, g_ttt, g_f, g_tf, g_ttf, if_b, it_, ff_, if_true, if_false, i10, i00, iI_lt0, L4, iI_le]
    by_cases c1 : z < 0
    · rw [if_pos c1, decide_eq_false (by omega)]
      simp only [exq_i, exq_n, bno_s, lt_e, b2t, b2f, g_ttt, g_f, g_tf, g_ttf, if_b, it_, ff_, if_true, if_false, i10, i00]
      exact ⟨_, _, _, _, rfl, rfl, Or.inr ⟨0, rfl, by simp, rfl⟩, ⟨D, V, E, P, S, t, T, R, INV_thr h 2⟩⟩
    · rw [if_neg c1]
      by_cases c2 : z ≤ 4
      · rw [if_pos c2, decide_eq_true (by omega)]
        obtain ⟨X', m', e5, e6, e7, hi, g3⟩ := INV_save (INV_thr h 0)
        have e6' : f_X10_save (si m 3 0) = some m' := e6
        obtain ⟨b1, b2, b3, b4, b5, b6, b7, b8⟩ := hi.1
        have hpr := sq_prem (d := 0) b4 hr hc
        rw [adr0] at hpr
        have hchg : f_X0_changePremium X'.1 (nI (8 * r + c)) (iI z) = some (sa X'.1 2 (upd (ga X'.1 2) (8 * r + c) (iI z))) := by
          unfold f_X0_changePremium
          have k64 : ¬ (64 : Int32) ≤ nI (8 * r + c) := nI_ge (b := 64) (by omega) (by omega)
          rw [if_neg (nI_pos (by omega)), if_neg k64, ixo_nI (by omega) (by omega), lt_e, nI_clamp (by omega)]
        have ea : (306 : Int32) + 7 * nI r + nI c = nI (306 + (7 * r + c)) := by
          simp only [L306, L7, iI_nI, iI_mul, iI_add]
          congr 1 <;> omega
        simp only [exq_i, exq_n, bno_s, lt_e, b2t, b2f, g_ttt, g_f, g_tf, g_ttf, if_b, it_, ff_, if_true, if_false, i10, i00, e5, e6', X9_squareOf hr hc, adr0, hpr, hchg, ea]
        rw [ixo_nI (by omega) (by omega), ixo_nI (by omega) (by omega), nI_clamp (by omega)]
        obtain ⟨_, a2, a3, a4, a5, a6⟩ := hi
        have hold : ga m' 0 (306 + (7 * r + c)) = P r c := a2.2.2.2.1 r c hr hc
        refine ⟨_, _, _, _, rfl, rfl, Or.inl ⟨by rw [hold]; rfl, ?_⟩, ⟨D, V, E, nvP P r c (iI z), S, t, T, R, ⟨b1, b2, b3, ?_, b5, b6, b7, b8⟩, ?_, a3, a4, a5, a6⟩⟩
        · show gi m' 3 = 0
          rw [g3]
          rfl
        · intro x y hx hy
          show (if 8 * x + y = 8 * r + c then iI z else ga X'.1 2 (8 * x + y)) = _
          unfold nvP
          by_cases k : x = r ∧ y = c
          · rw [if_pos (by omega), if_pos k]
          · rw [if_neg (by omega), if_neg k]; exact b4 x y hx hy
        · have hup : ∀ j, ga (sa m' 0 (upd (ga m' 0) (306 + (7 * r + c)) (iI z))) 0 j = if j = 306 + (7 * r + c) then iI z else ga m' 0 j := fun j => rfl
          obtain ⟨d1, d2, d3, d4, d5, d6, d7⟩ := a2
          refine ⟨AD_cong d1 (fun i h1 h2 => by rw [hup, if_neg (by omega)]), AV_cong d2 (fun i h1 => by rw [hup, if_neg (by omega)]), AE_cong d3 (fun i h1 h2 => by rw [hup, if_neg (by omega)]), ?_, AS_cong d5 (fun i h1 h2 => by rw [hup, if_neg (by omega)]), AT_cong d6 (fun i h1 h2 => by rw [hup, if_neg (by omega)]), AR_cong d7 (fun i h1 h2 => by rw [hup, if_neg (by omega)])⟩
          intro x y hx hy
          rw [hup]
          unfold nvP
          by_cases k : x = r ∧ y = c
          · rw [if_pos (by omega), if_pos k]
          · rw [if_neg (by omega), if_neg k]; exact d4 x y hx hy
      · rw [if_neg c2, decide_eq_false (by omega)]
        simp only [exq_i, exq_n, bno_s, lt_e, b2t, b2f, g_ttt, g_f, g_tf, g_ttf, if_b, it_, ff_, if_true, if_false, i10, i00]
        exact ⟨_, _, _, _, rfl, rfl, Or.inr ⟨0, rfl, by simp, rfl⟩, ⟨D, V, E, P, S, t, T, R, INV_thr h 2⟩⟩
  · simp only [e1, e2, i1, exq_i, exq_n, bno_s, lt_e, b2t, b2f, g_ttt, g_f, g_tf, g_ttf, if_b, it_, ff_, if_true, if_false, i10, i00]
    exact ⟨_, _, _, _, rfl, rfl, Or.inr ⟨2, rfl, by simp, rfl⟩, ⟨D, V, E, P, S, t, T, R, INV_thr h 1⟩⟩
/-- the reference's new rack -/
theorem X10_rack_zero {p : Nat} (hp : p < 2) : ∀ (w k n : Nat) (σ : St), k + w = 8 → w < n → (∀ l, l < k → ga σ 0 (355 + 8 * p + l) = 0) →
    ∃ σ', f_X10_setRack_33 n σ (nI p) (nI k) = f_X10_setRack_63 FU σ' (nI p) 0 ∧ (∀ l, l < 8 → ga σ' 0 (355 + 8 * p + l) = 0) ∧ (∀ j, j < 355 + 8 * p ∨ 363 + 8 * p ≤ j → ga σ' 0 j = ga σ 0 j) ∧ FR [] [0] σ σ' := by
  have ep : (355 : Int32) + 8 * nI p = nI (355 + 8 * p) := by
    simp only [L355, L8, iI_nI, iI_mul, iI_add]
    congr 1 <;> omega
  intro w
  induction w with
  | zero =>
    intro k n σ hk hn hz
    obtain ⟨n, rfl⟩ : ∃ j, n = j + 1 := ⟨n - 1, by omega⟩
    have : k = 8 := by omega
    subst this
    rw [f_X10_setRack_33, if_pos (by decide)]
    exact ⟨σ, rfl, hz, fun _ _ => rfl, FR.rfl' _ _ _⟩
  | succ w ih =>
    intro k n σ hk hn hz
    obtain ⟨n, rfl⟩ : ∃ j, n = j + 1 := ⟨n - 1, by omega⟩
    have c : ¬ (8 : Int32) ≤ nI k := nI_ge (b := 8) (by omega) (by omega)
    rw [f_X10_setRack_33, if_neg c, ep, nI_add, ixo_nI (by omega) (by omega), lt_e, nI_clamp (by omega), nI_1]
    obtain ⟨σ', e, r1, r2, f⟩ := ih (k + 1) n (sa σ 0 (upd (ga σ 0) (355 + 8 * p + k) 0)) (by omega) (by omega) (by
      intro l hl
      show (if 355 + 8 * p + l = 355 + 8 * p + k then 0 else ga σ 0 (355 + 8 * p + l)) = 0
      by_cases c2 : l = k
      · rw [if_pos (by omega)]
      · rw [if_neg (by omega)]; exact hz l (by omega))
    refine ⟨σ', e, r1, ?_, (FR_sa σ 0 _).t f⟩
    intro j hj
    rw [r2 j hj]
    show (if j = 355 + 8 * p + k then 0 else ga σ 0 j) = _
    rw [if_neg (by omega)]
theorem X10_rack_fill {p : Nat} (hp : p < 2) : ∀ (suf pre : List Nat) (n : Nat) (σ : St), TX t σ → t = pre ++ suf → suf.length < n → (∀ l, l < 8 → ga σ 0 (355 + 8 * p + l) = nI (pre.count l)) →
    ∃ σ', f_X10_setRack_63 n σ (nI p) (nI pre.length) = some (nI t.length, σ') ∧ (∀ l, l < 8 → ga σ' 0 (355 + 8 * p + l) = nI (t.count l)) ∧ (∀ j, j < 355 + 8 * p ∨ 363 + 8 * p ≤ j → ga σ' 0 j = ga σ 0 j) ∧ gi σ' 5 = 0 ∧ FR [5] [0] σ σ' := by
  have ep : (355 : Int32) + 8 * nI p = nI (355 + 8 * p) := by
    simp only [L355, L8, iI_nI, iI_mul, iI_add]
    congr 1 <;> omega
  intro suf
  induction suf with
  | nil =>
    intro pre n σ h e hn hz
    obtain ⟨n, rfl⟩ : ∃ j, n = j + 1 := ⟨n - 1, by simp at hn; omega⟩
    have h7 := h.2.1.2
    rw [List.append_nil] at e
    rw [f_X10_setRack_63, h.1, if_pos (by rw [e]; exact nI_le (Nat.le_refl _) (by rw [e] at h7; omega)), lt_e]
    exact ⟨_, rfl, by rw [e]; exact hz, fun _ _ => rfl, rfl, (FR_si σ 5 _).mo (by decide) (by decide)⟩
  | cons x suf ih =>
    intro pre n σ h e hn hz
    have h7 := h.2.1.2
    have hlen : t.length = pre.length + (suf.length + 1) := by rw [e]; simp
    obtain ⟨n, rfl⟩ : ∃ j, n = j + 1 := ⟨n - 1, by simp at hn; omega⟩
    have hx : x < 8 := h.2.1.1 x (by rw [e]; simp)
    have hc : pre.count x ≤ pre.length := List.count_le_length
    rw [f_X10_setRack_63, h.1, if_neg (nI_ge (by omega) (by omega)), ixo_nI (by omega) (by omega), nI_clamp (show pre.length < 2 ^ 31 by omega), h.2.2 _ x (by rw [e]; simp), ep, nI_add, ixo_nI (by omega) (by omega), ixo_nI (by omega) (by omega), lt_e, nI_clamp (by omega), hz x hx, nI_1, nI_1]
    obtain ⟨σ', e1, r1, r2, r3, f⟩ := ih (pre ++ [x]) n (sa σ 0 (upd (ga σ 0) (355 + 8 * p + x) (nI (pre.count x + 1)))) h (by rw [e]; simp) (by simp at hn; omega) (by
      intro l hl
      show (if 355 + 8 * p + l = 355 + 8 * p + x then nI (pre.count x + 1) else ga σ 0 (355 + 8 * p + l)) = _
      by_cases c2 : l = x
      · rw [if_pos (by omega), c2, List.count_append]
        simp
      · rw [if_neg (by omega), hz l hl, List.count_append, List.count_eq_zero_of_not_mem (show l ∉ [x] by simpa using c2)]
        rfl)
    rw [List.length_append] at e1
    refine ⟨σ', e1, r1, ?_, r3, ((FR_sa σ 0 _).mo (by decide) (by decide)).t f⟩
    intro j hj
    rw [r2 j hj]
    show (if j = 355 + 8 * p + x then _ else ga σ 0 j) = _
    rw [if_neg (by omega)]
theorem M_setRack (h : REL X m) (a : Int32) : ∃ r X' q m', f_X9_setRack X a = some (r, X') ∧ f_X10_setRack m a = some (q, m') ∧ AGR [2, 1] r q m' ∧ REL X' m' := by
  obtain ⟨D, V, E, P, S, t, T, R, h⟩ := h
  have ht := (INV_ok h).1
  have h8 := ht.1
  have h7 := ht.2
  have hx := h.1.2.2.2.2.2.1
  have h5 := h.2.2.1.1
  have e5 : ((5 : Int32) < nI t.length) = (5 < t.length) := propext (nI_ltI (a := 5) (by omega) (by omega))
  have e5' : (nI t.length ≤ (5 : Int32)) = (t.length ≤ 5) := propext (nI_leI (b := 5) (by omega) (by omega))
  unfold f_X9_setRack f_X10_setRack f_X10_setRack_18
  rcases rP a with ⟨p, hp, rfl, e1, e2⟩ | ⟨e1, e2⟩
  · simp only [e1, e2, h5, hx, X8_length h8 h7, exq_i, exq_n, bno_s, lt_e, b2t, b2f, g_ttt, g_f, g_tf, g_ttf, if_b, it_, ff_, if_true, if_false, i10, i00, e5, e5']
    by_cases c : t.length ≤ 5
    · rw [if_pos c, if_neg (by omega)]
      obtain ⟨X', m', q1, q2, q3, hi, g3⟩ := INV_save (INV_thr h 0)
      have q2' : f_X10_save (si m 3 0) = some m' := q2
      have hx' : gi X'.1 0 = nI (pk t) := by rw [q3]; exact hx
      obtain ⟨σ1, k1, k2, k3, k4, k5⟩ := X7_changeRack hi.1 hp (okR_rk h8 c)
      obtain ⟨m1, r1, r2, r3, f1⟩ := X10_rack_zero hp 8 0 FU m' (by omega) (FU_big (by omega)) (by intro l hl; omega)
      have r1' : f_X10_setRack_33 FU m' (nI p) 0 = _ := r1
      have hT1 : TX t m1 := ⟨by rw [f1.1 5 (by decide)]; exact hi.2.2.1.1, hi.2.2.1.2.1, by rw [f1.2 4 (by decide)]; exact hi.2.2.1.2.2⟩
      obtain ⟨m2, s1, s2, s3, s4, f2⟩ := X10_rack_fill hp t [] FU m1 hT1 rfl (FU_big (by omega)) (fun l hl => r2 l hl)
      have s1' : f_X10_setRack_63 FU m1 (nI p) 0 = _ := s1
      simp only [q1, q2', hx', X4_of h8 c, k1, r1', s1', exq_i, exq_n, bno_s, lt_e, b2t, b2f, g_ttt, g_f, g_tf, g_ttf, if_b, it_, ff_, if_true, if_false]
      refine ⟨_, _, _, _, rfl, rfl, Or.inl ⟨rfl, ?_⟩, ⟨D, V, E, P, S, [], T, updR R p (rk t), ?_, ?_, ?_, hi.2.2.2.1, hi.2.2.2.2.1, ?_⟩⟩
      · rw [f2.1 3 (by decide), f1.1 3 (by decide), g3]
        rfl
      · obtain ⟨b1, b2, b3, b4, b5, b6, b7, b8⟩ := k2
        exact ⟨b1, b2, b3, b4, b5, rfl, b7, b8⟩
      · obtain ⟨d1, d2, d3, d4, d5, d6, d7⟩ := hi.2.1
        have hs : ∀ j, j < 355 + 8 * p ∨ 363 + 8 * p ≤ j → ga m2 0 j = ga m' 0 j := fun j hj => by rw [s3 j hj, r3 j hj]
        refine ⟨AD_cong d1 (fun i h1 h2 => hs i (by omega)), AV_cong d2 (fun i h1 => hs i (by omega)), AE_cong d3 (fun i h1 h2 => hs i (by omega)), AP_cong d4 (fun i h1 h2 => hs i (by omega)), AS_cong d5 (fun i h1 h2 => hs i (by omega)), AT_cong d6 (fun i h1 h2 => hs i (by omega)), ?_⟩
        intro q l hq hl
        unfold updR
        by_cases c2 : q = p
        · rw [if_pos c2, c2, ← Nat.add_assoc]
          exact s2 l hl
        · rw [if_neg c2, hs _ (by omega)]
          exact d7 q l hq hl
      · exact ⟨s4, ⟨(by intro x hx; cases hx), Nat.zero_le 7⟩, (by intro i x hi; simp at hi)⟩
      · have hh := hi.2.2.2.2.2
        exact HIST_cong hh (by rw [f2.1 2 (by decide), f1.1 2 (by decide)]) (by rw [f2.2 1 (by decide), f1.2 1 (by decide)])
    · rw [if_neg c, if_pos (by omega)]
      exact ⟨_, _, _, _, rfl, rfl, Or.inr ⟨1, rfl, by simp, rfl⟩, ⟨D, V, E, P, S, t, T, R, INV_thr h 2⟩⟩
  · simp only [e1, e2, exq_i, exq_n, bno_s, lt_e, b2t, b2f, g_ttt, g_f, g_tf, g_ttf, if_b, it_, ff_, if_true, if_false, i10, i00, ite_self]
    exact ⟨_, _, _, _, rfl, rfl, Or.inr ⟨2, rfl, by simp, rfl⟩, ⟨D, V, E, P, S, t, T, R, INV_thr h 1⟩⟩
/-- setTile, once its arguments are in range -/
theorem M_putTile (h : INV D V E P S t T R X m) {r c : Nat} (hr : r < 7) (hc : c < 7) {o : Option Nat} (ho : ∀ l, o = some l → l < 8) : ∃ X' b m', f_X9_setTile_14 X (nI r) (nI c) (enc o) = some (.inr b, X') ∧ f_X10_setTile_23 m (nI r) (nI c) (enc o) 1 1 = some (b, m') ∧ gi m' 3 = 0 ∧ REL X' m' := by
  obtain ⟨X', m', q1, q2, q3, hi, g3⟩ := INV_save (INV_thr h 0)
  have q2' : f_X10_save (si m 3 0) = some m' := q2
  obtain ⟨b1, b2, b3, b4, b5, b6, b7, b8⟩ := hi.1
  obtain ⟨σ', k1, k2, k3⟩ := X0_put b7 (d := 0) hr hc ho
  have ea : (257 : Int32) + 7 * nI r + nI c = nI (257 + (7 * r + c)) := by
    simp only [L257, L7, iI_nI, iI_mul, iI_add]
    congr 1 <;> omega
  have hle := sq_letter (d := 0) b7 hr (show c ≤ 7 by omega)
  unfold f_X9_setTile_14 f_X10_setTile_23
  simp only [q1, q2', X9_squareOf hr hc, hle, k1, ea, exq_i, exq_n, bno_s, lt_e, b2t, b2f, g_ttt, g_f, g_tf, g_ttf, if_b, it_, ff_, if_true, if_false, i10, i00]
  rw [ixo_nI (by omega) (by omega), ixo_nI (by omega) (by omega), nI_clamp (by omega)]
  have hcb := CB_SB hi.1 k3 k2
  obtain ⟨_, a2, a3, a4, a5, a6⟩ := hi
  obtain ⟨d1, d2, d3, d4, d5, d6, d7⟩ := a2
  have hold : ga m' 0 (257 + (7 * r + c)) = enc (M T 0 r c) := d6.2 r c hr hc
  rw [hold]
  refine ⟨_, _, _, rfl, rfl, ?_, ⟨D, V, E, P, S, t, setT T 0 r c o, R, hcb, ?_, a3, a4, a5, a6⟩⟩
  · show gi m' 3 = 0
    rw [g3]
    rfl
  · have hup : ∀ j, ga (sa m' 0 (upd (ga m' 0) (257 + (7 * r + c)) (enc o))) 0 j = if j = 257 + (7 * r + c) then enc o else ga m' 0 j := fun j => rfl
    refine ⟨AD_cong d1 (fun i h1 h2 => by rw [hup, if_neg (by omega)]), AV_cong d2 (fun i h1 => by rw [hup, if_neg (by omega)]), AE_cong d3 (fun i h1 h2 => by rw [hup, if_neg (by omega)]), AP_cong d4 (fun i h1 h2 => by rw [hup, if_neg (by omega)]), AS_cong d5 (fun i h1 h2 => by rw [hup, if_neg (by omega)]), ⟨okT_setT d6.1 hr hc ho, ?_⟩, AR_cong d7 (fun i h1 h2 => by rw [hup, if_neg (by omega)])⟩
    intro x y hx hy
    rw [hup]
    show _ = enc (if (x : Int) = r ∧ (y : Int) = c then o else T x y)
    by_cases k : x = r ∧ y = c
    · rw [if_pos (by omega), if_pos (by omega)]
    · rw [if_neg (by omega), if_neg (by omega)]; exact d6.2 x y hx hy
theorem M_setTile (h : REL X m) (a b c : Int32) : ∃ r X' q m', f_X9_setTile X a b c = some (r, X') ∧ f_X10_setTile m a b c = some (q, m') ∧ AGR [2, 0] r q m' ∧ REL X' m' := by
  obtain ⟨D, V, E, P, S, t, T, R, h⟩ := h
  unfold f_X9_setTile f_X10_setTile f_X10_setTile_18
  rcases rQ a b with ⟨r, k, hr, hk, rfl, rfl, e1, e2⟩ | ⟨e1, e2⟩
  · simp only [e1, e2, exq_i, exq_n, bno_s, lt_e, b2t, b2f, g_ttt, g_f, g_tf, g_ttf, if_b, it_, ff_, if_true, if_false, i10, i00]
    by_cases c1 : c = -1
    · rw [if_pos c1, if_pos c1, c1]
      obtain ⟨X', v, m', k1, k2, k3, k4⟩ := M_putTile h hr hk (o := none) (by intro l q; cases q)
      exact ⟨_, _, _, _, k1, k2, Or.inl ⟨rfl, k3⟩, k4⟩
    · rw [if_neg c1, if_neg c1]
      rcases rL c with ⟨l, hl, rfl, e3, e4⟩ | ⟨e3, e4⟩
      · simp only [e3, e4, exq_i, exq_n, bno_s, lt_e, b2t, b2f, g_ttt, g_f, g_tf, g_ttf, if_b, it_, ff_, if_true, if_false, i10, i00]
        obtain ⟨X', v, m', k1, k2, k3, k4⟩ := M_putTile h hr hk (o := some l) (by intro l q; cases q; exact hl)
        exact ⟨_, _, _, _, k1, k2, Or.inl ⟨rfl, k3⟩, k4⟩
      · unfold f_X10_setTile_23
        simp only [e3, e4, exq_i, exq_n, bno_s, lt_e, b2t, b2f, g_ttt, g_f, g_tf, g_ttf, if_b, it_, ff_, if_true, if_false, i10, i00]
        exact ⟨_, _, _, _, rfl, rfl, Or.inr ⟨0, rfl, by simp, rfl⟩, ⟨D, V, E, P, S, t, T, R, INV_thr h 2⟩⟩
  · obtain ⟨q, e4⟩ : ∃ q, f_X10_isLetter c = some q := by
      rcases rL c with ⟨l, _, _, _, e4⟩ | ⟨_, e4⟩
      · exact ⟨_, e4⟩
      · exact ⟨_, e4⟩
    unfold f_X10_setTile_23
    simp only [e1, e2, e4, exq_i, exq_n, bno_s, lt_e, b2t, b2f, g_ttt, g_f, g_tf, g_ttf, if_b, it_, ff_, if_true, if_false, i10, i00, ite_self]
    exact ⟨_, _, _, _, rfl, rfl, Or.inr ⟨2, rfl, by simp, rfl⟩, ⟨D, V, E, P, S, t, T, R, INV_thr h 1⟩⟩
theorem M_undo (h : REL X m) : ∃ r X' q m', f_X9_undo X = some (r, X') ∧ f_X10_undo m = some (q, m') ∧ AGR [1] r q m' ∧ REL X' m' := by
  obtain ⟨D, V, E, P, S, t, T, R, h⟩ := h
  obtain ⟨o, c, ho, hc, h1, h2, h3, h4, h5, h6, h7⟩ := h.2.2.2.2.2
  have e1 : (nI c = (0 : Int32)) = (c = 0) := propext (nI_eq (b := 0) (by omega) (by omega))
  have e2 : (nI c ≤ (0 : Int32)) = (c ≤ 0) := propext (nI_leI (b := 0) (by omega) (by omega))
  have e3 : ((0 : Int32) < nI c) = (0 < c) := propext (nI_ltI (a := 0) (by omega) (by omega))
  unfold f_X9_undo f_X3_size f_X10_undo f_X10_undo_13 f_X3_restore
  simp only [h2, h3, e1, e2, e3, bno_s]
  by_cases k : c = 0
  · rw [if_pos k, if_pos (by omega)]
    simp only [exq_i, exq_n, bno_s, lt_e, b2t, b2f, g_ttt, g_f, g_tf, g_ttf, if_b, it_, ff_, if_true, if_false, i10, i00]
    exact ⟨_, _, _, _, rfl, rfl, Or.inr ⟨1, rfl, by simp, rfl⟩, ⟨D, V, E, P, S, t, T, R, INV_thr h 1⟩⟩
  · rw [if_neg k, if_pos (by omega), if_neg (by omega)]
    have ec : nI c - 1 = nI (c - 1) := nI_subN (b := 1) (by omega)
    have hpl := X3_place (c := c - 1) ho (by omega) h1
    obtain ⟨τ, t1, D', V', E', P', S', t', T', R', u1, u2, u3, u4⟩ := h7 (c - 1) (by omega)
    obtain ⟨σ', k1, k2⟩ := X7_copyFrom (σ := X.1) (t := t) u1 h.1.2.2.2.2.2.1
    have g2 : gi (si m 3 0) 2 = nI c := h3
    have hm1 : gi (si (si m 3 0) 2 (nI (c - 1))) 2 = nI (c - 1) := rfl
    obtain ⟨m', r1, r2, f⟩ := X10_copy_in (c := c - 1) (by omega) 373 0 FU (si (si m 3 0) 2 (nI (c - 1))) (by omega) (FU_big (by omega)) hm1 (by intro z hz; omega)
    have r1' : f_X10_undo_35 FU (si (si m 3 0) 2 (nI (c - 1))) 0 = _ := r1
    simp only [exq_i, exq_n, bno_s, lt_e, b2t, b2f, g_ttt, g_f, g_tf, g_ttf, if_b, it_, ff_, if_true, if_false, i10, i00, ec, hpl, g2]
    rw [ixo_nI (by omega) (by omega), nI_clamp (by omega), t1]
    simp only [k1, r1', bno_s]
    refine ⟨_, _, _, _, rfl, rfl, Or.inl ⟨rfl, ?_⟩, ⟨D', V', E', P', S', t, T', R', k2, MB_cong u2 (fun i hi => r2 i hi), ?_, u3, u4, ⟨o, c - 1, ho, by omega, h1, rfl, ?_, h4, ?_, h6, ?_⟩⟩⟩
    · rw [f.1 3 (by decide)]
      rfl
    · have ht := h.2.2.1
      refine ⟨?_, ht.2.1, ?_⟩
      · rw [f.1 5 (by decide)]; exact ht.1
      · rw [f.2 4 (by decide)]; exact ht.2.2
    · rw [f.1 2 (by decide)]
      rfl
    · show c - 1 ≤ X.2.2.2.length
      omega
    · intro i hi
      rw [f.2 1 (by decide)]
      exact h7 i (by omega)
theorem M_addWord (h : REL X m) : ∃ r X' q m', f_X9_addWord X = some (r, X') ∧ f_X10_addWord m = some (q, m') ∧ AGR [1] r q m' ∧ REL X' m' := by
  obtain ⟨D, V, E, P, S, t, T, R, h⟩ := h
  have ht := (INV_ok h).1
  have h8 := ht.1
  have h7 := ht.2
  have hx := h.1.2.2.2.2.2.1
  have h5 := h.2.2.1.1
  have h30 := h.1.1.2.1
  have e2 : ((2 : Int32) ≤ nI t.length) = (2 ≤ t.length) := propext (nI_leI (a := 2) (by omega) (by omega))
  have e2' : (nI t.length < (2 : Int32)) = (t.length < 2) := propext (nI_ltI (b := 2) (by omega) (by omega))
  have e30 : ((30 : Int32) ≤ nI D.length) = (30 ≤ D.length) := propext (nI_leI (a := 30) (by omega) (by omega))
  have g16 : ga m 0 16 = nI D.length := h.2.1.1.1
  unfold f_X9_addWord f_X10_addWord f_X10_addWord_25 f_X10_addWord_26
  rw [show (16 : Int32) = nI 16 from rfl, ixo_nI (show 16 < 373 by omega) (by omega), nI_clamp (show 16 < 2 ^ 31 by omega), g16]
  simp only [hx, h5, X8_length h8 h7, exq_i, exq_n, bno_s, lt_e, b2t, b2f, g_ttt, g_f, g_tf, g_ttf, if_b, it_, ff_, if_true, if_false, i10, i00, e2, e2', e30, X1_isFull h.1.1]
  by_cases c : 2 ≤ t.length
  · by_cases c2 : 30 ≤ D.length
    · rw [if_pos c, decide_eq_true (show D.length = 30 by omega), it_, if_neg (show ¬ t.length < 2 by omega), if_pos c2]
      exact ⟨_, _, _, _, rfl, rfl, Or.inr ⟨1, rfl, by simp, rfl⟩, ⟨D, V, E, P, S, t, T, R, INV_thr h 1⟩⟩
    · rw [if_pos c, decide_eq_false (show ¬ D.length = 30 by omega), ff_, if_neg (show ¬ t.length < 2 by omega), if_neg c2]
      obtain ⟨X', m', q1, q2, q3, hi, g3⟩ := INV_save (INV_thr h 0)
      have q2' : f_X10_save (si m 3 0) = some m' := q2
      have hx' : gi X'.1 0 = nI (pk t) := by rw [q3]; exact hx
      obtain ⟨σ1, k1, k2, k3⟩ := X1_add hi.1.1 ht c (by omega) hi.2.2.2.2.1
      obtain ⟨m1, r1, hW, f1⟩ := X10_takesText hi.2.2.1
      have hD1 : AD D (ga (si m1 5 0) 0) := by
        show AD D (ga m1 0)
        rw [f1.2 0 (by decide)]
        exact hi.2.1.1
      have hW1 : HW t (si m1 5 0) := hW
      simp only [q1, q2', hx', k1, r1, X10_foundAt hD1 hW1, exq_i, exq_n, bno_s, lt_e, b2t, b2f, g_ttt, g_f, g_tf, g_ttf, if_b, it_, ff_, if_true, if_false, num_m1 h30]
      have hCB : CB (if t ∈ D then D else ins t D) V E P S [] T R (si σ1 0 0) := by
        obtain ⟨b1, b2, b3, b4, b5, b6, b7, b8⟩ := hi.1
        refine ⟨k2, ?_, ?_, ?_, ?_, rfl, ?_, ?_⟩
        · intro l hl; show ga σ1 3 l = _; rw [k3.2.1 3 (by omega)]; exact b2 l hl
        · intro l hl; show ga σ1 4 l = _; rw [k3.2.1 4 (by omega)]; exact b3 l hl
        · intro r c hr hc; show ga σ1 2 _ = _; rw [k3.2.1 2 (by omega)]; exact b4 r c hr hc
        · intro p hp; show ga σ1 6 p = _; rw [k3.2.1 6 (by omega)]; exact b5 p hp
        · refine ⟨b7.1, fun x hx => ?_⟩
          show lb (gl σ1 0) x = _ ∧ ∀ a, _ → ga σ1 1 x = _
          rw [k3.2.2 0, k3.2.1 1 (by omega)]
          exact b7.2 x hx
        · intro p hp; show _ ∧ ga σ1 5 p = _; rw [k3.2.1 5 (by omega)]; exact b8 p hp
      have hcount : gi (si σ1 0 0) 1 = nI (if t ∈ D then D else ins t D).length := k2.1
      unfold f_X1_size
      simp only [bno_s, hcount]
      have g3' : gi m1 3 = 0 := by rw [f1.1 3 (by decide), g3]; rfl
      have hTX : TX [] (si m1 5 0) := ⟨rfl, ⟨(by intro x hx; cases hx), Nat.zero_le 7⟩, (by intro i x hi; simp at hi)⟩
      have hH : HIST (si σ1 0 0, X'.2) (si m1 5 0) := HIST_cong hi.2.2.2.2.2 (by show gi m1 2 = _; rw [f1.1 2 (by decide)]) (by show ga m1 1 = _; rw [f1.2 1 (by decide)])
      by_cases c3 : t ∈ D
      · rw [if_pos c3] at hCB
        rw [if_pos c3, if_neg (fun q => q c3), ixo_nI (show 16 < 373 by omega) (by omega)]
        refine ⟨_, _, _, _, rfl, rfl, Or.inl ⟨?_, g3'⟩, ⟨D, V, E, P, S, [], T, R, hCB, ?_, hTX, hi.2.2.2.1, hi.2.2.2.2.1, hH⟩⟩
        · rw [hD1.1]
        · show MB D V E P S T R (ga m1 0)
          rw [f1.2 0 (by decide)]
          exact hi.2.1
      · rw [if_neg c3] at hCB
        obtain ⟨m2, s1, s2, s3, f2⟩ := X10_add hD1 hW1 c (by omega) hi.2.2.2.2.1
        rw [if_neg c3, if_pos c3, s1]
        have hne : ∀ u ∈ D, pk u ≠ pk t := fun u hu q => c3 (by
          have hw := (h.1.1.2.2.1 u hu).1
          rw [← pk_inj hw.1 ht.1 hw.2 ht.2 q]
          exact hu)
        refine ⟨_, _, _, _, rfl, rfl, Or.inl ⟨by rw [ins_len], ?_⟩, ⟨ins t D, V, E, P, S, [], T, R, hCB, ?_, ?_, hi.2.2.2.1, ins_SD t D hi.2.2.2.2.1 hne, ?_⟩⟩
        · rw [f2.1 3 (by decide)]; exact g3'
        · obtain ⟨d1, d2, d3, d4, d5, d6, d7⟩ := hi.2.1
          have hs : ∀ j, j < 16 ∨ 257 ≤ j → ga m2 0 j = ga m' 0 j := fun j hj => by
            rw [s3 j hj]
            show ga m1 0 j = _
            rw [f1.2 0 (by decide)]
          exact ⟨s2, AV_cong d2 (fun i h1 => hs i (by omega)), AE_cong d3 (fun i h1 h2 => hs i (by omega)), AP_cong d4 (fun i h1 h2 => hs i (by omega)), AS_cong d5 (fun i h1 h2 => hs i (by omega)), AT_cong d6 (fun i h1 h2 => hs i (by omega)), AR_cong d7 (fun i h1 h2 => hs i (by omega))⟩
        · refine ⟨?_, hTX.2.1, (by intro i x hi; simp at hi)⟩
          rw [f2.1 5 (by decide)]
          exact hTX.1
        · exact HIST_cong hH (f2.1 2 (by decide)) (f2.2 1 (by decide))
  · rw [if_neg c, if_pos (by omega)]
    exact ⟨_, _, _, _, rfl, rfl, Or.inr ⟨1, rfl, by simp, rfl⟩, ⟨D, V, E, P, S, t, T, R, INV_thr h 1⟩⟩
end
