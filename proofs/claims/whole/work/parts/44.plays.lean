/-! ===== the reference's lists of plays ===== -/
section
variable {D : List (List Nat)} {V E : Nat → Int32} {P : Nat → Nat → Int32} {S : Nat → Int32} {T : Bd} {R : Nat → Nat → Nat} {σ : St}
/-- what is wanted for plays on the board laid aside -/
def PB (D : List (List Nat)) (V E : Nat → Int32) (P : Nat → Nat → Int32) (T : Bd) (R : Nat → Nat → Nat) (σ : St) : Prop := AD D (ga σ 0) ∧ AV V (ga σ 0) ∧ AE E (ga σ 0) ∧ AP P (ga σ 0) ∧ BR T (ga σ 8) ∧ RR R (ga σ 9) ∧ ∀ p, p < 2 → okR (R p)
theorem PB_FR (h : PB D V E P T R σ) {is js : List Nat} {σ' : St} (f : FR is js σ σ') (h0 : 0 ∉ js) (h8 : 8 ∉ js) (h9 : 9 ∉ js) : PB D V E P T R σ' := by
  unfold PB
  rw [f.2 0 h0, f.2 8 h8, f.2 9 h9]
  exact h
/-- the play of a code is laid -/
def LY (D : List (List Nat)) (T : Bd) (c : Nat) (σ : St) : Prop := ∃ u, D[c % 30]? = some u ∧ HL u σ ∧ NE (frs (M T (c / 1470) (cA c)) (cB c) u) σ
theorem X10_mayPlay (h : PB D V E P T R σ) {p : Nat} (hp : p < 2) {c : Nat} (hc : c < 2940) : ∃ σ', f_X10_mayPlay σ (nI p) (nI c) = some (rcd D T (R p) c, σ') ∧ (rcd D T (R p) c = true → LY D T c σ') ∧ FR [7, 10, 11, 12, 14] [6, 13, 15] σ σ' := by
  obtain ⟨hD, hV, hE, hP, hB, hR, hk⟩ := h
  have h30 := hD.2.1
  obtain ⟨a1, a2, a3, a4, a5, a6⟩ := cde hc
  have hcb := c_bd c
  unfold f_X10_mayPlay
  rw [a1, a2, a3, a4, show (16 : Int32) = nI 16 from rfl, ixo_nI (by omega) (by omega), nI_clamp (by omega), hD.1]
  have e1 : (nI (c % 30) < nI D.length) = (c % 30 < D.length) := propext (nI_ltI (by omega) (by omega))
  simp only [e1]
  by_cases k : c % 30 < D.length
  · have hu : D[c % 30]? = some D[c % 30] := List.getElem?_eq_getElem k
    obtain ⟨σ1, e2, hW, f1⟩ := X10_takesWord (σ := σ) hu hD
    obtain ⟨σ2, e3, hL, hN, f2⟩ := X10_reason (σ := σ1) (R := R) (p := p) (d := c / 1470) (a := cA c) (b := cB c) (by rw [f1.2 0 (by decide)]; exact hD) (by rw [f1.2 8 (by decide)]; exact hB) (by rw [f1.2 9 (by decide)]; exact hR) hp (by omega) hcb.1 hcb.2 (hk p hp) hW
    have hrw := c_RW c
    rw [hrw.1, hrw.2] at e3
    have el : rcd D T (R p) c = decide (rsn D T (R p) (c / 1470) (cA c) (cB c) D[c % 30] = 0) := lc_at (by omega) hcb.1 hcb.2 (by omega) hu
    rw [if_pos k, e2, bno_s, lt_e, a5, a6, e3, bno_s, el]
    refine ⟨σ2, ?_, ?_, f1.tr f2 (by decide) (by decide)⟩
    · by_cases k2 : rsn D T (R p) (c / 1470) (cA c) (cB c) D[c % 30] = 0
      · rw [if_pos k2, decide_eq_true k2]
      · rw [if_neg k2, decide_eq_false k2]
    · intro k2
      exact ⟨_, hu, hL, hN (of_decide_eq_true k2)⟩
  · rw [if_neg k]
    have el : rcd D T (R p) c = false := lc_no (by unfold phi; omega)
    rw [el]
    exact ⟨σ, rfl, (fun q => by cases q), FR.rfl' _ _ _⟩
/-- what is known of a play that may be made -/
theorem rcd_true (h30 : D.length ≤ 30) {Rp : Nat → Nat} {c : Nat} (hc : c < 2940) (h : rcd D T Rp c = true) : ∃ u r, D[c % 30]? = some u ∧ cB c + u.length ≤ 7 ∧ agr (M T (c / 1470) (cA c)) (cB c) u = true ∧ frs (M T (c / 1470) (cA c)) (cB c) u ≠ [] ∧ tk Rp (frs (M T (c / 1470) (cA c)) (cB c) u) = some r ∧ rem D T Rp (phi c) = r := by
  have hcb := c_bd c
  by_cases k : c % 30 < D.length
  · have hu : D[c % 30]? = some D[c % 30] := List.getElem?_eq_getElem k
    have el : rcd D T Rp c = decide (rsn D T Rp (c / 1470) (cA c) (cB c) D[c % 30] = 0) := lc_at (by omega) hcb.1 hcb.2 (by omega) hu
    rw [el, decide_eq_true_iff, rsn_0] at h
    obtain ⟨_, h2, _, h4, h5, h6, _, _⟩ := h
    cases e : tk Rp (frs (M T (c / 1470) (cA c)) (cB c) D[c % 30]) with
    | none => exact absurd e h6
    | some r =>
      refine ⟨_, r, hu, h2, h4, h5, e, ?_⟩
      have := (at_all (T := T) (show c / 1470 < 2 by omega) hcb.1 hcb.2 (show c % 30 < 32 by omega) hu (fun _ => 0) (fun _ _ => 0) Rp).2.1
      unfold phi
      rw [this, e]
      rfl
  · have el : rcd D T Rp c = false := lc_no (by unfold phi; omega)
    rw [el] at h
    cases h
theorem X10_scoreBy (h : PB D V E P T R σ) {p : Nat} (hp : p < 2) {c : Nat} (hc : c < 2940) (hr : rcd D T (R p) c = true) (hL : LY D T c σ) : ∃ σ', f_X10_scoreBy σ (nI c) = some (pts D V T P (phi c), σ') ∧ LY D T c σ' ∧ FR [7, 10, 11, 12] [6] σ σ' := by
  obtain ⟨hD, hV, hE, hP, hB, hR, hk⟩ := h
  obtain ⟨a1, a2, a3, a4, a5, a6⟩ := cde hc
  have hcb := c_bd c
  obtain ⟨u, r, hu, h7, _, _, _, _⟩ := rcd_true hD.2.1 hc hr
  obtain ⟨u2, hu2, hL, hN⟩ := hL
  have : u2 = u := by rw [hu] at hu2; exact (Option.some.inj hu2).symm
  subst this
  obtain ⟨σ', e, f⟩ := X10_scoreOf (V := V) (P := P) (σ := σ) (show c / 1470 < 2 by omega) hcb.1 h7 hV hP hB hL
  have hrw := c_RW c
  rw [hrw.1, hrw.2] at e
  unfold f_X10_scoreBy
  rw [a1, a3, a4, lt_e, a5, a6, e, bno_s]
  refine ⟨σ', ?_, ⟨u2, hu, ⟨by rw [f.1 14 (by decide)]; exact hL.1, hL.2.1, by rw [f.2 13 (by decide)]; exact hL.2.2⟩, fun l hl => by rw [f.2 15 (by decide)]; exact hN l hl⟩, f⟩
  have := (at_all (T := T) (show c / 1470 < 2 by omega) hcb.1 hcb.2 (show c % 30 < 32 by omega) hu V P (R p)).1
  unfold phi
  rw [this]
theorem X10_laysBy (h : PB D V E P T R σ) {p : Nat} (hp : p < 2) {c : Nat} (hc : c < 2940) (hr : rcd D T (R p) c = true) (hL : LY D T c σ) : ∃ σ', f_X10_laysBy σ (nI p) (nI c) = some σ' ∧ PB D V E P (lyx D T (phi c)) (updR R p (rem D T (R p) (phi c))) σ' ∧ FR [] [8, 9] σ σ' := by
  obtain ⟨hD, hV, hE, hP, hB, hR, hk⟩ := h
  obtain ⟨a1, a2, a3, a4, a5, a6⟩ := cde hc
  have hcb := c_bd c
  obtain ⟨u, r, hu, h7, _, _, ht, hrem⟩ := rcd_true hD.2.1 hc hr
  obtain ⟨u2, hu2, hL, hN⟩ := hL
  have : u2 = u := by rw [hu] at hu2; exact (Option.some.inj hu2).symm
  subst this
  obtain ⟨σ', e, hB2, hR2, f⟩ := X10_lays (σ := σ) hp (show c / 1470 < 2 by omega) hcb.1 h7 hB hR ht hL
  have hrw := c_RW c
  rw [hrw.1, hrw.2] at e
  unfold f_X10_laysBy
  rw [a1, a3, a4, lt_e, a5, a6, e, bno_s]
  have hl := (at_all (T := T) (show c / 1470 < 2 by omega) hcb.1 hcb.2 (show c % 30 < 32 by omega) hu V P (R p)).2.2
  refine ⟨σ', rfl, ⟨by rw [f.2 0 (by decide)]; exact hD, by rw [f.2 0 (by decide)]; exact hV, by rw [f.2 0 (by decide)]; exact hE, by rw [f.2 0 (by decide)]; exact hP, ?_, by rw [hrem]; exact hR2, ?_⟩, f⟩
  · unfold phi
    rw [hl]
    exact hB2
  · intro q hq
    rw [hrem]
    unfold updR
    by_cases k : q = p
    · rw [if_pos k]
      have h8 := frs_lt8 (M T (c / 1470) (cA c)) u2 (cB c) (hD.2.2.1 u2 (List.mem_of_getElem? hu)).1.1
      have := tk_ok _ _ _ h8 ht
      have := hk p hp
      unfold okR at *
      omega
    · rw [if_neg k]
      exact hk q hq
theorem tk_val {f : List Nat} {R r : Nat → Nat} (hf : lt8 f) (h : tk R f = some r) : (∀ l, l < 8 → f.count l ≤ R l) ∧ r = fun l => R l - f.count l := by
  have h1 : ∀ l, l < 8 → f.count l ≤ R l := Decidable.not_not.mp (fun q => by rw [(tk_iff hf).mpr q] at h; cases h)
  refine ⟨h1, ?_⟩
  have := tk_some f R (fun l => by
    by_cases c : l < 8
    · exact h1 l c
    · rw [List.count_eq_zero_of_not_mem (fun q => c (hf l q))]
      omega)
  rw [this] at h
  exact (Option.some.inj h).symm
theorem X10_leave_loop (h : PB D V E P T R σ) {p : Nat} (hp : p < 2) {f : List Nat} {r : Nat → Nat} (hf : lt8 f) (hr : tk (R p) f = some r) (hN : NE f σ) : ∀ (m k n : Nat), k + m = 8 → m < n →
    f_X10_leaveOf_4 σ n (nI p) (sm8 (fun l => nI (r l) * E l) k) (nI k) = some (vlR E r) := by
  obtain ⟨hD, hV, hE, hP, hB, hR, hk⟩ := h
  obtain ⟨v1, v2⟩ := tk_val hf hr
  intro m
  induction m with
  | zero =>
    intro k n hk hn
    obtain ⟨n, rfl⟩ : ∃ j, n = j + 1 := ⟨n - 1, by omega⟩
    have : k = 8 := by omega
    subst this
    rfl
  | succ m ih =>
    intro k n hk hn
    obtain ⟨n, rfl⟩ : ∃ j, n = j + 1 := ⟨n - 1, by omega⟩
    have c : ¬ (8 : Int32) ≤ nI k := nI_ge (b := 8) (by omega) (by omega)
    have ea : (8 : Int32) * nI p + nI k = nI (8 * p + k) := by
      simp only [L8, iI_nI, iI_mul, iI_add]
      congr 1 <;> omega
    have eb : (8 : Int32) + nI k = nI (8 + k) := nI_add 8 k
    rw [f_X10_leaveOf_4, if_neg c, ea, eb, ixo_nI (by omega) (by omega), ixo_nI (by omega) (by omega), ixo_nI (by omega) (by omega), lt_e, nI_clamp (by omega), nI_clamp (by omega), nI_clamp (by omega), hR p k hp (by omega), hN k (by omega), hE k (by omega), nI_subN (v1 k (by omega)), nI_1]
    have := ih (k + 1) n (by omega) (by omega)
    rw [sm8] at this
    have e2 : r k = R p k - f.count k := by rw [v2]
    rw [e2] at this
    exact this
theorem X10_leaveOf (h : PB D V E P T R σ) {p : Nat} (hp : p < 2) {c : Nat} (hc : c < 2940) (hr : rcd D T (R p) c = true) (hL : LY D T c σ) : f_X10_leaveOf σ (nI p) = some (vlR E (rem D T (R p) (phi c))) := by
  obtain ⟨u, r, hu, h7, _, _, ht, hrem⟩ := rcd_true h.1.2.1 hc hr
  obtain ⟨u2, hu2, hL, hN⟩ := hL
  have : u2 = u := by rw [hu] at hu2; exact (Option.some.inj hu2).symm
  subst this
  rw [hrem]
  have h8 := frs_lt8 (M T (c / 1470) (cA c)) u2 (cB c) (h.1.2.2.1 u2 (List.mem_of_getElem? hu)).1.1
  exact X10_leave_loop h hp h8 ht hN 8 0 FU (by omega) (FU_big (by omega))
theorem X10_plays_loop {p : Nat} (hp : p < 2) : ∀ (m c n s : Nat) (σ : St), PB D V E P T R σ → c + m = 2940 → m < n →
    ∃ σ', f_X10_playsOf_4 n σ (nI p) (nI s) (nI c) = some (nI (s + (fl (rcd D T (R p)) m c).length), σ') ∧ FR [7, 10, 11, 12, 14] [6, 13, 15] σ σ' := by
  intro m
  induction m with
  | zero =>
    intro c n s σ h hc hn
    obtain ⟨n, rfl⟩ : ∃ j, n = j + 1 := ⟨n - 1, by omega⟩
    have : c = 2940 := by omega
    subst this
    rw [f_X10_playsOf_4, if_pos (by decide)]
    exact ⟨σ, rfl, FR.rfl' _ _ _⟩
  | succ m ih =>
    intro c n s σ h hc hn
    obtain ⟨n, rfl⟩ : ∃ j, n = j + 1 := ⟨n - 1, by omega⟩
    have k : ¬ (2940 : Int32) ≤ nI c := nI_ge (b := 2940) (by omega) (by omega)
    obtain ⟨σ1, e1, _, f1⟩ := X10_mayPlay h hp (show c < 2940 by omega)
    have h1 := PB_FR h f1 (by decide) (by decide) (by decide)
    rw [f_X10_playsOf_4, if_neg k, e1, bno_s, if_b, fl]
    unfold f_X10_playsOf_26
    rw [Int32.add_zero, nI_1, nI_1]
    by_cases k2 : rcd D T (R p) c = true
    · obtain ⟨σ2, e2, f2⟩ := ih (c + 1) n (s + 1) σ1 h1 (by omega) (by omega)
      refine ⟨σ2, ?_, f1.t f2⟩
      rw [if_pos k2, if_pos k2, e2, List.length_cons, show s + 1 + (fl (rcd D T (R p)) m (c + 1)).length = s + ((fl (rcd D T (R p)) m (c + 1)).length + 1) by omega]
    · obtain ⟨σ2, e2, f2⟩ := ih (c + 1) n s σ1 h1 (by omega) (by omega)
      refine ⟨σ2, ?_, f1.t f2⟩
      rw [if_neg k2, if_neg k2, e2]
theorem X10_playsOf (h : PB D V E P T R σ) {p : Nat} (hp : p < 2) : ∃ σ', f_X10_playsOf σ (nI p) = some (nI (fl (lc D T (R p)) 4096 0).length, σ') ∧ FR [7, 10, 11, 12, 14] [6, 13, 15] σ σ' := by
  obtain ⟨σ', e, f⟩ := X10_plays_loop hp 2940 0 FU 0 σ h (by omega) (FU_big (by omega))
  refine ⟨σ', ?_, f⟩
  rw [fl_phi h.1.2.1, List.length_map]
  rw [Nat.zero_add] at e
  exact e
/-- the first of a list of codes -/
theorem X10_code_loop {p : Nat} (hp : p < 2) {i : Nat} (hi : i < 2147483648) : ∀ (m c n s : Nat) (σ : St), PB D V E P T R σ → c + m = 2940 → m < n → s ≤ i →
    ∃ σ', f_X10_codeAt_5 n σ (nI p) (nI i) (nI s) (nI c) = some (hd ((fl (rcd D T (R p)) m c).drop (i - s)), σ') ∧ (∀ x, x < 2940 → hd ((fl (rcd D T (R p)) m c).drop (i - s)) = nI x → rcd D T (R p) x = true ∧ LY D T x σ') ∧ FR [7, 10, 11, 12, 14] [6, 13, 15] σ σ' := by
  intro m
  induction m with
  | zero =>
    intro c n s σ h hc hn hs
    obtain ⟨n, rfl⟩ : ∃ j, n = j + 1 := ⟨n - 1, by omega⟩
    have : c = 2940 := by omega
    subst this
    rw [f_X10_codeAt_5, if_pos (by decide), fl, List.drop_nil]
    refine ⟨σ, rfl, fun x hx q => ?_, FR.rfl' _ _ _⟩
    exact absurd (show nI x = -1 from q.symm) (nI_nm1 (by omega))
  | succ m ih =>
    intro c n s σ h hc hn hs
    obtain ⟨n, rfl⟩ : ∃ j, n = j + 1 := ⟨n - 1, by omega⟩
    have k : ¬ (2940 : Int32) ≤ nI c := nI_ge (b := 2940) (by omega) (by omega)
    obtain ⟨σ1, e1, hL1, f1⟩ := X10_mayPlay h hp (show c < 2940 by omega)
    have h1 := PB_FR h f1 (by decide) (by decide) (by decide)
    rw [f_X10_codeAt_5, if_neg k, if_neg (nI_pos (by omega)), e1, bno_s, if_b, fl]
    unfold f_X10_codeAt_38
    rw [nI_1, nI_1]
    by_cases k2 : rcd D T (R p) c = true
    · rw [if_pos k2, if_pos k2]
      have e4 : (nI s = nI i) = (s = i) := propext (nI_eq (by omega) (by omega))
      simp only [e4]
      by_cases k3 : s = i
      · rw [if_pos k3, k3, Nat.sub_self, List.drop_zero]
        refine ⟨σ1, rfl, fun x hx q => ?_, f1⟩
        have hxc : c = x := (nI_eq (by omega) (by omega)).mp q
        subst hxc
        exact ⟨k2, hL1 k2⟩
      · rw [if_neg k3]
        obtain ⟨σ2, e2, g2, f2⟩ := ih (c + 1) n (s + 1) σ1 h1 (by omega) (by omega) (by omega)
        rw [show i - s = i - (s + 1) + 1 by omega, List.drop_succ_cons]
        exact ⟨σ2, e2, g2, f1.t f2⟩
    · rw [if_neg k2, if_neg k2]
      obtain ⟨σ2, e2, g2, f2⟩ := ih (c + 1) n s σ1 h1 (by omega) (by omega) hs
      exact ⟨σ2, e2, g2, f1.t f2⟩
theorem X10_codeAt (h : PB D V E P T R σ) {p : Nat} (hp : p < 2) {z : Int} (z1 : -2147483648 ≤ z) (z2 : z < 2147483648) :
    ∃ σ', f_X10_codeAt σ (nI p) (iI z) = some (if z < 0 then -1 else hd ((fl (rcd D T (R p)) 2940 0).drop z.toNat), σ') ∧ (∀ x, x < 2940 → (if z < 0 then -1 else hd ((fl (rcd D T (R p)) 2940 0).drop z.toNat)) = nI x → rcd D T (R p) x = true ∧ LY D T x σ') ∧ FR [7, 10, 11, 12, 14] [6, 13, 15] σ σ' := by
  unfold f_X10_codeAt
  by_cases k : z < 0
  · rw [if_pos k]
    obtain ⟨n, hn⟩ : ∃ n, FU = n + 1 := ⟨FU - 1, by unfold FU; omega⟩
    rw [hn, f_X10_codeAt_5, if_neg (by decide)]
    simp (disch := omega) only [iI_lt0]
    rw [if_pos k]
    exact ⟨σ, rfl, fun x hx q => absurd q.symm (nI_nm1 (by omega)), FR.rfl' _ _ _⟩
  · rw [if_neg k]
    have e := X10_code_loop (i := z.toNat) hp (by omega) 2940 0 FU 0 σ h (by omega) (FU_big (by omega)) (by omega)
    rw [iI_nI z.toNat, Int.toNat_of_nonneg (by omega), Nat.sub_zero] at e
    exact e
end
