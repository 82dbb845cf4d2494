/-! ===== the best play ===== -/
theorem bst_map (e : Nat → Int32) (f : Nat → Nat) : ∀ (L : List Nat) (k : Nat) (b g : Int32), bst e (L.map f) k b g = bst (fun x => e (f x)) L k b g
  | [], _, _, _ => rfl
  | x :: L, k, b, g => by
    rw [List.map_cons, bst, bst, bst_map e f L, bst_map e f L]
section
variable {D : List (List Nat)} {V E : Nat → Int32} {P : Nat → Nat → Int32} {S : Nat → Int32} {T : Bd} {R : Nat → Nat → Nat} {σ : St}
/-- the best so far, and its code -/
def BC (L : List Nat) (σ : St) : Prop := gi σ 16 = -1 ∨ ∃ i x, gi σ 16 = nI i ∧ L[i]? = some x ∧ gi σ 17 = nI x
theorem X10_best_loop {p : Nat} (hp : p < 2) : ∀ (m c n : Nat) (g : Int32) (pre : List Nat) (σ : St), PB D V E P T R σ → c + m = 2940 → m < n → pre.length + m ≤ 2940 → BC (pre ++ fl (rcd D T (R p)) m c) σ →
    ∃ σ', f_X10_findsBest_17 n σ (nI p) g (nI pre.length) (nI c) = some σ' ∧ gi σ' 16 = bst (fun x => eqt D V E T P (R p) (phi x)) (fl (rcd D T (R p)) m c) pre.length (gi σ 16) g ∧ BC (pre ++ fl (rcd D T (R p)) m c) σ' ∧ FR [7, 10, 11, 12, 14, 16, 17] [6, 13, 15] σ σ' := by
  intro m
  induction m with
  | zero =>
    intro c n g pre σ h hc hn hl hB
    obtain ⟨n, rfl⟩ : ∃ j, n = j + 1 := ⟨n - 1, by omega⟩
    have : c = 2940 := by omega
    subst this
    rw [f_X10_findsBest_17, if_pos (by decide)]
    exact ⟨σ, rfl, rfl, hB, FR.rfl' _ _ _⟩
  | succ m ih =>
    intro c n g pre σ h hc hn hl hB
    obtain ⟨n, rfl⟩ : ∃ j, n = j + 1 := ⟨n - 1, by omega⟩
    have k : ¬ (2940 : Int32) ≤ nI c := nI_ge (b := 2940) (by omega) (by omega)
    obtain ⟨σ1, e1, hL1, f1⟩ := X10_mayPlay h hp (show c < 2940 by omega)
    have h1 := PB_FR h f1 (by decide) (by decide) (by decide)
    have F1 : FR [7, 10, 11, 12, 14, 16, 17] [6, 13, 15] σ σ1 := f1.mo (by decide) (by decide)
    rw [f_X10_findsBest_17, if_neg k, e1, bno_s, if_b]
    by_cases k2 : rcd D T (R p) c = true
    · rw [if_pos k2]
      have efl : fl (rcd D T (R p)) (m + 1) c = c :: fl (rcd D T (R p)) m (c + 1) := by rw [fl, if_pos k2]
      rw [efl] at hB ⊢
      obtain ⟨σ2, e2, hL2, f2⟩ := X10_scoreBy h1 hp (show c < 2940 by omega) k2 (hL1 k2)
      have h2 := PB_FR h1 f2 (by decide) (by decide) (by decide)
      have F2 : FR [7, 10, 11, 12, 14, 16, 17] [6, 13, 15] σ σ2 := F1.t (f2.mo (by decide) (by decide))
      have g16 : gi σ2 16 = gi σ 16 := by rw [f2.1 16 (by decide), f1.1 16 (by decide)]
      have g17 : gi σ2 17 = gi σ 17 := by rw [f2.1 17 (by decide), f1.1 17 (by decide)]
      have eqv : pts D V T P (phi c) + vlR E (rem D T (R p) (phi c)) = eqt D V E T P (R p) (phi c) := rfl
      rw [e2, bno_s, X10_leaveOf h2 hp (show c < 2940 by omega) k2 hL2, bno_s, eqv, g16, bst]
      have eap : pre ++ c :: fl (rcd D T (R p)) m (c + 1) = (pre ++ [c]) ++ fl (rcd D T (R p)) m (c + 1) := by rw [List.append_assoc]; rfl
      rw [eap] at hB ⊢
      -- a better one
      have better : ∃ σ', f_X10_findsBest_63 (f_X10_findsBest_17 n) σ2 (nI p) (nI pre.length) (nI c) (eqt D V E T P (R p) (phi c)) = some σ' ∧ gi σ' 16 = bst (fun x => eqt D V E T P (R p) (phi x)) (fl (rcd D T (R p)) m (c + 1)) (pre.length + 1) (nI pre.length) (eqt D V E T P (R p) (phi c)) ∧ BC ((pre ++ [c]) ++ fl (rcd D T (R p)) m (c + 1)) σ' ∧ FR [7, 10, 11, 12, 14, 16, 17] [6, 13, 15] σ σ' := by
        obtain ⟨σ', e3, r1, r2, f3⟩ := ih (c + 1) n (eqt D V E T P (R p) (phi c)) (pre ++ [c]) (si (si σ2 16 (nI pre.length)) 17 (nI c)) h2 (by omega) (by omega) (by simp; omega) (Or.inr ⟨pre.length, c, rfl, by simp, rfl⟩)
        rw [List.length_append] at e3 r1
        refine ⟨σ', ?_, r1, r2, (F2.t (((FR_si σ2 16 _).tr (FR_si _ 17 _) (is3 := [7, 10, 11, 12, 14, 16, 17]) (js3 := [6, 13, 15]) (by decide) (by decide)))).t f3⟩
        unfold f_X10_findsBest_63 f_X10_findsBest_77 f_X10_findsBest_80
        rw [lt_e, lt_e, nI_1, nI_1]
        exact e3
      have notb : ∃ σ', f_X10_findsBest_77 (f_X10_findsBest_17 n) σ2 (nI p) g (nI pre.length) (nI c) = some σ' ∧ gi σ' 16 = bst (fun x => eqt D V E T P (R p) (phi x)) (fl (rcd D T (R p)) m (c + 1)) (pre.length + 1) (gi σ 16) g ∧ BC ((pre ++ [c]) ++ fl (rcd D T (R p)) m (c + 1)) σ' ∧ FR [7, 10, 11, 12, 14, 16, 17] [6, 13, 15] σ σ' := by
        obtain ⟨σ', e3, r1, r2, f3⟩ := ih (c + 1) n g (pre ++ [c]) σ2 h2 (by omega) (by omega) (by simp; omega) (by
          unfold BC at hB ⊢
          rw [g16, g17]
          exact hB)
        rw [List.length_append] at e3 r1
        rw [g16] at r1
        refine ⟨σ', ?_, r1, r2, F2.t f3⟩
        unfold f_X10_findsBest_77 f_X10_findsBest_80
        rw [nI_1, nI_1]
        exact e3
      by_cases c1 : gi σ 16 = -1
      · rw [if_pos c1, if_pos c1]
        exact better
      · rw [if_neg c1, if_neg c1]
        by_cases c2 : eqt D V E T P (R p) (phi c) ≤ g
        · rw [if_pos c2, if_pos c2]
          exact notb
        · rw [if_neg c2, if_neg c2]
          exact better
    · rw [if_neg k2]
      have efl : fl (rcd D T (R p)) (m + 1) c = fl (rcd D T (R p)) m (c + 1) := by rw [fl, if_neg k2]
      rw [efl] at hB ⊢
      have g16 : gi σ1 16 = gi σ 16 := f1.1 16 (by decide)
      have g17 : gi σ1 17 = gi σ 17 := f1.1 17 (by decide)
      obtain ⟨σ', e3, r1, r2, f3⟩ := ih (c + 1) n g pre σ1 h1 (by omega) (by omega) (by omega) (by
        unfold BC at hB ⊢
        rw [g16, g17]
        exact hB)
      rw [g16] at r1
      refine ⟨σ', ?_, r1, r2, F1.t f3⟩
      unfold f_X10_findsBest_80
      rw [nI_1]
      exact e3
theorem X10_findsBest (h : PB D V E P T R σ) {p : Nat} (hp : p < 2) : ∃ σ', f_X10_findsBest σ (nI p) = some σ' ∧ gi σ' 16 = bst (eqt D V E T P (R p)) (fl (lc D T (R p)) 4096 0) 0 (-1) 0 ∧ BC (fl (rcd D T (R p)) 2940 0) σ' ∧ FR [7, 10, 11, 12, 14, 16, 17] [6, 13, 15] σ σ' := by
  unfold f_X10_findsBest
  rw [lt_e, lt_e]
  obtain ⟨σ', e, r1, r2, f⟩ := X10_best_loop hp 2940 0 FU 0 [] (si (si σ 16 (-1)) 17 (-1)) h (by omega) (FU_big (by omega)) (by simp) (Or.inl rfl)
  refine ⟨σ', e, ?_, r2, ((FR_si σ 16 _).tr (FR_si _ 17 _) (is3 := [7, 10, 11, 12, 14, 16, 17]) (js3 := [6, 13, 15]) (by decide) (by decide)).t f⟩
  rw [r1, fl_phi h.1.2.1, bst_map]
  rfl
/-- on the class's side -/
theorem X5_pts (hD : CD D σ) (h : OC T σ) (hV : VC V σ) (hP : PC P σ) {Rp : Nat → Nat} {x : Nat} (hx : x < 4096) (hl : lc D T Rp x = true) : f_X5_pointsOf σ (nI x) = some (pts D V T P x) := by
  obtain ⟨u, hu, h1, h2, h3, h4, h5⟩ := lc_true hx hl
  have h6 := (rsn_0.mp h5).2.1
  have := X5_pointsOf hD h hV hP h1 h2 h3 hu h6
  rw [← h4] at this
  rw [this]
  unfold pts
  rw [hu]
  rfl
theorem X5_equityOf (hD : CD D σ) (h : OC T σ) (hV : VC V σ) (hE : EC E σ) (hP : PC P σ) (hR : KC R σ) {p : Nat} (hp : p < 2) {x : Nat} (hl : lc D T (R p) x = true) (hx : x < 4096) : f_X5_equityOf σ (nI p) (nI x) = some (eqt D V E T P (R p) x) := by
  have hpt := X5_pts hD h hV hP hx hl
  obtain ⟨u, hu, h1, h2, h3, h4, h5⟩ := lc_true hx hl
  have h6 := rsn_0.mp h5
  have hlt := (List.getElem?_eq_some_iff.mp hu).1
  have h30 := hD.2.1
  obtain ⟨⟨u8, u7⟩, _⟩ := hD.2.2.1 u (List.mem_of_getElem? hu)
  have e := pc_all _ (stn_lt h1 h2 h3) (x % 32) (by omega)
  rw [← h4] at e
  cases et : tk (R p) (frs (M T (xd x) (xa x)) (xb x) u) with
  | none => exact absurd et h6.2.2.2.2.2.1
  | some r =>
    have hk := (hR p hp).1
    have hr : okR r := by
      have := tk_ok _ _ _ (frs_lt8 _ u _ u8) et
      unfold okR at *
      omega
    unfold f_X5_equityOf
    rw [e.2.1, bno_s, e.2.2, bno_s, X1_word hD hu, bno_s, hpt, bno_s, X7_rack hR hp, bno_s, X5_rackAfter h h1 h2 h3 u8 h6.2.1 hk, et, bno_s]
    show bno (f_X7_leaveOf σ (nI (pr r))) _ = _
    rw [X7_leaveOf hE hr, bno_s]
    unfold eqt rem
    rw [hu]
    show _ = some (_ + vlR E ((tk (R p) (frs (M T (xd x) (xa x)) (xb x) u)).getD (R p)))
    rw [et]
    rfl
theorem X5_best (hD : CD D σ) (h : OC T σ) (hV : VC V σ) (hE : EC E σ) (hP : PC P σ) (hR : KC R σ) {p : Nat} (hp : p < 2) : f_X5_indexOfBest σ (nI p) = some (bst (eqt D V E T P (R p)) (fl (lc D T (R p)) 4096 0) 0 (-1) 0) :=
  X5_indexOfBest hD h hR hp (fun x h1 h2 => X5_equityOf hD h hV hE hP hR hp h1 h2)
end
