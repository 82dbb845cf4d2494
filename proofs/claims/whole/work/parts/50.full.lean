/-! ===== the reference's search is the tree ===== -/
section
variable {D : List (List Nat)} {V E : Nat → Int32} {P : Nat → Nat → Int32} {T T2 : Bd} {R R2 : Nat → Nat → Nat} {σ : St}
theorem FM_next {q i j : Nat} {b : Int32} (h : FM T R q i j b σ) : FM T R q i (j + 1) b (sa σ 21 (upd (ga σ 21) i (nI j + 1))) :=
  ⟨h.1, h.2.1, h.2.2.1, by
    show (if i = i then nI j + 1 else ga σ 21 i) = _
    rw [if_pos rfl, nI_1], h.2.2.2.2⟩
theorem SFP_next (σ : St) (i : Nat) (v : Int32) : SFP i σ (sa σ 21 (upd (ga σ 21) i v)) := ⟨fun _ _ => rfl, fun _ _ => rfl, fun _ _ => ⟨rfl, rfl⟩, fun z hz => ⟨by
  show (if z = i then v else ga σ 21 z) = _
  rw [if_neg (by omega)], rfl⟩⟩
theorem FM_FR {q i j : Nat} {b : Int32} (h : FM T R q i j b σ) {is js : List Nat} {σ' : St} (f : FR is js σ σ') (h18 : 18 ∉ js) (h19 : 19 ∉ js) (h20 : 20 ∉ js) (h21 : 21 ∉ js) (h22 : 22 ∉ js) : FM T R q i j b σ' := by
  unfold FM
  rw [f.2 18 h18, f.2 19 h19, f.2 20 h20, f.2 21 h21, f.2 22 h22]
  exact h
/-- the loop's head at a code of a play -/
theorem X10_code_head {f i k j q : Nat} {b : Int32} (hf : f < 2) (hi : i < 26) (hk : k ≤ 400) (hj : j < 2940) (h : ND D V E P T R q i j b k σ) (N : Nat) : f_X10_searched_61 (N + 1) σ (nI f) (nI i) = bno (f_X10_mayPlay (sa σ 21 (upd (ga σ 21) i (nI j + 1))) (nI (mv f i)) (nI j)) fun r1 => if (b2i r1.1) = 0 then (f_X10_searched_296 (f_X10_searched_61 N) r1.2 (nI f) (nI i)) else (bno (f_X10_scoreBy r1.2 (nI j)) fun r2 => bno (f_X10_laysBy r2.2 (nI (mv f i)) (nI j)) fun r3 => bno (f_X10_isOut r3 (nI (mv f i))) fun r4 => if (b2i r4) = 0 then (bno (f_X10_enters r3 (nI i + 1) (0) r2.1) fun r5 => f_X10_searched_296 (f_X10_searched_61 N) r5 (nI f) (nI i + 1)) else (lt (si r3 24 ((gi r3 24) + (1))) fun σ2 => bno (f_X10_sumOn σ2 ((1) - nI (mv f i))) fun r6 => bno (f_X10_betters σ2 (nI i) (r2.1 + ((2) * r6))) fun r7 => bno (f_X10_takesBack r7 (nI i)) fun r8 => f_X10_searched_296 (f_X10_searched_61 N) r8 (nI f) (nI i))) := by
  obtain ⟨hP, hF, h24⟩ := h
  have c1 : nI j ≤ (2940 : Int32) := nI_le (b := 2940) (by omega) (by omega)
  have c2 : ¬ nI j = (2940 : Int32) := fun q => absurd ((nI_eq (b := 2940) (by omega) (by omega)).mp q) (by omega)
  rw [X10_head hf hi hk h24]
  unfold f_X10_searched_84
  rw [ixo_nI hi (by omega), ixo_nI hi (by omega), ixo_nI hi (by omega), lt_e, nI_clamp (show i < 2 ^ 31 by omega), hF.2.2.2.1, if_pos c1, if_neg c2]
theorem X10_code_no {f i k j q : Nat} {b : Int32} (hf : f < 2) (hi : i < 26) (hk : k ≤ 400) (hj : j < 2940) (h : ND D V E P T R q i j b k σ) (hr : rcd D T (R (mv f i)) j = false) :
    ∃ σ', FR fx1 fx2 σ σ' ∧ (∀ N, f_X10_searched_61 (N + 1) σ (nI f) (nI i) = f_X10_searched_61 N σ' (nI f) (nI i)) ∧ ND D V E P T R q i (j + 1) b k σ' ∧ SFP i σ σ' := by
  have hP1 : PB D V E P T R (sa σ 21 (upd (ga σ 21) i (nI j + 1))) := h.1
  obtain ⟨σ2, e2, _, f2⟩ := X10_mayPlay hP1 (mv_lt (i := i) hf) hj
  refine ⟨σ2, ((FR_sa σ 21 _).mo (by decide) (by decide)).t (f2.mo (by decide) (by decide)), fun N => ?_, ⟨PB_FR hP1 f2 (by decide) (by decide) (by decide), FM_FR (FM_next h.2.1) f2 (by decide) (by decide) (by decide) (by decide) (by decide), ?_⟩, (SFP_next σ i _).tr (SFP.of f2 (by decide) (by decide) (by decide) (by decide) (by decide) (by decide))⟩
  · rw [X10_code_head hf hi hk hj h, e2, bno_s, hr, if_b, if_neg (by simp)]
    rfl
  · rw [f2.1 24 (by decide)]
    exact h.2.2
theorem X10_code_yes {n : Nat} (hFull : Full D V E P n) (hH : HV V) {f i k j q : Nat} {b : Int32} (hf : f < 2) (hq : q < 2) (hmu : mu R q < n + 1) (hi : i + mu R q ≤ 25) (hne : ¬ (tot (R 0) = 0 ∨ tot (R 1) = 0 ∨ 2 ≤ q)) (hk1 : 1 ≤ k) (hk : k ≤ 400) (hj : j < 2940) (h : ND D V E P T R q i j b k σ) (hr : rcd D T (R (mv f i)) j = true) :
    ∃ s σ', FR fx1 fx2 σ σ' ∧ ((k + (chv D V P n T R (mv f i) (phi j)).2 ≤ 400 ∧ s ≤ 3000 * (chv D V P n T R (mv f i) (phi j)).2 ∧ (∀ N, f_X10_searched_61 (N + s) σ (nI f) (nI i) = f_X10_searched_61 N σ' (nI f) (nI i)) ∧ ND D V E P T R q i (j + 1) (mxI b (chv D V P n T R (mv f i) (phi j)).1) (k + (chv D V P n T R (mv f i) (phi j)).2) σ' ∧ SFP i σ σ') ∨
      (400 < k + (chv D V P n T R (mv f i) (phi j)).2 ∧ s ≤ 3000 * (401 - k) ∧ gi σ' 24 = nI 401 ∧ ∃ i', ∀ N, f_X10_searched_61 (N + s) σ (nI f) (nI i) = f_X10_searched_61 N σ' (nI f) i')) := by
  have hm := mv_lt (i := i) hf
  generalize hmv : mv f i = m at hm hr ⊢
  have hi26 : i < 26 := by omega
  have hP1 : PB D V E P T R (sa σ 21 (upd (ga σ 21) i (nI j + 1))) := h.1
  obtain ⟨σ2, e2, l2, f2⟩ := X10_mayPlay hP1 hm hj
  have hP2 := PB_FR hP1 f2 (by decide) (by decide) (by decide)
  obtain ⟨σ3, e3, l3, f3⟩ := X10_scoreBy hP2 hm hj hr (l2 hr)
  have hP3 := PB_FR hP2 f3 (by decide) (by decide) (by decide)
  obtain ⟨σ4, e4, hP4, f4⟩ := X10_laysBy hP3 hm hj hr l3
  have hkR : ∀ p, p < 2 → okR (R p) := h.1.2.2.2.2.2.2
  have hD := h.1.1.2.2.1
  have hF4 : FM T R q i (j + 1) b σ4 := FM_FR (FM_FR (FM_FR (FM_next h.2.1) f2 (by decide) (by decide) (by decide) (by decide) (by decide)) f3 (by decide) (by decide) (by decide) (by decide) (by decide)) f4 (by decide) (by decide) (by decide) (by decide) (by decide)
  have hS4 : SFP i σ σ4 := (((SFP_next σ i _).tr (SFP.of f2 (by decide) (by decide) (by decide) (by decide) (by decide) (by decide))).tr (SFP.of f3 (by decide) (by decide) (by decide) (by decide) (by decide) (by decide))).tr (SFP.of f4 (by decide) (by decide) (by decide) (by decide) (by decide) (by decide))
  have hFR4 : FR fx1 fx2 σ σ4 := ((((FR_sa σ 21 _).mo (by decide) (by decide)).t (f2.mo (by decide) (by decide))).t (f3.mo (by decide) (by decide))).t (f4.mo (by decide) (by decide))
  have g4 : gi σ4 24 = nI k := by rw [f4.1 24 (by decide), f3.1 24 (by decide), f2.1 24 (by decide)]; exact h.2.2
  -- the rack behind the play
  have hx4 : phi j < 4096 := by rw [phi_val]; omega
  obtain ⟨u, r, hu, a1, a2, a3, a4, u8, a5, a6, a7, a8, a9, a10⟩ := lc_known (T := T) hD hx4 hr
  have hmu2 : mu (updR R m r) 0 < mu R q := mu_play hq hm a10
  rw [a8] at hP4
  have hout := X10_isOut hP4.2.1 hP4.2.2.2.2.2.1 hH hm (hP4.2.2.2.2.2.2 m hm)
  have hrm : updR R m r m = r := if_pos rfl
  have hro : updR R m r (1 - m) = R (1 - m) := if_neg (by omega)
  rw [hrm] at hout
  have hRo : tot (R (1 - m)) ≠ 0 := by
    intro q0
    apply hne
    rcases (by omega : m = 0 ∨ m = 1) with rfl | rfl
    · exact Or.inr (Or.inl q0)
    · exact Or.inl q0
  have hch : chv D V P n T R m (phi j) = (pts D V T P (phi j) - (ev D V P n (lyx D T (phi j)) (updR R m r) (1 - m) 0).1, (ev D V P n (lyx D T (phi j)) (updR R m r) (1 - m) 0).2) := by
    unfold chv
    rw [a8]
  rw [hch]
  by_cases c : tot r = 0
  · -- out
    obtain ⟨n, rfl⟩ : ∃ z, n = z + 1 := ⟨n - 1, by omega⟩
    have hev : ev D V P (n + 1) (lyx D T (phi j)) (updR R m r) (1 - m) 0 = (fin V (updR R m r) (1 - m), 1) := by
      rw [ev, if_pos]
      rcases (by omega : m = 0 ∨ m = 1) with rfl | rfl
      · exact Or.inl (by rw [hrm]; exact c)
      · exact Or.inr (Or.inl (by rw [hrm]; exact c))
    have hfin : fin V (updR R m r) (1 - m) = -2 * vlR V (R (1 - m)) := by
      unfold fin
      rw [hro, show 1 - (1 - m) = m by omega, hrm, if_neg hRo, if_pos c]
    have hval : pts D V T P (phi j) - fin V (updR R m r) (1 - m) = pts D V T P (phi j) + 2 * vlR V (R (1 - m)) := by
      have e : (-2 : Int32) * vlR V (R (1 - m)) = -(2 * vlR V (R (1 - m))) := Int32.neg_mul 2 _
      rw [hfin, e, Int32.sub_neg]
    rw [hev]
    show ∃ s σ', _ ∧ ((k + 1 ≤ 400 ∧ s ≤ 3000 * 1 ∧ _ ∧ ND D V E P T R q i (j + 1) (mxI b (pts D V T P (phi j) - fin V (updR R m r) (1 - m))) (k + 1) σ' ∧ _) ∨ (400 < k + 1 ∧ _))
    rw [hval]
    -- the steps
    have s22 : ga (si σ4 24 (gi σ4 24 + 1)) 22 i = b := hF4.2.2.2.2
    obtain ⟨σ5, hσ5⟩ : ∃ σ5, σ5 = sa (si σ4 24 (gi σ4 24 + 1)) 22 (upd (ga (si σ4 24 (gi σ4 24 + 1)) 22) i (mxI b (pts D V T P (phi j) + 2 * vlR V (R (1 - m))))) := ⟨_, rfl⟩
    have t18 : ga σ5 18 = ga σ4 18 := by rw [hσ5]; rfl
    have t19 : ga σ5 19 = ga σ4 19 := by rw [hσ5]; rfl
    have t20 : ga σ5 20 = ga σ4 20 := by rw [hσ5]; rfl
    have t21 : ga σ5 21 = ga σ4 21 := by rw [hσ5]; rfl
    have t23 : ga σ5 23 = ga σ4 23 := by rw [hσ5]; rfl
    have t0 : ga σ5 0 = ga σ4 0 := by rw [hσ5]; rfl
    have t24 : gi σ5 24 = nI (k + 1) := by
      rw [hσ5]
      show gi σ4 24 + 1 = _
      rw [g4, nI_1]
    have t22 : ∀ z, ga σ5 22 z = if z = i then mxI b (pts D V T P (phi j) + 2 * vlR V (R (1 - m))) else ga σ4 22 z := by
      intro z
      rw [hσ5]
      rfl
    have tF : FR fx1 fx2 σ4 σ5 := by
      rw [hσ5]
      exact ((FR_si σ4 24 _).mo (by decide) (by decide)).t ((FR_sa _ 22 _).mo (by decide) (by decide))
    obtain ⟨σ6, e6, hB6, hR6, f6⟩ := X10_takesBack (σ := σ5) (T := T) (R := R) hi26 (by rw [t18]; exact hF4.1) (by rw [t19]; exact hF4.2.1)
    have hstep : ∀ N, f_X10_searched_61 (N + 1) σ (nI f) (nI i) = f_X10_searched_61 N σ6 (nI f) (nI i) := by
      intro N
      have hsum := X10_sumOn (σ := si σ4 24 (gi σ4 24 + 1)) (V := V) (R := updR R m r) hP4.2.1 hP4.2.2.2.2.2.1 (show 1 - m < 2 by omega)
      rw [X10_code_head hf hi26 hk hj h, hmv, e2, bno_s, hr, if_b, if_pos rfl, e3, bno_s, e4, bno_s, hout, bno_s, if_b, decide_eq_true c, if_pos rfl, lt_e, one_sub m hm, hsum, bno_s, hro, X10_betters hi26, s22, bno_s, ← hσ5, e6, bno_s]
      rfl
    have hSF : SFP i σ σ6 := by
      refine hS4.tr ⟨fun z hz => by rw [f6.2 18 (by decide), t18], fun z hz => by rw [f6.2 19 (by decide), t19], fun z hz => ⟨by rw [f6.2 20 (by decide), t20], by rw [f6.2 23 (by decide), t23]⟩, fun z hz => ⟨by rw [f6.2 21 (by decide), t21], ?_⟩⟩
      rw [f6.2 22 (by decide), t22, if_neg (by omega)]
    have g6 : gi σ6 24 = nI (k + 1) := by rw [f6.1 24 (by decide), t24]
    have hF6 : FR fx1 fx2 σ σ6 := (hFR4.t tF).t (f6.mo (by decide) (by decide))
    refine ⟨1, σ6, hF6, ?_⟩
    by_cases c4 : k + 1 ≤ 400
    · refine Or.inl ⟨c4, by omega, hstep, ⟨PB_of hP4 (by rw [f6.2 0 (by decide), t0]) hB6 hR6 hkR, ⟨?_, ?_, ?_, ?_, ?_⟩, g6⟩, hSF⟩
      · rw [f6.2 18 (by decide), t18]; exact hF4.1
      · rw [f6.2 19 (by decide), t19]; exact hF4.2.1
      · rw [f6.2 20 (by decide), t20]; exact hF4.2.2.1
      · rw [f6.2 21 (by decide), t21]; exact hF4.2.2.2.1
      · rw [f6.2 22 (by decide), t22, if_pos rfl]
    · exact Or.inr ⟨by omega, by omega, by rw [g6]; congr 1; omega, nI i, hstep⟩
  · -- the other's turn
    have hne2 : ¬ (tot (updR R m r 0) = 0 ∨ tot (updR R m r 1) = 0 ∨ 2 ≤ 0) := by
      rcases (by omega : m = 0 ∨ m = 1) with rfl | rfl
      · rw [show updR R 0 r 0 = r from hrm, show updR R 0 r 1 = R 1 from hro]
        have := hRo
        omega
      · rw [show updR R 1 r 1 = r from hrm, show updR R 1 r 0 = R 0 from hro]
        have := hRo
        omega
    obtain ⟨σe, e5, s, σ5, f5, hcs⟩ := X10_child (D := D) (V := V) (E := E) (P := P) (n := n) hFull (σ := σ4) (T := T) (R := R) (T2 := lyx D T (phi j)) (R2 := updR R m r) hf hk1 hk (q2 := 0) (g := pts D V T P (phi j)) hF4 hP4 hkR g4 (by omega) (by omega) hne2
    rw [hmv] at hcs
    have hstep : ∀ N, f_X10_searched_61 (N + 1) σ (nI f) (nI i) = f_X10_searched_61 N σe (nI f) (nI (i + 1)) := by
      intro N
      rw [X10_code_head hf hi26 hk hj h, hmv, e2, bno_s, hr, if_b, if_pos rfl, e3, bno_s, e4, bno_s, hout, bno_s, if_b, decide_eq_false c, if_neg (by simp), nI_1 i]
      show bno (f_X10_enters σ4 (nI (i + 1)) (nI 0) (pts D V T P (phi j))) _ = _
      rw [e5, bno_s]
      rfl
    refine ⟨s + 1, σ5, hFR4.t f5, ?_⟩
    rcases hcs with ⟨b1, b2, b3, b4, b5⟩ | ⟨b1, b2, b3, i', b4⟩
    · refine Or.inl ⟨b1, by omega, fun N => ?_, b4, hS4.tr b5⟩
      rw [← Nat.add_assoc, hstep, b3]
    · refine Or.inr ⟨b1, by omega, b3, i', fun N => ?_⟩
      rw [← Nat.add_assoc, hstep, b4]
theorem X10_plays_part {n : Nat} (hFull : Full D V E P n) (hH : HV V) {f i q : Nat} (hf : f < 2) (hq : q < 2) (hmu : mu R q < n + 1) (hi : i + mu R q ≤ 25) (hne : ¬ (tot (R 0) = 0 ∨ tot (R 1) = 0 ∨ 2 ≤ q)) : ∀ (w j k : Nat) (b : Int32) (σ : St), j + w = 2940 → 1 ≤ k → k ≤ 400 → ND D V E P T R q i j b k σ →
    ∃ s σ', FR fx1 fx2 σ σ' ∧ (((fo (fun c => chv D V P n T R (mv f i) (phi c)) (fl (rcd D T (R (mv f i))) w j) (b, k)).2 ≤ 400 ∧ s ≤ 3000 * ((fo (fun c => chv D V P n T R (mv f i) (phi c)) (fl (rcd D T (R (mv f i))) w j) (b, k)).2 - k) + w ∧ (∀ N, f_X10_searched_61 (N + s) σ (nI f) (nI i) = f_X10_searched_61 N σ' (nI f) (nI i)) ∧ ND D V E P T R q i 2940 (fo (fun c => chv D V P n T R (mv f i) (phi c)) (fl (rcd D T (R (mv f i))) w j) (b, k)).1 (fo (fun c => chv D V P n T R (mv f i) (phi c)) (fl (rcd D T (R (mv f i))) w j) (b, k)).2 σ' ∧ SFP i σ σ') ∨
      (400 < (fo (fun c => chv D V P n T R (mv f i) (phi c)) (fl (rcd D T (R (mv f i))) w j) (b, k)).2 ∧ s ≤ 3000 * (401 - k) + w ∧ gi σ' 24 = nI 401 ∧ ∃ i', ∀ N, f_X10_searched_61 (N + s) σ (nI f) (nI i) = f_X10_searched_61 N σ' (nI f) i')) := by
  intro w
  induction w with
  | zero =>
    intro j k b σ hj hk1 hk h
    have : j = 2940 := by omega
    subst this
    exact ⟨0, σ, FR.rfl' _ _ _, Or.inl ⟨hk, Nat.zero_le _, fun N => rfl, h, SFP.rf _ _⟩⟩
  | succ w ih =>
    intro j k b σ hj hk1 hk h
    by_cases hr : rcd D T (R (mv f i)) j = true
    · have efl : fl (rcd D T (R (mv f i))) (w + 1) j = j :: fl (rcd D T (R (mv f i))) w (j + 1) := by rw [fl, if_pos hr]
      have efo : fo (fun c => chv D V P n T R (mv f i) (phi c)) (j :: fl (rcd D T (R (mv f i))) w (j + 1)) (b, k) = fo (fun c => chv D V P n T R (mv f i) (phi c)) (fl (rcd D T (R (mv f i))) w (j + 1)) (mxI b (chv D V P n T R (mv f i) (phi j)).1, k + (chv D V P n T R (mv f i) (phi j)).2) := by rw [fo]
      rw [efl, efo]
      have hge := (fo_cnt (fun c => chv D V P n T R (mv f i) (phi c)) (fl (rcd D T (R (mv f i))) w (j + 1)) (mxI b (chv D V P n T R (mv f i) (phi j)).1) (k + (chv D V P n T R (mv f i) (phi j)).2)).1
      obtain ⟨s1, σ1, f1, h1⟩ := X10_code_yes hFull hH hf hq hmu hi hne hk1 hk (show j < 2940 by omega) h hr
      rcases h1 with ⟨a1, a2, a3, a4, a5⟩ | ⟨a1, a2, a3, i', a4⟩
      · obtain ⟨s2, σ2, f2, h2⟩ := ih (j + 1) (k + (chv D V P n T R (mv f i) (phi j)).2) (mxI b (chv D V P n T R (mv f i) (phi j)).1) σ1 (by omega) (by omega) a1 a4
        refine ⟨s2 + s1, σ2, f1.t f2, ?_⟩
        rcases h2 with ⟨b1, b2, b3, b4, b5⟩ | ⟨b1, b2, b3, i', b4⟩
        · refine Or.inl ⟨b1, by omega, fun N => ?_, b4, a5.tr b5⟩
          rw [← Nat.add_assoc, a3, b3]
        · refine Or.inr ⟨b1, by omega, b3, i', fun N => ?_⟩
          rw [← Nat.add_assoc, a3, b4]
      · exact ⟨s1, σ1, f1, Or.inr ⟨by omega, by omega, a3, i', a4⟩⟩
    · have efl : fl (rcd D T (R (mv f i))) (w + 1) j = fl (rcd D T (R (mv f i))) w (j + 1) := by rw [fl, if_neg hr]
      rw [efl]
      obtain ⟨σ1, f1, a3, a4, a5⟩ := X10_code_no hf (show i < 26 by omega) hk (show j < 2940 by omega) h (by simpa using hr)
      obtain ⟨s2, σ2, f2, h2⟩ := ih (j + 1) k b σ1 (by omega) hk1 hk a4
      refine ⟨s2 + 1, σ2, f1.t f2, ?_⟩
      rcases h2 with ⟨b1, b2, b3, b4, b5⟩ | ⟨b1, b2, b3, i', b4⟩
      · refine Or.inl ⟨b1, by omega, fun N => ?_, b4, a5.tr b5⟩
        rw [← Nat.add_assoc, a3, b3]
      · refine Or.inr ⟨b1, by omega, b3, i', fun N => ?_⟩
        rw [← Nat.add_assoc, a3, b4]
theorem X10_pass {n : Nat} (hFull : Full D V E P n) (hH : HV V) {f i k q : Nat} {b : Int32} (hf : f < 2) (hq : q < 2) (hmu : mu R q < n + 1) (hi : i + mu R q ≤ 25) (hne : ¬ (tot (R 0) = 0 ∨ tot (R 1) = 0 ∨ 2 ≤ q)) (hk1 : 1 ≤ k) (hk : k ≤ 400) (h : ND D V E P T R q i 2940 b k σ) :
    ∃ s σ', FR fx1 fx2 σ σ' ∧ ((k + (ev D V P n T R (1 - mv f i) (q + 1)).2 ≤ 400 ∧ s ≤ 3000 * (ev D V P n T R (1 - mv f i) (q + 1)).2 ∧ (∀ N, f_X10_searched_61 (N + s) σ (nI f) (nI i) = f_X10_searched_61 N σ' (nI f) (nI i)) ∧ ND D V E P T R q i 2941 (mxI b (-(ev D V P n T R (1 - mv f i) (q + 1)).1)) (k + (ev D V P n T R (1 - mv f i) (q + 1)).2) σ' ∧ SFP i σ σ') ∨
      (400 < k + (ev D V P n T R (1 - mv f i) (q + 1)).2 ∧ s ≤ 3000 * (401 - k) ∧ gi σ' 24 = nI 401 ∧ ∃ i', ∀ N, f_X10_searched_61 (N + s) σ (nI f) (nI i) = f_X10_searched_61 N σ' (nI f) i')) := by
  have hm := mv_lt (i := i) hf
  have hi26 : i < 26 := by omega
  obtain ⟨hP, hF, h24⟩ := id h
  have hkR : ∀ p, p < 2 → okR (R p) := hP.2.2.2.2.2.2
  have hF1 := FM_next hF
  have h24' : gi (sa σ 21 (upd (ga σ 21) i (nI 2940 + 1))) 24 = nI k := h24
  have hP1 : PB D V E P T R (sa σ 21 (upd (ga σ 21) i (nI 2940 + 1))) := hP
  have hfr1 : FR fx1 fx2 σ (sa σ 21 (upd (ga σ 21) i (nI 2940 + 1))) := (FR_sa σ 21 _).mo (by decide) (by decide)
  have hS1 := SFP_next σ i (nI 2940 + 1)
  have hhead : ∀ N, f_X10_searched_61 (N + 1) σ (nI f) (nI i) = if nI q = 1 then (lt (si (sa σ 21 (upd (ga σ 21) i (nI 2940 + 1))) 24 ((gi (sa σ 21 (upd (ga σ 21) i (nI 2940 + 1))) 24) + (1))) fun σ3 => bno (f_X10_sumOn σ3 ((1) - nI (mv f i))) fun r10 => bno (f_X10_sumOn σ3 (nI (mv f i))) fun r11 => bno (f_X10_betters σ3 (nI i) (r10 - r11)) fun r12 => f_X10_searched_296 (f_X10_searched_61 N) r12 (nI f) (nI i)) else (bno (f_X10_enters (sa σ 21 (upd (ga σ 21) i (nI 2940 + 1))) (nI i + 1) (1) (0)) fun r9 => f_X10_searched_296 (f_X10_searched_61 N) r9 (nI f) (nI i + 1)) := by
    intro N
    have s20 : ga (sa σ 21 (upd (ga σ 21) i (nI 2940 + 1))) 20 i = nI q := hF.2.2.1
    rw [X10_head hf hi26 hk h24]
    unfold f_X10_searched_84
    rw [ixo_nI hi26 (by omega), ixo_nI hi26 (by omega), ixo_nI hi26 (by omega), lt_e, nI_clamp (show i < 2 ^ 31 by omega), hF.2.2.2.1, if_pos (show nI 2940 ≤ (2940 : Int32) by decide), if_pos (show nI 2940 = (2940 : Int32) from rfl), ixo_nI hi26 (by omega), s20]
  generalize hmv : mv f i = m at hm hhead ⊢
  by_cases c : q = 1
  · subst c
    obtain ⟨n, rfl⟩ : ∃ z, n = z + 1 := ⟨n - 1, by unfold mu at hmu; omega⟩
    have hev : ev D V P (n + 1) T R (1 - m) (1 + 1) = (fin V R (1 - m), 1) := by
      rw [ev, if_pos (Or.inr (Or.inr (Nat.le_refl 2)))]
    have h0 : tot (R m) ≠ 0 ∧ tot (R (1 - m)) ≠ 0 := by
      rcases (by omega : m = 0 ∨ m = 1) with rfl | rfl
      · show tot (R 0) ≠ 0 ∧ tot (R 1) ≠ 0
        omega
      · show tot (R 1) ≠ 0 ∧ tot (R 0) ≠ 0
        omega
    have hval : -(fin V R (1 - m)) = vlR V (R (1 - m)) - vlR V (R m) := by
      unfold fin
      rw [show 1 - (1 - m) = m by omega, if_neg h0.2, if_neg h0.1, Int32.neg_sub]
    rw [hev]
    show ∃ s σ', _ ∧ ((k + 1 ≤ 400 ∧ s ≤ 3000 * 1 ∧ _ ∧ ND D V E P T R 1 i 2941 (mxI b (-(fin V R (1 - m)))) (k + 1) σ' ∧ _) ∨ (400 < k + 1 ∧ _))
    rw [hval]
    obtain ⟨σ1, hσ1⟩ : ∃ σ1, σ1 = sa σ 21 (upd (ga σ 21) i (nI 2940 + 1)) := ⟨_, rfl⟩
    rw [← hσ1] at hF1 h24' hP1 hfr1 hS1 hhead
    have s22 : ga (si σ1 24 (gi σ1 24 + 1)) 22 i = b := hF1.2.2.2.2
    obtain ⟨σ5, hσ5⟩ : ∃ σ5, σ5 = sa (si σ1 24 (gi σ1 24 + 1)) 22 (upd (ga (si σ1 24 (gi σ1 24 + 1)) 22) i (mxI b (vlR V (R (1 - m)) - vlR V (R m)))) := ⟨_, rfl⟩
    have t24 : gi σ5 24 = nI (k + 1) := by
      rw [hσ5]
      show gi σ1 24 + 1 = _
      rw [h24', nI_1]
    have hstep : ∀ N, f_X10_searched_61 (N + 1) σ (nI f) (nI i) = f_X10_searched_61 N σ5 (nI f) (nI i) := by
      intro N
      have hs1 := X10_sumOn (σ := si σ1 24 (gi σ1 24 + 1)) (V := V) (R := R) hP1.2.1 hP1.2.2.2.2.2.1 (show 1 - m < 2 by omega)
      have hs2 := X10_sumOn (σ := si σ1 24 (gi σ1 24 + 1)) (V := V) (R := R) hP1.2.1 hP1.2.2.2.2.2.1 hm
      rw [hhead, if_pos (show nI 1 = (1 : Int32) from rfl), lt_e, one_sub m hm, hs1, bno_s, hs2, bno_s, X10_betters hi26, s22, bno_s, ← hσ5]
      rfl
    have hF5 : FR fx1 fx2 σ σ5 := by
      refine hfr1.t ?_
      rw [hσ5]
      exact ((FR_si σ1 24 _).mo (by decide) (by decide)).t ((FR_sa _ 22 _).mo (by decide) (by decide))
    refine ⟨1, σ5, hF5, ?_⟩
    by_cases c4 : k + 1 ≤ 400
    · refine Or.inl ⟨c4, by omega, hstep, ⟨?_, ⟨?_, ?_, ?_, ?_, ?_⟩, t24⟩, hS1.tr ?_⟩
      · rw [hσ5]; exact hP1
      · rw [hσ5]; exact hF1.1
      · rw [hσ5]; exact hF1.2.1
      · rw [hσ5]; exact hF1.2.2.1
      · rw [hσ5]; exact hF1.2.2.2.1
      · rw [hσ5]
        show (if i = i then mxI b (vlR V (R (1 - m)) - vlR V (R m)) else _) = _
        rw [if_pos rfl]
      · rw [hσ5]
        refine ⟨fun _ _ => rfl, fun _ _ => rfl, fun _ _ => ⟨rfl, rfl⟩, fun z hz => ⟨rfl, ?_⟩⟩
        show (if z = i then _ else ga σ1 22 z) = _
        rw [if_neg (by omega)]
    · exact Or.inr ⟨by omega, by omega, by rw [t24]; congr 1; omega, nI i, hstep⟩
  · have hq0 : q = 0 := by omega
    subst hq0
    rw [Nat.zero_add]
    have hmu1 : mu R 1 < mu R 0 := by unfold mu; omega
    obtain ⟨σe, e5, s, σ5, f5, hcs⟩ := X10_child (D := D) (V := V) (E := E) (P := P) (n := n) hFull (σ := sa σ 21 (upd (ga σ 21) i (nI 2940 + 1))) (T := T) (R := R) (T2 := T) (R2 := R) hf hk1 hk (q2 := 1) (g := 0) hF1 hP1 hkR h24' (by omega) (by omega) (by omega)
    rw [hmv] at hcs
    have hstep : ∀ N, f_X10_searched_61 (N + 1) σ (nI f) (nI i) = f_X10_searched_61 N σe (nI f) (nI (i + 1)) := by
      intro N
      rw [hhead, if_neg (show ¬ nI 0 = (1 : Int32) by decide), nI_1 i]
      show bno (f_X10_enters _ (nI (i + 1)) (nI 1) 0) _ = _
      rw [e5, bno_s]
      rfl
    rw [Int32.zero_sub] at hcs
    refine ⟨s + 1, σ5, hfr1.t f5, ?_⟩
    rcases hcs with ⟨b1, b2, b3, b4, b5⟩ | ⟨b1, b2, b3, i', b4⟩
    · refine Or.inl ⟨b1, by omega, fun N => ?_, b4, hS1.tr b5⟩
      rw [← Nat.add_assoc, hstep, b3]
    · refine Or.inr ⟨b1, by omega, b3, i', fun N => ?_⟩
      rw [← Nat.add_assoc, hstep, b4]
end
theorem fo_val0 (g : Nat → Int32 × Nat) (L : List Nat) : ∀ (p q : Int32 × Nat), p.1 = q.1 → (fo g L p).1 = (fo g L q).1 := by
  induction L with
  | nil =>
    intro p q h
    rw [fo, fo]
    exact h
  | cons x L ih =>
    intro p q h
    rw [fo, fo]
    apply ih
    rw [h]
theorem mxI_low {x : Int32} (h : bdd x (-999999) 999999) : mxI x (-1000000) = x := by
  obtain ⟨z, rfl, h1, h2⟩ := h
  unfold mxI
  rw [if_neg]
  rw [m1e6, iI_lt (by omega) (by omega) (by omega) (by omega)]
  omega
theorem X10_full {D : List (List Nat)} {V E : Nat → Int32} {P : Nat → Nat → Int32} (hH : HV V) : ∀ n, Full D V E P n := by
  intro n
  induction n with
  | zero =>
    intro T R q i k f σ hmu
    omega
  | succ n ih =>
    intro T R q i k f σ hmu hi hne hk1 hk hf h
    have hq : q < 2 := by omega
    have hm := mv_lt (i := i) hf
    have hkR : ∀ p, p < 2 → okR (R p) := h.1.2.2.2.2.2.2
    have hD := h.1.1
    have hT : okT T := h.1.2.2.2.2.1.1
    have hmu1 : mu R (q + 1) < mu R q := by unfold mu; omega
    -- the tree's value in the reference's order
    have hpb := ev_bdd (P := P) hD.2.2.1 hH n T R (1 - mv f i) (q + 1) (by omega) (by omega) hT hkR
    have hR0 := hkR 0 (by omega)
    have hR1 := hkR 1 (by omega)
    unfold okR at hR0 hR1
    have hlow : mxI (-(ev D V P n T R (1 - mv f i) (q + 1)).1) (-1000000) = -(ev D V P n T R (1 - mv f i) (q + 1)).1 := mxI_low (bdd_mo (bdd_neg hpb) (by omega) (by omega))
    have hev : ev D V P (n + 1) T R (mv f i) q = fo (fun c => chv D V P n T R (mv f i) (phi c)) (fl (rcd D T (R (mv f i))) 2940 0) (-(ev D V P n T R (1 - mv f i) (q + 1)).1, 1 + (ev D V P n T R (1 - mv f i) (q + 1)).2) := by
      rw [ev, if_neg hne, fl_phi hD.2.1, fo_map]
      rfl
    have hcnt := fo_cnt (fun c => chv D V P n T R (mv f i) (phi c)) (fl (rcd D T (R (mv f i))) 2940 0) (-1000000) k
    have hcnt1 := fo_cnt (fun c => chv D V P n T R (mv f i) (phi c)) (fl (rcd D T (R (mv f i))) 2940 0) (-(ev D V P n T R (1 - mv f i) (q + 1)).1) (1 + (ev D V P n T R (1 - mv f i) (q + 1)).2)
    have hc2 : (ev D V P (n + 1) T R (mv f i) q).2 + k = (fo (fun c => chv D V P n T R (mv f i) (phi c)) (fl (rcd D T (R (mv f i))) 2940 0) (-1000000, k)).2 + (1 + (ev D V P n T R (1 - mv f i) (q + 1)).2) := by
      rw [hev, ← hcnt1.2 (-1000000) k, ← hcnt.2 (-1000000) (1 + (ev D V P n T R (1 - mv f i) (q + 1)).2), Nat.add_comm k]
    have hv1 : (ev D V P (n + 1) T R (mv f i) q).1 = mxI (fo (fun c => chv D V P n T R (mv f i) (phi c)) (fl (rcd D T (R (mv f i))) 2940 0) (-1000000, k)).1 (-(ev D V P n T R (1 - mv f i) (q + 1)).1) := by
      rw [hev, mxI_comm]
      apply fo_mx2
      exact hlow.symm
    have hpos := ev_pos (D := D) (V := V) (P := P) n T R (1 - mv f i) (q + 1)
    have hge := hcnt.1
    obtain ⟨s1, σ1, f1, h1⟩ := X10_plays_part ih hH hf hq hmu hi hne 2940 0 k (-1000000) σ (by omega) hk1 hk h
    rcases h1 with ⟨a1, a2, a3, a4, a5⟩ | ⟨a1, a2, a3, i', a4⟩
    · obtain ⟨s2, σ2, f2, h2⟩ := X10_pass ih hH hf hq hmu hi hne (by omega) a1 a4
      refine ⟨s2 + s1, σ2, f1.t f2, ?_⟩
      rcases h2 with ⟨b1, b2, b3, b4, b5⟩ | ⟨b1, b2, b3, i', b4⟩
      · refine Or.inl ⟨by omega, by omega, fun N => ?_, ?_, a5.tr b5⟩
        · rw [← Nat.add_assoc, a3, b3]
        · rw [hv1, show k + (ev D V P (n + 1) T R (mv f i) q).2 - 1 = (fo (fun c => chv D V P n T R (mv f i) (phi c)) (fl (rcd D T (R (mv f i))) 2940 0) (-1000000, k)).2 + (ev D V P n T R (1 - mv f i) (q + 1)).2 by omega]
          exact b4
      · refine Or.inr ⟨by omega, by omega, b3, i', fun N => ?_⟩
        rw [← Nat.add_assoc, a3, b4]
    · exact ⟨s1, σ1, f1, Or.inr ⟨by omega, by omega, a3, i', a4⟩⟩
theorem X10_searched {D : List (List Nat)} {V E : Nat → Int32} {P : Nat → Nat → Int32} {T : Bd} {R : Nat → Nat → Nat} {σ : St} (hH : HV V) (h : PB D V E P T R σ) {f : Nat} (hf : f < 2) :
    ∃ v σ', f_X10_searched σ (nI f) = some (v, σ') ∧ FR fx1 fx2 σ σ' ∧ (((ev D V P 44 T R f 0).2 ≤ 400 ∧ v = (ev D V P 44 T R f 0).1 ∧ ∃ k, k ≤ 400 ∧ gi σ' 24 = nI k) ∨ (400 < (ev D V P 44 T R f 0).2 ∧ gi σ' 24 = nI 401)) := by
  have hkR : ∀ p, p < 2 → okR (R p) := h.2.2.2.2.2.2
  have h1 : PB D V E P T R (si σ 24 0) := h
  have f1 : FR fx1 fx2 σ (si σ 24 0) := (FR_si σ 24 _).mo (by decide) (by decide)
  have o1 := X10_isOut (σ := si σ 24 0) h1.2.1 h1.2.2.2.2.2.1 hH hf (hkR f hf)
  have o2 := X10_isOut (σ := si σ 24 0) h1.2.1 h1.2.2.2.2.2.1 hH (show 1 - f < 2 by omega) (hkR (1 - f) (by omega))
  have s1 := X10_sumOn (σ := si σ 24 0) h1.2.1 h1.2.2.2.2.2.1 hf
  have s2 := X10_sumOn (σ := si σ 24 0) h1.2.1 h1.2.2.2.2.2.1 (show 1 - f < 2 by omega)
  unfold f_X10_searched f_X10_searched_23
  rw [lt_e, one_sub f hf]
  simp only [o1, o2, s1, s2, bno_s, if_b]
  have hended : tot (R f) = 0 ∨ tot (R (1 - f)) = 0 → ev D V P 44 T R f 0 = (fin V R f, 1) := by
    intro q
    rw [ev, if_pos]
    rcases (by omega : f = 0 ∨ f = 1) with rfl | rfl
    · rcases q with q | q
      · exact Or.inl q
      · exact Or.inr (Or.inl q)
    · rcases q with q | q
      · exact Or.inr (Or.inl q)
      · exact Or.inl q
  by_cases c1 : tot (R f) = 0
  · rw [decide_eq_true c1, if_pos rfl, if_pos rfl, hended (Or.inl c1)]
    refine ⟨_, _, rfl, f1, Or.inl ⟨by show 1 ≤ 400; omega, ?_, 0, by omega, rfl⟩⟩
    show _ = fin V R f
    unfold fin
    rw [if_pos c1]
  · rw [decide_eq_false c1, if_neg (by simp)]
    by_cases c2 : tot (R (1 - f)) = 0
    · rw [decide_eq_true c2, if_pos rfl, if_neg (by simp), hended (Or.inr c2)]
      refine ⟨_, _, rfl, f1, Or.inl ⟨by show 1 ≤ 400; omega, ?_, 0, by omega, rfl⟩⟩
      show _ = fin V R f
      unfold fin
      rw [if_neg c1, if_pos c2]
    · rw [decide_eq_false c2, if_neg (by simp)]
      have hR0 := hkR 0 (by omega)
      have hR1 := hkR 1 (by omega)
      unfold okR at hR0 hR1
      have hmu : mu R 0 ≤ 22 := by unfold mu; omega
      have hne : ¬ (tot (R 0) = 0 ∨ tot (R 1) = 0 ∨ 2 ≤ 0) := by
        rcases (by omega : f = 0 ∨ f = 1) with rfl | rfl
        · have c2 : ¬ tot (R 1) = 0 := c2
          omega
        · have c2 : ¬ tot (R 0) = 0 := c2
          omega
      obtain ⟨σ2, e2, hB, hR, k18, k19, k20, k21, k22, k23, k24, f2⟩ := X10_enters (σ := si σ 24 0) h1.2.2.2.2.1 h1.2.2.2.2.2.1 (show 0 < 26 by omega) 0 0
      have e2' : f_X10_enters (si σ 24 0) 0 0 0 = some σ2 := e2
      rw [e2', bno_s]
      have hND : ND D V E P T R 0 0 0 (-1000000) 1 σ2 := ⟨PB_FR h1 f2 (by decide) (by decide) (by decide), ⟨hB, hR, by rw [k20]; rfl, by rw [k21]; rfl, by rw [k22]; rfl⟩, by rw [k24]; rfl⟩
      obtain ⟨s, σ3, f3, h3⟩ := X10_full (D := D) (E := E) (P := P) hH 44 T R 0 0 1 f σ2 (by omega) (by omega) hne (by omega) (by omega) hf hND
      have F3 : FR fx1 fx2 σ σ3 := (f1.t (f2.mo (by decide) (by decide))).t f3
      have emv : mv f 0 = f := rfl
      rw [emv] at h3
      have hpos := ev_pos (D := D) (V := V) (P := P) 44 T R f 0
      rcases h3 with ⟨a1, a2, a3, a4, a5⟩ | ⟨a1, a2, a3, i', a4⟩
      · obtain ⟨N, hN⟩ : ∃ N, FU = N + 1 + s := ⟨FU - 1 - s, by unfold FU; omega⟩
        have a3' : f_X10_searched_61 FU σ2 (nI f) 0 = f_X10_searched_61 (N + 1) σ3 (nI f) (nI 0) := by rw [hN]; exact a3 (N + 1)
        obtain ⟨hP4, hF4, g4⟩ := a4
        rw [a3', X10_head hf (by omega) (show 1 + (ev D V P 44 T R f 0).2 - 1 ≤ 400 by omega) g4]
        unfold f_X10_searched_84
        rw [ixo_nI (show 0 < 26 by omega) (by omega), ixo_nI (show 0 < 26 by omega) (by omega), ixo_nI (show 0 < 26 by omega) (by omega), lt_e, nI_clamp (show 0 < 2 ^ 31 by omega), hF4.2.2.2.1, if_neg (show ¬ nI 2941 ≤ (2940 : Int32) by decide), if_pos (show nI 0 = (0 : Int32) from rfl)]
        refine ⟨(ev D V P 44 T R f 0).1, sa σ3 21 (upd (ga σ3 21) 0 (nI 2941 + 1)), ?_, F3.t ((FR_sa σ3 21 _).mo (by decide) (by decide)), Or.inl ⟨by omega, rfl, 1 + (ev D V P 44 T R f 0).2 - 1, by omega, g4⟩⟩
        have g22 : ga (sa σ3 21 (upd (ga σ3 21) 0 (nI 2941 + 1))) 22 (Int32.toNatClampNeg 0) = (ev D V P 44 T R f 0).1 := hF4.2.2.2.2
        rw [g22]
        rfl
      · obtain ⟨N, hN⟩ : ∃ N, FU = N + 1 + s := ⟨FU - 1 - s, by unfold FU; omega⟩
        have a4' : f_X10_searched_61 FU σ2 (nI f) 0 = f_X10_searched_61 (N + 1) σ3 (nI f) i' := by rw [hN]; exact a4 (N + 1)
        rw [a4', f_X10_searched_61, a3, if_pos (by decide)]
        exact ⟨0, σ3, rfl, F3, Or.inr ⟨by omega, a3⟩⟩
