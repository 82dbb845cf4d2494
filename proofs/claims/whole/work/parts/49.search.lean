/-! ===== the reference's search: a position with all that lies behind it ===== -/
theorem mxI_int (a b : Int32) : (mxI a b).toInt = if a.toInt < b.toInt then b.toInt else a.toInt := by
  unfold mxI
  by_cases c : a < b
  · rw [if_pos c, if_pos ((fa_lt _ _).mp c)]
  · rw [if_neg c, if_neg (fun q => c ((fa_lt _ _).mpr q))]
theorem mxI_comm (a b : Int32) : mxI a b = mxI b a := by
  apply Int32.toInt_inj.mp
  rw [mxI_int, mxI_int]
  split <;> split <;> omega
theorem mxI_assoc (a b c : Int32) : mxI (mxI a b) c = mxI a (mxI b c) := by
  apply Int32.toInt_inj.mp
  rw [mxI_int, mxI_int, mxI_int, mxI_int]
  split <;> (try split) <;> (try split) <;> (try split) <;> first | rfl | omega
theorem fo_mx2 (g : Nat → Int32 × Nat) (L : List Nat) : ∀ (c : Int32) (p q : Int32 × Nat), p.1 = mxI c q.1 → (fo g L p).1 = mxI c (fo g L q).1 := by
  induction L with
  | nil =>
    intro c p q h
    rw [fo, fo]
    exact h
  | cons x L ih =>
    intro c p q h
    rw [fo, fo]
    apply ih
    rw [h, mxI_assoc]
theorem fo_mx (g : Nat → Int32 × Nat) (L : List Nat) (a b : Int32) (k j : Nat) : (fo g L (mxI a b, k)).1 = mxI a (fo g L (b, j)).1 := fo_mx2 g L a (mxI a b, k) (b, j) rfl
theorem fo_map (g : Nat → Int32 × Nat) (f : Nat → Nat) : ∀ (L : List Nat) (a : Int32 × Nat), fo g (L.map f) a = fo (fun x => g (f x)) L a
  | [], _ => rfl
  | x :: L, a => fo_map g f L _
def mv (f i : Nat) : Nat := if i % 2 = 0 then f else 1 - f
theorem mv_lt {f i : Nat} (h : f < 2) : mv f i < 2 := by
  unfold mv
  split <;> omega
theorem mv_suc {f i : Nat} (h : f < 2) : mv f (i + 1) = 1 - mv f i := by
  unfold mv
  by_cases c : i % 2 = 0
  · rw [if_pos c, if_neg (by omega)]
  · rw [if_neg c, if_pos (by omega)]
    omega
def fx1 : List Nat := [7, 10, 11, 12, 14, 24]
def fx2 : List Nat := [6, 8, 9, 13, 15, 18, 19, 20, 21, 22, 23]
/-- the frames up to i are kept -/
def SFP (i : Nat) (σ σ' : St) : Prop := (∀ z, z < 49 * (i + 1) → ga σ' 18 z = ga σ 18 z) ∧ (∀ z, z < 16 * (i + 1) → ga σ' 19 z = ga σ 19 z) ∧ (∀ z, z ≤ i → ga σ' 20 z = ga σ 20 z ∧ ga σ' 23 z = ga σ 23 z) ∧ ∀ z, z < i → ga σ' 21 z = ga σ 21 z ∧ ga σ' 22 z = ga σ 22 z
theorem SFP.rf (i : Nat) (σ : St) : SFP i σ σ := ⟨fun _ _ => rfl, fun _ _ => rfl, fun _ _ => ⟨rfl, rfl⟩, fun _ _ => ⟨rfl, rfl⟩⟩
theorem SFP.tr {i : Nat} {σ σ1 σ2 : St} (h : SFP i σ σ1) (h2 : SFP i σ1 σ2) : SFP i σ σ2 := ⟨fun z hz => by rw [h2.1 z hz, h.1 z hz], fun z hz => by rw [h2.2.1 z hz, h.2.1 z hz], fun z hz => ⟨by rw [(h2.2.2.1 z hz).1, (h.2.2.1 z hz).1], by rw [(h2.2.2.1 z hz).2, (h.2.2.1 z hz).2]⟩, fun z hz => ⟨by rw [(h2.2.2.2 z hz).1, (h.2.2.2 z hz).1], by rw [(h2.2.2.2 z hz).2, (h.2.2.2 z hz).2]⟩⟩
theorem SFP.of {i : Nat} {σ σ' : St} {is js : List Nat} (h : FR is js σ σ') (h18 : 18 ∉ js) (h19 : 19 ∉ js) (h20 : 20 ∉ js) (h21 : 21 ∉ js) (h22 : 22 ∉ js) (h23 : 23 ∉ js) : SFP i σ σ' :=
  ⟨fun z _ => by rw [h.2 18 h18], fun z _ => by rw [h.2 19 h19], fun z _ => ⟨by rw [h.2 20 h20], by rw [h.2 23 h23]⟩, fun z _ => ⟨by rw [h.2 21 h21], by rw [h.2 22 h22]⟩⟩
section
variable {D : List (List Nat)} {V E : Nat → Int32} {P : Nat → Nat → Int32} {T T2 : Bd} {R R2 : Nat → Nat → Nat} {σ : St}
/-- the frame of a position -/
def FM (T : Bd) (R : Nat → Nat → Nat) (q i j : Nat) (b : Int32) (σ : St) : Prop := BR T (fun z => ga σ 18 (49 * i + z)) ∧ RR R (fun z => ga σ 19 (16 * i + z)) ∧ ga σ 20 i = nI q ∧ ga σ 21 i = nI j ∧ ga σ 22 i = b
def ND (D : List (List Nat)) (V E : Nat → Int32) (P : Nat → Nat → Int32) (T : Bd) (R : Nat → Nat → Nat) (q i j : Nat) (b : Int32) (k : Nat) (σ : St) : Prop := PB D V E P T R σ ∧ FM T R q i j b σ ∧ gi σ 24 = nI k
theorem RR_cong {f g : Nat → Int32} (h : RR R f) (hg : ∀ z, z < 16 → g z = f z) : RR R g := fun p l hp hl => by rw [hg _ (by omega)]; exact h p l hp hl
theorem BR_cong {f g : Nat → Int32} (h : BR T f) (hg : ∀ z, z < 49 → g z = f z) : BR T g := ⟨h.1, fun r c hr hc => by rw [hg _ (by omega)]; exact h.2 r c hr hc⟩
/-- a frame under a change of what lies above it -/
theorem FM_SFP {q i j : Nat} {b : Int32} {σ' : St} (h : FM T R q i j b σ) (hs : SFP i σ σ') : BR T (fun z => ga σ' 18 (49 * i + z)) ∧ RR R (fun z => ga σ' 19 (16 * i + z)) ∧ ga σ' 20 i = nI q :=
  ⟨BR_cong h.1 (fun z hz => hs.1 _ (by omega)), RR_cong h.2.1 (fun z hz => hs.2.1 _ (by omega)), by rw [(hs.2.2.1 i (Nat.le_refl _)).1]; exact h.2.2.1⟩
theorem FM_up {q i j : Nat} {b : Int32} {σ' : St} (h : FM T R q i j b σ) (hs : SFP (i + 1) σ σ') : FM T R q i j b σ' :=
  ⟨BR_cong h.1 (fun z hz => hs.1 _ (by omega)), RR_cong h.2.1 (fun z hz => hs.2.1 _ (by omega)), by rw [(hs.2.2.1 i (by omega)).1]; exact h.2.2.1, by rw [(hs.2.2.2 i (by omega)).1]; exact h.2.2.2.1, by rw [(hs.2.2.2 i (by omega)).2]; exact h.2.2.2.2⟩
theorem SFP_down {i : Nat} {σ' : St} (hs : SFP (i + 1) σ σ') : SFP i σ σ' := ⟨fun z hz => hs.1 z (by omega), fun z hz => hs.2.1 z (by omega), fun z hz => hs.2.2.1 z (by omega), fun z hz => hs.2.2.2 z (by omega)⟩
theorem PB_of (h : PB D V E P T R σ) {σ' : St} (h0 : ga σ' 0 = ga σ 0) (hB : BR T2 (ga σ' 8)) (hR : RR R2 (ga σ' 9)) (hk : ∀ p, p < 2 → okR (R2 p)) : PB D V E P T2 R2 σ' := by
  unfold PB
  rw [h0]
  exact ⟨h.1, h.2.1, h.2.2.1, h.2.2.2.1, hB, hR, hk⟩
theorem X10_head {f i k N : Nat} (hf : f < 2) (hi : i < 26) (hk : k ≤ 400) (h : gi σ 24 = nI k) : f_X10_searched_61 (N + 1) σ (nI f) (nI i) = f_X10_searched_84 (f_X10_searched_61 N) σ (nI f) (nI i) (nI (mv f i)) := by
  have e1 : ¬ (400 : Int32) < nI k := nI_nlt (b := k) (a := 400) (by omega) (by omega)
  have e2 : nI i - nI i / 2 * 2 = nI (i % 2) := pk_rem (a := i) (d := 2) (by omega) (by omega) (by omega)
  have e3 : (nI (i % 2) = (0 : Int32)) = (i % 2 = 0) := propext (nI_eq (b := 0) (by omega) (by omega))
  rw [f_X10_searched_61, h, if_neg e1, e2]
  simp only [e3]
  unfold mv
  by_cases c : i % 2 = 0
  · rw [if_pos c, if_pos c]
  · rw [if_neg c, if_neg c, one_sub f hf]
theorem m1e6 : (-1000000 : Int32) = iI (-1000000) := by decide +kernel
/-- from a child's end back to its parent -/
theorem X10_return {f i k : Nat} (hf : f < 2) (hi : i < 25) (hk : k ≤ 400) {q j : Nat} {b v g : Int32} (hF : FM T R q i j b σ) (hP : PB D V E P T2 R2 σ) (hkR : ∀ p, p < 2 → okR (R p)) (h21 : ga σ 21 (i + 1) = nI 2941) (h22 : ga σ 22 (i + 1) = v) (h23 : ga σ 23 (i + 1) = g) (h24 : gi σ 24 = nI k) :
    ∃ σ', (∀ N, f_X10_searched_61 (N + 1) σ (nI f) (nI (i + 1)) = f_X10_searched_61 N σ' (nI f) (nI i)) ∧ ND D V E P T R q i j (mxI b (g - v)) k σ' ∧ SFP i σ σ' ∧ FR fx1 fx2 σ σ' := by
  have e1 : nI (i + 1) + -1 = nI i := by
    rw [iI_nI, iI_nI, iI_m1, iI_add]
    congr 1
    omega
  have e2 : ¬ nI 2941 ≤ (2940 : Int32) := by decide
  have e3 : ¬ nI (i + 1) = 0 := nI_ne0 (by omega) (by omega)
  have t18 : ∀ σ' : St, σ' = sa (sa σ 21 (upd (ga σ 21) (i + 1) (nI 2941 + 1))) 22 (upd (ga σ 22) i (mxI (ga σ 22 i) (g - v))) → ga σ' 18 = ga σ 18 ∧ ga σ' 19 = ga σ 19 ∧ ga σ' 20 = ga σ 20 ∧ ga σ' 23 = ga σ 23 ∧ ga σ' 0 = ga σ 0 ∧ gi σ' 24 = gi σ 24 ∧ (∀ z, z ≠ i + 1 → ga σ' 21 z = ga σ 21 z) ∧ (∀ z, z ≠ i → ga σ' 22 z = ga σ 22 z) ∧ ga σ' 22 i = mxI (ga σ 22 i) (g - v) ∧ FR fx1 fx2 σ σ' := by
    intro σ' hσ
    subst hσ
    refine ⟨rfl, rfl, rfl, rfl, rfl, rfl, ?_, ?_, ?_, ?_⟩
    · intro z hz
      show (if z = i + 1 then _ else ga σ 21 z) = _
      rw [if_neg hz]
    · intro z hz
      show (if z = i then _ else ga σ 22 z) = _
      rw [if_neg hz]
    · show (if i = i then mxI (ga σ 22 i) (g - v) else ga σ 22 i) = _
      rw [if_pos rfl]
    · exact ((FR_sa σ 21 _).mo (by decide) (by decide)).t ((FR_sa _ 22 _).mo (by decide) (by decide))
  obtain ⟨σ1, hσ1⟩ : ∃ σ1, σ1 = sa (sa σ 21 (upd (ga σ 21) (i + 1) (nI 2941 + 1))) 22 (upd (ga σ 22) i (mxI (ga σ 22 i) (g - v))) := ⟨_, rfl⟩
  obtain ⟨t18, t19, t20, t23, t0, t24, t21, t22, t22i, tF⟩ := t18 σ1 hσ1
  obtain ⟨σ2, e4, hB, hR, f2⟩ := X10_takesBack (σ := σ1) (T := T) (R := R) (show i < 26 by omega) (by rw [t18]; exact hF.1) (by rw [t19]; exact hF.2.1)
  refine ⟨σ2, fun N => ?_, ⟨PB_of hP (by rw [f2.2 0 (by decide), t0]) hB hR hkR, ⟨?_, ?_, ?_, ?_, ?_⟩, by rw [f2.1 24 (by decide), t24, h24]⟩, ?_, tF.t (f2.mo (by decide) (by decide))⟩
  · rw [X10_head hf (by omega) hk h24]
    unfold f_X10_searched_84
    have s23 : ga (sa σ 21 (upd (ga σ 21) (i + 1) (nI 2941 + 1))) 23 (i + 1) = g := h23
    have s22 : ga (sa σ 21 (upd (ga σ 21) (i + 1) (nI 2941 + 1))) 22 = ga σ 22 := rfl
    rw [ixo_nI (by omega) (by omega), ixo_nI (by omega) (by omega), ixo_nI (by omega) (by omega), lt_e, nI_clamp (by omega), h21, if_neg e2, if_neg e3, e1, nI_1 i, ixo_nI (by omega) (by omega), ixo_nI (by omega) (by omega), nI_clamp (by omega), X10_betters (by omega), bno_s, s23, s22, h22, ← hσ1, e4, bno_s]
    rfl
  · rw [f2.2 18 (by decide), t18]; exact hF.1
  · rw [f2.2 19 (by decide), t19]; exact hF.2.1
  · rw [f2.2 20 (by decide), t20]; exact hF.2.2.1
  · rw [f2.2 21 (by decide), t21 _ (by omega)]; exact hF.2.2.2.1
  · rw [f2.2 22 (by decide), t22i, hF.2.2.2.2]
  · refine ⟨fun z _ => by rw [f2.2 18 (by decide), t18], fun z _ => by rw [f2.2 19 (by decide), t19], fun z _ => ⟨by rw [f2.2 20 (by decide), t20], by rw [f2.2 23 (by decide), t23]⟩, fun z hz => ⟨by rw [f2.2 21 (by decide), t21 _ (by omega)], by rw [f2.2 22 (by decide), t22 _ (by omega)]⟩⟩
/-- what is claimed of a position that isn't ended, from its first move on -/
def Full (D : List (List Nat)) (V E : Nat → Int32) (P : Nat → Nat → Int32) (n : Nat) : Prop := ∀ (T : Bd) (R : Nat → Nat → Nat) (q i k f : Nat) (σ : St), mu R q < n → i + mu R q ≤ 25 → ¬ (tot (R 0) = 0 ∨ tot (R 1) = 0 ∨ 2 ≤ q) → 1 ≤ k → k ≤ 400 → f < 2 → ND D V E P T R q i 0 (-1000000) k σ →
  ∃ s σ', FR fx1 fx2 σ σ' ∧ ((k + (ev D V P n T R (mv f i) q).2 ≤ 401 ∧ s ≤ 3000 * ((ev D V P n T R (mv f i) q).2 - 1) + 2941 ∧ (∀ N, f_X10_searched_61 (N + s) σ (nI f) (nI i) = f_X10_searched_61 N σ' (nI f) (nI i)) ∧ ND D V E P T R q i 2941 (ev D V P n T R (mv f i) q).1 (k + (ev D V P n T R (mv f i) q).2 - 1) σ' ∧ SFP i σ σ') ∨
    (401 < k + (ev D V P n T R (mv f i) q).2 ∧ s ≤ 3000 * (401 - k) + 2941 ∧ gi σ' 24 = nI 401 ∧ ∃ i', ∀ N, f_X10_searched_61 (N + s) σ (nI f) (nI i) = f_X10_searched_61 N σ' (nI f) i'))
/-- a child is entered, walked, left -/
theorem X10_child {n : Nat} (hFull : Full D V E P n) {f i k : Nat} (hf : f < 2) (hk1 : 1 ≤ k) (hk : k ≤ 400) {q j q2 : Nat} {b g : Int32} (hF : FM T R q i j b σ) (hP : PB D V E P T2 R2 σ) (hkR : ∀ p, p < 2 → okR (R p)) (h24 : gi σ 24 = nI k) (hmu : mu R2 q2 < n) (hi : i + 1 + mu R2 q2 ≤ 25) (hne : ¬ (tot (R2 0) = 0 ∨ tot (R2 1) = 0 ∨ 2 ≤ q2)) :
    ∃ σe, f_X10_enters σ (nI (i + 1)) (nI q2) g = some σe ∧ ∃ s σ', FR fx1 fx2 σ σ' ∧ ((k + (ev D V P n T2 R2 (1 - mv f i) q2).2 ≤ 400 ∧ s + 50 ≤ 3000 * (ev D V P n T2 R2 (1 - mv f i) q2).2 ∧ (∀ N, f_X10_searched_61 (N + s) σe (nI f) (nI (i + 1)) = f_X10_searched_61 N σ' (nI f) (nI i)) ∧ ND D V E P T R q i j (mxI b (g - (ev D V P n T2 R2 (1 - mv f i) q2).1)) (k + (ev D V P n T2 R2 (1 - mv f i) q2).2) σ' ∧ SFP i σ σ') ∨
      (400 < k + (ev D V P n T2 R2 (1 - mv f i) q2).2 ∧ s + 50 ≤ 3000 * (401 - k) ∧ gi σ' 24 = nI 401 ∧ ∃ i', ∀ N, f_X10_searched_61 (N + s) σe (nI f) (nI (i + 1)) = f_X10_searched_61 N σ' (nI f) i')) := by
  obtain ⟨σe, e1, hB, hR, k18, k19, k20, k21, k22, k23, k24, fe⟩ := X10_enters hP.2.2.2.2.1 hP.2.2.2.2.2.1 (show i + 1 < 26 by omega) (nI q2) g
  have hu : ∀ (f0 : Nat → Int32) (v : Int32) (z : Nat), z ≠ i + 1 → upd f0 (i + 1) v z = f0 z := fun f0 v z hz => if_neg hz
  have hus : ∀ (f0 : Nat → Int32) (v : Int32), upd f0 (i + 1) v (i + 1) = v := fun f0 v => if_pos rfl
  have fe' : FR fx1 fx2 σ σe := fe.mo (by decide) (by decide)
  have hse : SFP i σ σe := by
    refine ⟨fun z hz => k18 z hz, fun z hz => k19 z hz, fun z hz => ⟨by rw [k20, hu _ _ _ (by omega)], by rw [k23, hu _ _ _ (by omega)]⟩, fun z hz => ⟨by rw [k21, hu _ _ _ (by omega)], by rw [k22, hu _ _ _ (by omega)]⟩⟩
  have hFe : FM T R q i j b σe := by
    have h1 := FM_SFP hF hse
    refine ⟨h1.1, h1.2.1, h1.2.2, ?_, ?_⟩
    · rw [k21, hu _ _ _ (by omega)]; exact hF.2.2.2.1
    · rw [k22, hu _ _ _ (by omega)]; exact hF.2.2.2.2
  have hPe : PB D V E P T2 R2 σe := PB_FR hP fe (by decide) (by decide) (by decide)
  have g24 : gi σe 24 = nI (k + 1) := by rw [k24, h24, nI_1]
  refine ⟨σe, e1, ?_⟩
  have hc := ev_pos (D := D) (V := V) (P := P) n T2 R2 (1 - mv f i) q2
  by_cases c : k = 400
  · refine ⟨0, σe, fe', Or.inr ⟨by omega, by omega, by rw [g24, c], nI (i + 1), fun N => rfl⟩⟩
  · have hND : ND D V E P T2 R2 q2 (i + 1) 0 (-1000000) (k + 1) σe := ⟨hPe, ⟨hB, hR, by rw [k20, hus], by rw [k21, hus]; rfl, by rw [k22, hus]⟩, g24⟩
    obtain ⟨s, σ1, f1, h1⟩ := hFull T2 R2 q2 (i + 1) (k + 1) f σe hmu hi hne (by omega) (by omega) hf hND
    rw [mv_suc hf] at h1
    rcases h1 with ⟨a1, a2, a3, a4, a5⟩ | ⟨a1, a2, a3, i', a4⟩
    · have hF1 := FM_up hFe a5
      obtain ⟨p1, p2, p3⟩ := a4
      obtain ⟨σ2, r1, r2, r3, r4⟩ := X10_return (D := D) (V := V) (E := E) (P := P) (σ := σ1) (T := T) (R := R) (T2 := T2) (R2 := R2) hf (show i < 25 by omega) (show k + 1 + (ev D V P n T2 R2 (1 - mv f i) q2).2 - 1 ≤ 400 by omega) hF1 p1 hkR p2.2.2.2.1 p2.2.2.2.2 (g := g) (by rw [(a5.2.2.1 (i + 1) (by omega)).2, k23, hus]) p3
      refine ⟨s + 1, σ2, (fe'.t f1).t r4, Or.inl ⟨by omega, by omega, fun N => ?_, ?_, (hse.tr (SFP_down a5)).tr r3⟩⟩
      · rw [show N + (s + 1) = (N + 1) + s by omega, a3, r1]
      · rw [show k + (ev D V P n T2 R2 (1 - mv f i) q2).2 = k + 1 + (ev D V P n T2 R2 (1 - mv f i) q2).2 - 1 by omega]
        exact r2
    · refine ⟨s, σ1, fe'.t f1, Or.inr ⟨by omega, by omega, a3, i', a4⟩⟩
end
