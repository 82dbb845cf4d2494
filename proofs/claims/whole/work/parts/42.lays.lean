/-! ===== tiles laid in the reference ===== -/
theorem BR_set {T : Bd} {f : Nat → Int32} (h : BR T f) {d a j : Nat} (ha : a < 7) (hj : j < 7) {x : Nat} (hx : x < 8) : BR (setT T d a j (some x)) (upd f (sq d a j) (nI x)) := by
  refine ⟨okT_setT h.1 ha hj (by intro l q; cases q; exact hx), ?_⟩
  intro r c hr hc
  show (if 7 * r + c = sq d a j then nI x else f (7 * r + c)) = _
  unfold setT sq
  by_cases k : d = 0
  · rw [if_pos k, if_pos k]
    unfold setO
    by_cases k2 : 7 * r + c = 7 * a + j
    · rw [if_pos k2, if_pos (by omega)]
      rfl
    · rw [if_neg k2, if_neg (by omega)]
      exact h.2 r c hr hc
  · rw [if_neg k, if_neg k]
    unfold setO
    by_cases k2 : 7 * r + c = 7 * j + a
    · rw [if_pos k2, if_pos (by omega)]
      rfl
    · rw [if_neg k2, if_neg (by omega)]
      exact h.2 r c hr hc
theorem frs_cong {g g2 : Int → Option Nat} : ∀ (u : List Nat) (j : Nat), (∀ k : Nat, j ≤ k → g k = g2 k) → frs g j u = frs g2 j u
  | [], _, _ => rfl
  | x :: u, j, h => by rw [frs, frs, h j (Nat.le_refl _), frs_cong u (j + 1) (fun k hk => h k (by omega))]
theorem updR_same (R : Nat → Nat → Nat) (p : Nat) (r r2 : Nat → Nat) : updR (updR R p r) p r2 = updR R p r2 := by
  funext q l
  unfold updR
  by_cases c : q = p
  · rw [if_pos c, if_pos c]
  · rw [if_neg c, if_neg c, if_neg c]
theorem updR_self (R : Nat → Nat → Nat) (p : Nat) : updR R p (R p) = R := by
  funext q l
  unfold updR
  by_cases c : q = p
  · rw [if_pos c, c]
  · rw [if_neg c]
theorem RR_set {R : Nat → Nat → Nat} {f : Nat → Int32} (h : RR R f) {p x v : Nat} (hx : x < 8) : RR (updR R p (updN (R p) x v)) (upd f (8 * p + x) (nI v)) := by
  intro q l hq hl
  show (if 8 * q + l = 8 * p + x then nI v else f (8 * q + l)) = _
  unfold updR updN
  by_cases c : q = p
  · rw [if_pos c]
    by_cases c2 : l = x
    · rw [if_pos (by omega), if_pos c2]
    · rw [if_neg (by omega), if_neg c2, h q l hq hl, c]
  · rw [if_neg (by omega), if_neg c, h q l hq hl]
theorem X10_lays_loop {p d a b : Nat} (hp : p < 2) (hd : d < 2) (ha : a < 7) {t : List Nat} (h7 : b + t.length ≤ 7) {r : Nat → Nat} : ∀ (suf pre : List Nat) (n : Nat) (σ : St) (T : Bd) (R : Nat → Nat → Nat), BR T (ga σ 8) → RR R (ga σ 9) → tk (R p) (frs (M T d a) (b + pre.length) suf) = some r → HL t σ → t = pre ++ suf → suf.length < n →
    ∃ σ', f_X10_lays_3 n σ (nI p) (nI d) (nI (RW d a b)) (nI (CL d a b)) (nI pre.length) = some σ' ∧ BR (layT T d a (b + pre.length) suf) (ga σ' 8) ∧ RR (updR R p r) (ga σ' 9) ∧ FR [] [8, 9] σ σ' := by
  intro suf
  induction suf with
  | nil =>
    intro pre n σ T R h hR hr hL e hn
    obtain ⟨n, rfl⟩ : ∃ j, n = j + 1 := ⟨n - 1, by simp at hn; omega⟩
    rw [List.append_nil] at e
    rw [f_X10_lays_3, hL.1, if_pos (by rw [e]; exact nI_le (Nat.le_refl _) (by rw [e] at h7; omega))]
    have hr2 : R p = r := by
      rw [frs, tk] at hr
      exact Option.some.inj hr
    refine ⟨σ, rfl, h, ?_, FR.rfl' _ _ _⟩
    rw [← hr2, updR_self]
    exact hR
  | cons x suf ih =>
    intro pre n σ T R h hR hr hL e hn
    have hlen : t.length = pre.length + (suf.length + 1) := by rw [e]; simp
    obtain ⟨n, rfl⟩ : ∃ j, n = j + 1 := ⟨n - 1, by simp at hn; omega⟩
    have hg : t[pre.length]? = some x := by rw [e]; simp
    have hx : x < 8 := hL.2.1.1 x (by rw [e]; simp)
    have hsq := sq_lt (d := d) ha (show b + pre.length < 7 by omega)
    have hBR := BR_sq h (d := d) ha (show b + pre.length < 7 by omega)
    have ea : (8 : Int32) * nI p + nI x = nI (8 * p + x) := by
      simp only [L8, iI_nI, iI_mul, iI_add]
      congr 1 <;> omega
    have hfr : frs (M (setT T d a (b + pre.length) (some x)) d a) (b + pre.length + 1) suf = frs (M T d a) (b + pre.length + 1) suf := frs_cong suf _ (fun k hk => by rw [M_setT, if_neg (by omega)])
    have go : ∀ (v : Int32) (R1 : Nat → Nat → Nat), RR R1 (upd (ga σ 9) (8 * p + x) v) → tk (R1 p) (frs (M T d a) (b + pre.length + 1) suf) = some r → updR R1 p r = updR R p r →
        ∃ σ', (lt (sa σ 9 (upd (ga σ 9) (8 * p + x) v)) fun σ1 => ixo (nI pre.length) 7 (ixo (nI (sq d a (b + pre.length))) 49 (lt (sa σ1 8 (upd (ga σ1 8) (Int32.toNatClampNeg (nI (sq d a (b + pre.length)))) (ga σ1 13 (Int32.toNatClampNeg (nI pre.length))))) fun σ2 => f_X10_lays_3 n σ2 (nI p) (nI d) (nI (RW d a b)) (nI (CL d a b)) (nI pre.length + 1)))) = some σ' ∧ BR (layT T d a (b + pre.length) (x :: suf)) (ga σ' 8) ∧ RR (updR R p r) (ga σ' 9) ∧ FR [] [8, 9] σ σ' := by
      intro v R1 hR1 hr1 hu
      rw [lt_e, ixo_nI (by omega) (by omega), ixo_nI hsq (by omega), lt_e, nI_clamp (by omega), nI_clamp (by omega)]
      have h13 : ga (sa σ 9 (upd (ga σ 9) (8 * p + x) v)) 13 pre.length = nI x := hL.2.2 _ x hg
      rw [h13]
      obtain ⟨σ', e1, k1, k2, f1⟩ := ih (pre ++ [x]) n (sa (sa σ 9 (upd (ga σ 9) (8 * p + x) v)) 8 (upd (ga σ 8) (sq d a (b + pre.length)) (nI x))) (setT T d a (b + pre.length) (some x)) R1 (BR_set h ha (by omega) hx) hR1 (by rw [List.length_append]; show tk (R1 p) (frs (M (setT T d a (b + pre.length) (some x)) d a) (b + pre.length + 1) suf) = _; rw [hfr]; exact hr1) hL (by rw [e]; simp) (by simp at hn; omega)
      rw [List.length_append] at e1 k1
      rw [hu] at k2
      refine ⟨σ', ?_, k1, k2, ?_⟩
      · rw [nI_1]; exact e1
      · exact ((FR_sa σ 9 _).tr (FR_sa _ 8 _) (is3 := []) (js3 := [8, 9]) (by decide) (by decide)).t f1
    rw [f_X10_lays_3, hL.1, if_neg (nI_ge (by omega) (by omega)), X10_squareOf hd, bno_s, ixo_nI (by omega) (by omega), nI_clamp (by omega), hL.2.2 _ x hg, ea, ixo_nI (by omega) (by omega), ixo_nI hsq (by omega), nI_clamp (by omega), hBR, nI_clamp (by omega), hR p x hp hx]
    simp only [enc_m1 _ (fun y e => (M_ok h.1 e).2.2.2.2)]
    unfold f_X10_lays_57
    rw [ixo_nI (by omega) (by omega), ixo_nI (by omega) (by omega), nI_clamp (by omega)]
    rw [frs] at hr
    cases hM : M T d a (b + pre.length : Nat) with
    | none =>
      rw [hM, if_neg (by simp)] at hr
      rw [tk] at hr
      by_cases c : R p x = 0
      · rw [if_pos c] at hr
        cases hr
      · rw [if_neg c] at hr
        rw [if_pos rfl]
        have e2 : nI (R p x) - 1 = nI (R p x - 1) := nI_subN (b := 1) (by omega)
        rw [e2]
        exact go (nI (R p x - 1)) _ (RR_set hR hx) (by
          show tk (updR R p _ p) _ = _
          unfold updR
          rw [if_pos rfl]
          exact hr) (updR_same _ _ _ _)
    | some y =>
      rw [hM, if_pos (by rfl)] at hr
      rw [if_neg (by simp), Int32.sub_zero]
      exact go (nI (R p x)) R (by
        intro q l hq hl
        show (if 8 * q + l = 8 * p + x then nI (R p x) else ga σ 9 (8 * q + l)) = _
        by_cases c : 8 * q + l = 8 * p + x
        · rw [if_pos c, show q = p by omega, show l = x by omega]
        · rw [if_neg c]; exact hR q l hq hl) hr rfl
theorem X10_lays {p d a b : Nat} (hp : p < 2) (hd : d < 2) (ha : a < 7) {t : List Nat} (h7 : b + t.length ≤ 7) {r : Nat → Nat} {σ : St} {T : Bd} {R : Nat → Nat → Nat} (h : BR T (ga σ 8)) (hR : RR R (ga σ 9)) (hr : tk (R p) (frs (M T d a) b t) = some r) (hL : HL t σ) :
    ∃ σ', f_X10_lays σ (nI p) (nI d) (nI (RW d a b)) (nI (CL d a b)) = some σ' ∧ BR (layT T d a b t) (ga σ' 8) ∧ RR (updR R p r) (ga σ' 9) ∧ FR [] [8, 9] σ σ' :=
  X10_lays_loop hp hd ha h7 t [] FU σ T R h hR hr hL rfl (FU_big (by omega))
/-! ===== all that the reference holds ===== -/
def AT (T : Bd) (f : Nat → Int32) : Prop := okT T ∧ ∀ r c : Nat, r < 7 → c < 7 → f (257 + (7 * r + c)) = enc (T r c)
def AR (R : Nat → Nat → Nat) (f : Nat → Int32) : Prop := ∀ p l, p < 2 → l < 8 → f (355 + (8 * p + l)) = nI (R p l)
def AS (S : Nat → Int32) (f : Nat → Int32) : Prop := ∀ p, p < 2 → f (371 + p) = S p
def MB (D : List (List Nat)) (V E : Nat → Int32) (P : Nat → Nat → Int32) (S : Nat → Int32) (T : Bd) (R : Nat → Nat → Nat) (f : Nat → Int32) : Prop := AD D f ∧ AV V f ∧ AE E f ∧ AP P f ∧ AS S f ∧ AT T f ∧ AR R f
section
variable {D : List (List Nat)} {V E : Nat → Int32} {P : Nat → Nat → Int32} {S : Nat → Int32} {T : Bd} {R : Nat → Nat → Nat} {f g : Nat → Int32}
theorem AD_cong (h : AD D f) (hg : ∀ i, 16 ≤ i → i < 257 → g i = f i) : AD D g := by
  have h30 := h.2.1
  refine ⟨by rw [hg 16 (by omega) (by omega)]; exact h.1, h.2.1, h.2.2.1, ?_⟩
  intro w u hw
  have hlt := (List.getElem?_eq_some_iff.mp hw).1
  have h7 := (h.2.2.1 u (List.mem_of_getElem? hw)).1.2
  refine ⟨by rw [hg _ (by omega) (by omega)]; exact (h.2.2.2 w u hw).1, ?_⟩
  intro k x hk
  have := (List.getElem?_eq_some_iff.mp hk).1
  rw [hg _ (by omega) (by omega)]
  exact (h.2.2.2 w u hw).2 k x hk
theorem AV_cong (h : AV V f) (hg : ∀ i, i < 8 → g i = f i) : AV V g := fun l hl => by rw [hg l hl]; exact h l hl
theorem AE_cong (h : AE V f) (hg : ∀ i, 8 ≤ i → i < 16 → g i = f i) : AE V g := fun l hl => by rw [hg _ (by omega) (by omega)]; exact h l hl
theorem AP_cong (h : AP P f) (hg : ∀ i, 306 ≤ i → i < 355 → g i = f i) : AP P g := fun r c hr hc => by rw [hg _ (by omega) (by omega)]; exact h r c hr hc
theorem AS_cong (h : AS S f) (hg : ∀ i, 371 ≤ i → i < 373 → g i = f i) : AS S g := fun p hp => by rw [hg _ (by omega) (by omega)]; exact h p hp
theorem AT_cong (h : AT T f) (hg : ∀ i, 257 ≤ i → i < 306 → g i = f i) : AT T g := ⟨h.1, fun r c hr hc => by rw [hg _ (by omega) (by omega)]; exact h.2 r c hr hc⟩
theorem AR_cong (h : AR R f) (hg : ∀ i, 355 ≤ i → i < 371 → g i = f i) : AR R g := fun p l hp hl => by rw [hg _ (by omega) (by omega)]; exact h p l hp hl
theorem MB_cong (h : MB D V E P S T R f) (hg : ∀ i, i < 373 → g i = f i) : MB D V E P S T R g :=
  ⟨AD_cong h.1 (fun i _ _ => hg i (by omega)), AV_cong h.2.1 (fun i _ => hg i (by omega)), AE_cong h.2.2.1 (fun i _ _ => hg i (by omega)), AP_cong h.2.2.2.1 (fun i _ _ => hg i (by omega)), AS_cong h.2.2.2.2.1 (fun i _ _ => hg i (by omega)), AT_cong h.2.2.2.2.2.1 (fun i _ _ => hg i (by omega)), AR_cong h.2.2.2.2.2.2 (fun i _ _ => hg i (by omega))⟩
end
/-- a copying loop's array: the first k places of g, laid from x on -/
theorem X10_now_racks : ∀ (m k n : Nat) (σ : St), k + m = 16 → m < n → (∀ i, i < k → ga σ 9 i = ga σ 0 (355 + i)) →
    ∃ σ', f_X10_laysNow_32 n σ (nI k) = some σ' ∧ (∀ i, i < 16 → ga σ' 9 i = ga σ 0 (355 + i)) ∧ FR [] [9] σ σ' := by
  intro m
  induction m with
  | zero =>
    intro k n σ hk hn hc
    obtain ⟨n, rfl⟩ : ∃ j, n = j + 1 := ⟨n - 1, by omega⟩
    have : k = 16 := by omega
    subst this
    rw [f_X10_laysNow_32, if_pos (by decide)]
    exact ⟨σ, rfl, hc, FR.rfl' _ _ _⟩
  | succ m ih =>
    intro k n σ hk hn hc
    obtain ⟨n, rfl⟩ : ∃ j, n = j + 1 := ⟨n - 1, by omega⟩
    have c : ¬ (16 : Int32) ≤ nI k := nI_ge (b := 16) (by omega) (by omega)
    have ea : (355 : Int32) + nI k = nI (355 + k) := nI_add 355 k
    rw [f_X10_laysNow_32, if_neg c, ea, ixo_nI (by omega) (by omega), ixo_nI (by omega) (by omega), lt_e, nI_clamp (by omega), nI_clamp (by omega), nI_1]
    obtain ⟨σ', e, h, f⟩ := ih (k + 1) n (sa σ 9 (upd (ga σ 9) k (ga σ 0 (355 + k)))) (by omega) (by omega) (by
      intro i hi
      show (if i = k then ga σ 0 (355 + k) else ga σ 9 i) = ga σ 0 (355 + i)
      by_cases c2 : i = k
      · rw [if_pos c2, c2]
      · rw [if_neg c2]; exact hc i (by omega))
    exact ⟨σ', e, h, (FR_sa σ 9 _).t f⟩
theorem X10_now_board : ∀ (m k n : Nat) (σ : St), k + m = 49 → m < n → (∀ i, i < k → ga σ 8 i = ga σ 0 (257 + i)) →
    ∃ σ', f_X10_laysNow_2 n σ (nI k) = some σ' ∧ (∀ i, i < 49 → ga σ' 8 i = ga σ 0 (257 + i)) ∧ (∀ i, i < 16 → ga σ' 9 i = ga σ 0 (355 + i)) ∧ FR [] [8, 9] σ σ' := by
  intro m
  induction m with
  | zero =>
    intro k n σ hk hn hc
    obtain ⟨n, rfl⟩ : ∃ j, n = j + 1 := ⟨n - 1, by omega⟩
    have : k = 49 := by omega
    subst this
    obtain ⟨σ', e, h, f⟩ := X10_now_racks 16 0 FU σ (by omega) (FU_big (by omega)) (by intro i hi; omega)
    rw [f_X10_laysNow_2, if_pos (by decide)]
    refine ⟨σ', e, ?_, h, f.mo (by decide) (by decide)⟩
    intro i hi
    rw [f.2 8 (by decide)]
    exact hc i hi
  | succ m ih =>
    intro k n σ hk hn hc
    obtain ⟨n, rfl⟩ : ∃ j, n = j + 1 := ⟨n - 1, by omega⟩
    have c : ¬ (49 : Int32) ≤ nI k := nI_ge (b := 49) (by omega) (by omega)
    have ea : (257 : Int32) + nI k = nI (257 + k) := nI_add 257 k
    rw [f_X10_laysNow_2, if_neg c, ea, ixo_nI (by omega) (by omega), ixo_nI (by omega) (by omega), lt_e, nI_clamp (by omega), nI_clamp (by omega), nI_1]
    obtain ⟨σ', e, h, h2, f⟩ := ih (k + 1) n (sa σ 8 (upd (ga σ 8) k (ga σ 0 (257 + k)))) (by omega) (by omega) (by
      intro i hi
      show (if i = k then ga σ 0 (257 + k) else ga σ 8 i) = ga σ 0 (257 + i)
      by_cases c2 : i = k
      · rw [if_pos c2, c2]
      · rw [if_neg c2]; exact hc i (by omega))
    exact ⟨σ', e, h, h2, ((FR_sa σ 8 _).mo (is2 := []) (js2 := [8, 9]) (by decide) (by decide)).t f⟩
theorem X10_laysNow {T : Bd} {R : Nat → Nat → Nat} {σ : St} (hT : AT T (ga σ 0)) (hR : AR R (ga σ 0)) : ∃ σ', f_X10_laysNow σ = some σ' ∧ BR T (ga σ' 8) ∧ RR R (ga σ' 9) ∧ FR [] [8, 9] σ σ' := by
  obtain ⟨σ', e, h, h2, f⟩ := X10_now_board 49 0 FU σ (by omega) (FU_big (by omega)) (by intro i hi; omega)
  refine ⟨σ', e, ⟨hT.1, ?_⟩, ?_, f⟩
  · intro r c hr hc
    rw [h _ (by omega)]
    exact hT.2 r c hr hc
  · intro p l hp hl
    rw [h2 _ (by omega)]
    exact hR p l hp hl
theorem X10_keep_racks : ∀ (m k n : Nat) (σ : St), k + m = 16 → m < n → (∀ i, i < k → ga σ 0 (355 + i) = ga σ 9 i) →
    ∃ σ', f_X10_keepsBoard_32 n σ (nI k) = some σ' ∧ (∀ i, i < 16 → ga σ' 0 (355 + i) = ga σ 9 i) ∧ (∀ i, i < 355 ∨ 371 ≤ i → ga σ' 0 i = ga σ 0 i) ∧ FR [] [0] σ σ' := by
  intro m
  induction m with
  | zero =>
    intro k n σ hk hn hc
    obtain ⟨n, rfl⟩ : ∃ j, n = j + 1 := ⟨n - 1, by omega⟩
    have : k = 16 := by omega
    subst this
    rw [f_X10_keepsBoard_32, if_pos (by decide)]
    exact ⟨σ, rfl, hc, fun _ _ => rfl, FR.rfl' _ _ _⟩
  | succ m ih =>
    intro k n σ hk hn hc
    obtain ⟨n, rfl⟩ : ∃ j, n = j + 1 := ⟨n - 1, by omega⟩
    have c : ¬ (16 : Int32) ≤ nI k := nI_ge (b := 16) (by omega) (by omega)
    have ea : (355 : Int32) + nI k = nI (355 + k) := nI_add 355 k
    rw [f_X10_keepsBoard_32, if_neg c, ea, ixo_nI (by omega) (by omega), ixo_nI (by omega) (by omega), lt_e, nI_clamp (by omega), nI_clamp (by omega), nI_1]
    obtain ⟨σ', e, h, h2, f⟩ := ih (k + 1) n (sa σ 0 (upd (ga σ 0) (355 + k) (ga σ 9 k))) (by omega) (by omega) (by
      intro i hi
      show (if 355 + i = 355 + k then ga σ 9 k else ga σ 0 (355 + i)) = ga σ 9 i
      by_cases c2 : i = k
      · rw [if_pos (by omega), c2]
      · rw [if_neg (by omega)]; exact hc i (by omega))
    refine ⟨σ', e, h, ?_, (FR_sa σ 0 _).t f⟩
    intro i hi
    rw [h2 i hi]
    show (if i = 355 + k then ga σ 9 k else ga σ 0 i) = ga σ 0 i
    rw [if_neg (by omega)]
theorem X10_keep_board : ∀ (m k n : Nat) (σ : St), k + m = 49 → m < n → (∀ i, i < k → ga σ 0 (257 + i) = ga σ 8 i) →
    ∃ σ', f_X10_keepsBoard_2 n σ (nI k) = some σ' ∧ (∀ i, i < 49 → ga σ' 0 (257 + i) = ga σ 8 i) ∧ (∀ i, i < 16 → ga σ' 0 (355 + i) = ga σ 9 i) ∧ (∀ i, i < 257 ∨ (306 ≤ i ∧ i < 355) ∨ 371 ≤ i → ga σ' 0 i = ga σ 0 i) ∧ FR [] [0] σ σ' := by
  intro m
  induction m with
  | zero =>
    intro k n σ hk hn hc
    obtain ⟨n, rfl⟩ : ∃ j, n = j + 1 := ⟨n - 1, by omega⟩
    have : k = 49 := by omega
    subst this
    obtain ⟨σ', e, h, h2, f⟩ := X10_keep_racks 16 0 FU σ (by omega) (FU_big (by omega)) (by intro i hi; omega)
    rw [f_X10_keepsBoard_2, if_pos (by decide)]
    refine ⟨σ', e, ?_, h, ?_, f⟩
    · intro i hi
      rw [h2 _ (by omega)]
      exact hc i hi
    · intro i hi
      exact h2 i (by omega)
  | succ m ih =>
    intro k n σ hk hn hc
    obtain ⟨n, rfl⟩ : ∃ j, n = j + 1 := ⟨n - 1, by omega⟩
    have c : ¬ (49 : Int32) ≤ nI k := nI_ge (b := 49) (by omega) (by omega)
    have ea : (257 : Int32) + nI k = nI (257 + k) := nI_add 257 k
    rw [f_X10_keepsBoard_2, if_neg c, ea, ixo_nI (by omega) (by omega), ixo_nI (by omega) (by omega), lt_e, nI_clamp (by omega), nI_clamp (by omega), nI_1]
    obtain ⟨σ', e, h, h2, h3, f⟩ := ih (k + 1) n (sa σ 0 (upd (ga σ 0) (257 + k) (ga σ 8 k))) (by omega) (by omega) (by
      intro i hi
      show (if 257 + i = 257 + k then ga σ 8 k else ga σ 0 (257 + i)) = ga σ 8 i
      by_cases c2 : i = k
      · rw [if_pos (by omega), c2]
      · rw [if_neg (by omega)]; exact hc i (by omega))
    refine ⟨σ', e, h, h2, ?_, (FR_sa σ 0 _).t f⟩
    intro i hi
    rw [h3 i hi]
    show (if i = 257 + k then ga σ 8 k else ga σ 0 i) = ga σ 0 i
    rw [if_neg (by omega)]
section
variable {D : List (List Nat)} {V E : Nat → Int32} {P : Nat → Nat → Int32} {S : Nat → Int32} {T T2 : Bd} {R R2 : Nat → Nat → Nat} {σ : St}
theorem X10_keepsBoard (h : MB D V E P S T R (ga σ 0)) (hB : BR T2 (ga σ 8)) (hR : RR R2 (ga σ 9)) : ∃ σ', f_X10_keepsBoard σ = some σ' ∧ MB D V E P S T2 R2 (ga σ' 0) ∧ FR [] [0] σ σ' := by
  obtain ⟨σ', e, k1, k2, k3, f⟩ := X10_keep_board 49 0 FU σ (by omega) (FU_big (by omega)) (by intro i hi; omega)
  obtain ⟨h1, h2, h3, h4, h5, h6, h8⟩ := h
  refine ⟨σ', e, ⟨AD_cong h1 (fun i _ _ => k3 i (by omega)), AV_cong h2 (fun i _ => k3 i (by omega)), AE_cong h3 (fun i _ _ => k3 i (by omega)), AP_cong h4 (fun i _ _ => k3 i (by omega)), AS_cong h5 (fun i _ _ => k3 i (by omega)), ⟨hB.1, ?_⟩, ?_⟩, f⟩
  · intro r c hr hc
    rw [k1 _ (by omega)]
    exact hB.2 r c hr hc
  · intro p l hp hl
    rw [k2 _ (by omega)]
    exact hR p l hp hl
def updS (S : Nat → Int32) (p : Nat) (v : Int32) : Nat → Int32 := fun q => if q = p then S p + v else S q
theorem X10_makes (h : MB D V E P S T R (ga σ 0)) (hB : BR T (ga σ 8)) (hR : RR R (ga σ 9)) {p d a b : Nat} (hp : p < 2) (hd : d < 2) (ha : a < 7) {t : List Nat} (h7 : b + t.length ≤ 7) {r : Nat → Nat} (hr : tk (R p) (frs (M T d a) b t) = some r) (hL : HL t σ) :
    ∃ σ', f_X10_makes σ (nI p) (nI d) (nI (RW d a b)) (nI (CL d a b)) = some (scr V T P d a b t, σ') ∧ MB D V E P (updS S p (scr V T P d a b t)) (layT T d a b t) (updR R p r) (ga σ' 0) ∧ FR [7, 10, 11, 12] [0, 6, 8, 9] σ σ' := by
  obtain ⟨σ1, e1, f1⟩ := X10_scoreOf hd ha h7 h.2.1 h.2.2.2.1 hB hL
  have F0 := f1.2 0 (by decide)
  obtain ⟨σ2, e2, hB2, hR2, f2⟩ := X10_lays (σ := σ1) (T := T) (R := R) hp hd ha h7 (by rw [f1.2 8 (by decide)]; exact hB) (by rw [f1.2 9 (by decide)]; exact hR) hr ⟨by rw [f1.1 14 (by decide)]; exact hL.1, hL.2.1, by rw [f1.2 13 (by decide)]; exact hL.2.2⟩
  obtain ⟨σ3, e3, hM3, f3⟩ := X10_keepsBoard (σ := σ2) (D := D) (V := V) (E := E) (P := P) (S := S) (T := T) (R := R) (by rw [f2.2 0 (by decide), F0]; exact h) hB2 hR2
  have ea : (371 : Int32) + nI p = nI (371 + p) := nI_add 371 p
  unfold f_X10_makes
  rw [e1, bno_s, e2, bno_s, e3, bno_s, ea, ixo_nI (by omega) (by omega), ixo_nI (by omega) (by omega), lt_e, nI_clamp (by omega)]
  refine ⟨_, rfl, ?_, ?_⟩
  · obtain ⟨h1, h2, h3, h4, h5, h6, h8⟩ := hM3
    have hg : ∀ i, i < 371 → ga (sa σ3 0 (upd (ga σ3 0) (371 + p) (ga σ3 0 (371 + p) + scr V T P d a b t))) 0 i = ga σ3 0 i := by
      intro i hi
      show (if i = 371 + p then _ else ga σ3 0 i) = _
      rw [if_neg (by omega)]
    refine ⟨AD_cong h1 (fun i _ _ => hg i (by omega)), AV_cong h2 (fun i _ => hg i (by omega)), AE_cong h3 (fun i _ _ => hg i (by omega)), AP_cong h4 (fun i _ _ => hg i (by omega)), ?_, AT_cong h6 (fun i _ _ => hg i (by omega)), AR_cong h8 (fun i _ _ => hg i (by omega))⟩
    intro q hq
    show (if 371 + q = 371 + p then ga σ3 0 (371 + p) + scr V T P d a b t else ga σ3 0 (371 + q)) = _
    unfold updS
    by_cases c : q = p
    · rw [if_pos (by omega), if_pos c, h5 p hp]
    · rw [if_neg (by omega), if_neg c, h5 q hq]
  · have F : FR [7, 10, 11, 12] [0, 6, 8, 9] σ σ3 := (f1.tr f2 (is3 := [7, 10, 11, 12]) (js3 := [6, 8, 9]) (by decide) (by decide)).tr f3 (by decide) (by decide)
    exact F.t ((FR_sa σ3 0 _).mo (by decide) (by decide))
end
