/-! ===== racks and their values ===== -/
def pr (R : Nat → Nat) : Nat := R 0 + 16 * R 1 + 256 * R 2 + 4096 * R 3 + 65536 * R 4 + 1048576 * R 5 + 16777216 * R 6 + 268435456 * R 7
def tot (R : Nat → Nat) : Nat := R 0 + R 1 + R 2 + R 3 + R 4 + R 5 + R 6 + R 7
def okR (R : Nat → Nat) : Prop := tot R ≤ 5
def updN (R : Nat → Nat) (l v : Nat) : Nat → Nat := fun i => if i = l then v else R i
theorem R_le {R : Nat → Nat} : ∀ l, l < 8 → R l ≤ tot R := by
  intro l hl
  unfold tot
  match l, hl with
  | 0, _ => omega
  | 1, _ => omega
  | 2, _ => omega
  | 3, _ => omega
  | 4, _ => omega
  | 5, _ => omega
  | 6, _ => omega
  | 7, _ => omega
  | k + 8, h => omega
theorem pr_lt {R : Nat → Nat} (h : okR R) : pr R < 2147483648 := by
  unfold okR tot at h
  unfold pr
  omega
theorem pr_0 {R : Nat → Nat} (h : okR R) : pr R = 0 ↔ tot R = 0 := by
  unfold okR tot at *
  unfold pr
  omega
theorem pr_get {R : Nat → Nat} (h : okR R) : ∀ l, l < 8 → pr R / 2 ^ (4 * l) % 2 ^ 4 = R l := by
  intro l hl
  unfold okR tot at h
  unfold pr
  match l, hl with
  | 0, _ => simp; omega
  | 1, _ => simp; omega
  | 2, _ => simp; omega
  | 3, _ => simp; omega
  | 4, _ => simp; omega
  | 5, _ => simp; omega
  | 6, _ => simp; omega
  | 7, _ => simp; omega
  | k + 8, h => omega
theorem mul4 : ∀ l, l < 8 → (4 : Int32) * nI l = nI (4 * l) := by decide +kernel
theorem ush4 : ∀ l, l < 8 → (((nI (4 * l)).toUInt32 &&& Int32.toUInt32 31).toBitVec % 32).toNat = 4 * l := by decide +kernel
theorem X4_count {R : Nat → Nat} (h : okR R) {l : Nat} (hl : l < 8) : f_X4_count (nI (pr R)) (nI l) = some (nI (R l)) := by
  have hb := pr_lt h
  unfold f_X4_count iush
  rw [mul4 l hl, pk_ushrN (by omega) _ (4 * l) (ush4 l hl), pk_andN (Nat.lt_of_le_of_lt (Nat.div_le_self _ _) (by omega)) 4 (by decide), pr_get h l hl]
theorem X4_oneTile : ∀ l, l < 8 → f_X4_oneTile (nI l) = some (nI (2 ^ (4 * l))) := by decide +kernel
theorem pr_take {R : Nat → Nat} : ∀ l, l < 8 → 0 < R l → pr (updN R l (R l - 1)) + 2 ^ (4 * l) = pr R := by
  intro l hl h0
  unfold pr updN
  match l, hl with
  | 0, _ => simp; omega
  | 1, _ => simp; omega
  | 2, _ => simp; omega
  | 3, _ => simp; omega
  | 4, _ => simp; omega
  | 5, _ => simp; omega
  | 6, _ => simp; omega
  | 7, _ => simp; omega
  | k + 8, h => omega
theorem tot_take {R : Nat → Nat} : ∀ l, l < 8 → 0 < R l → tot (updN R l (R l - 1)) + 1 = tot R := by
  intro l hl h0
  unfold tot updN
  match l, hl with
  | 0, _ => simp; omega
  | 1, _ => simp; omega
  | 2, _ => simp; omega
  | 3, _ => simp; omega
  | 4, _ => simp; omega
  | 5, _ => simp; omega
  | 6, _ => simp; omega
  | 7, _ => simp; omega
  | k + 8, h => omega
theorem pr_more {R : Nat → Nat} : ∀ l, l < 8 → pr (updN R l (R l + 1)) = pr R + 2 ^ (4 * l) := by
  intro l hl
  unfold pr updN
  match l, hl with
  | 0, _ => simp; omega
  | 1, _ => simp; omega
  | 2, _ => simp; omega
  | 3, _ => simp; omega
  | 4, _ => simp; omega
  | 5, _ => simp; omega
  | 6, _ => simp; omega
  | 7, _ => simp; omega
  | k + 8, h => omega
theorem tot_more {R : Nat → Nat} : ∀ l, l < 8 → tot (updN R l (R l + 1)) = tot R + 1 := by
  intro l hl
  unfold tot updN
  match l, hl with
  | 0, _ => simp; omega
  | 1, _ => simp; omega
  | 2, _ => simp; omega
  | 3, _ => simp; omega
  | 4, _ => simp; omega
  | 5, _ => simp; omega
  | 6, _ => simp; omega
  | 7, _ => simp; omega
  | k + 8, h => omega
theorem pr_cong {R R2 : Nat → Nat} (h : ∀ l, l < 8 → R l = R2 l) : pr R = pr R2 := by
  unfold pr
  rw [h 0 (by omega), h 1 (by omega), h 2 (by omega), h 3 (by omega), h 4 (by omega), h 5 (by omega), h 6 (by omega), h 7 (by omega)]
theorem tot_cong {R R2 : Nat → Nat} (h : ∀ l, l < 8 → R l = R2 l) : tot R = tot R2 := by
  unfold tot
  rw [h 0 (by omega), h 1 (by omega), h 2 (by omega), h 3 (by omega), h 4 (by omega), h 5 (by omega), h 6 (by omega), h 7 (by omega)]
theorem nI_subN {a b : Nat} (h : b ≤ a) : nI a - nI b = nI (a - b) := by
  rw [iI_nI, iI_nI, iI_nI, iI_sub]
  congr 1
  omega
theorem X4_without {R : Nat → Nat} {l : Nat} (hl : l < 8) (h0 : 0 < R l) : f_X4_without (nI (pr R)) (nI l) = some (nI (pr (updN R l (R l - 1)))) := by
  have := pr_take l hl h0
  unfold f_X4_without
  rw [X4_oneTile l hl, bno_s, nI_subN (by omega)]
  congr 2
  omega
/-- the rack that holds the letters of a text -/
def rk (t : List Nat) : Nat → Nat := fun l => t.count l
theorem rk_app (t : List Nat) (a : Nat) : rk (t ++ [a]) = updN (rk t) a (rk t a + 1) := by
  funext l
  unfold rk updN
  rw [List.count_append]
  by_cases c : l = a
  · rw [if_pos c, c]
    simp
  · rw [if_neg c, List.count_eq_zero_of_not_mem (show l ∉ [a] by simpa using c)]
    rfl
theorem tot_rk : ∀ (t p : List Nat), lt8 t → tot (rk (p ++ t)) = tot (rk p) + t.length
  | [], p, _ => by simp
  | a :: t, p, h => by
    obtain ⟨ha, ht⟩ := lt8_cons.mp h
    have := tot_rk t (p ++ [a]) ht
    rw [List.append_assoc] at this
    show tot (rk (p ++ ([a] ++ t))) = _
    rw [this, rk_app, tot_more a ha]
    simp
    omega
theorem X4_of_loop {t : List Nat} (h8 : lt8 t) (h5 : t.length ≤ 5) : ∀ (suf pre : List Nat) (n : Nat), t = pre ++ suf → suf.length < n →
    f_X4_of_9 n (nI (pk t)) (nI (pr (rk pre))) (nI t.length) (nI pre.length) = some (nI (pr (rk t))) := by
  intro suf
  induction suf with
  | nil =>
    intro pre n e hn
    obtain ⟨n, rfl⟩ : ∃ j, n = j + 1 := ⟨n - 1, by simp at hn; omega⟩
    rw [List.append_nil] at e
    rw [f_X4_of_9, if_pos (by rw [e]; exact nI_le (Nat.le_refl _) (by rw [e] at h5; omega)), e]
  | cons x suf ih =>
    intro pre n e hn
    have hlen : t.length = pre.length + (suf.length + 1) := by rw [e]; simp
    obtain ⟨n, rfl⟩ : ∃ j, n = j + 1 := ⟨n - 1, by simp at hn; omega⟩
    have hx : x < 8 := h8 x (by rw [e]; simp)
    rw [f_X4_of_9, if_neg (nI_ge (by omega) (by omega)), X8_letter (a := x) h8 (by omega) (by rw [e]; simp), bno_s, X4_oneTile x hx, bno_s, nI_add, ← pr_more x hx, ← rk_app, nI_1]
    have := ih (pre ++ [x]) n (by rw [e]; simp) (by simp at hn; omega)
    rw [List.length_append] at this
    exact this
theorem X4_of {t : List Nat} (h8 : lt8 t) (h5 : t.length ≤ 5) : f_X4_of (nI (pk t)) = some (nI (pr (rk t))) := by
  unfold f_X4_of
  rw [X8_length h8 (by omega), bno_s]
  exact X4_of_loop h8 h5 t [] FU rfl (FU_big (by omega))
theorem okR_rk {t : List Nat} (h8 : lt8 t) (h5 : t.length ≤ 5) : okR (rk t) := by
  have := tot_rk t [] h8
  unfold okR
  have h0 : tot (rk []) = 0 := rfl
  rw [h0, List.nil_append] at this
  omega
/-- taking letters off a rack one by one -/
def tk (R : Nat → Nat) : List Nat → Option (Nat → Nat)
  | [] => some R
  | l :: f => if R l = 0 then none else tk (updN R l (R l - 1)) f
def pr1 (o : Option (Nat → Nat)) : Int32 := match o with
  | none => -1
  | some R => nI (pr R)
theorem tk_ok : ∀ (f : List Nat) (R R2 : Nat → Nat), lt8 f → tk R f = some R2 → tot R2 + f.length = tot R
  | [], R, R2, _, h => by
    cases h
    rfl
  | l :: f, R, R2, h8, h => by
    obtain ⟨hl, h8⟩ := lt8_cons.mp h8
    unfold tk at h
    by_cases c : R l = 0
    · rw [if_pos c] at h
      cases h
    · rw [if_neg c] at h
      have h1 := tk_ok f _ R2 h8 h
      have h2 := tot_take l hl (show 0 < R l by omega)
      simp
      omega
theorem tk_some : ∀ (f : List Nat) (R : Nat → Nat), (∀ l, f.count l ≤ R l) → tk R f = some (fun l => R l - f.count l)
  | [], R, _ => by simp [tk]
  | a :: f, R, h => by
    have ha := h a
    rw [List.count_cons_self] at ha
    unfold tk
    rw [if_neg (by omega), tk_some f]
    · congr 1
      funext l
      unfold updN
      by_cases c : l = a
      · rw [if_pos c, c, List.count_cons_self]
        omega
      · rw [if_neg c, List.count_cons_of_ne (fun e => c e.symm)]
    · intro l
      have hl := h l
      unfold updN
      by_cases c : l = a
      · rw [if_pos c, c]
        omega
      · rw [if_neg c]
        rw [List.count_cons_of_ne (fun e => c e.symm)] at hl
        exact hl
theorem tk_none : ∀ (f : List Nat) (R : Nat → Nat) (l : Nat), R l < f.count l → tk R f = none
  | [], R, l, h => by simp at h
  | a :: f, R, l, h => by
    unfold tk
    by_cases c : R a = 0
    · rw [if_pos c]
    · rw [if_neg c]
      apply tk_none f _ l
      unfold updN
      by_cases c2 : l = a
      · rw [if_pos c2]
        subst c2
        rw [List.count_cons_self] at h
        omega
      · rw [if_neg c2]
        rw [List.count_cons_of_ne (fun e => c2 e.symm)] at h
        exact h
/-- sums over the eight letters -/
def sm8 (f : Nat → Int32) : Nat → Int32
  | 0 => 0
  | n + 1 => sm8 f n + f n
theorem sm8_cong {f g : Nat → Int32} : ∀ n, (∀ l, l < n → f l = g l) → sm8 f n = sm8 g n
  | 0, _ => rfl
  | n + 1, h => by rw [sm8, sm8, sm8_cong n (fun l hl => h l (by omega)), h n (by omega)]
def KC (R : Nat → Nat → Nat) (σ : St) : Prop := ∀ p, p < 2 → okR (R p) ∧ ga σ 5 p = nI (pr (R p))
def VC (V : Nat → Int32) (σ : St) : Prop := ∀ l, l < 8 → ga σ 3 l = V l
def EC (V : Nat → Int32) (σ : St) : Prop := ∀ l, l < 8 → ga σ 4 l = V l
theorem X9_isLetter {z : Int} (h1 : -2147483648 ≤ z) (h2 : z < 2147483648) : f_X9_isLetter (iI z) = some (decide (0 ≤ z ∧ z < 8)) := by
  unfold f_X9_isLetter
  simp (disch := omega) only [iI_lt0, L8, iI_le]
  by_cases c1 : z < 0
  · rw [if_pos c1]; simp; omega
  · rw [if_neg c1]
    by_cases c2 : 8 ≤ z
    · rw [if_pos c2]; simp; omega
    · rw [if_neg c2]; simp; omega
theorem X9_isPlayer {z : Int} (h1 : -2147483648 ≤ z) (h2 : z < 2147483648) : f_X9_isPlayer (iI z) = some (decide (0 ≤ z ∧ z < 2)) := by
  unfold f_X9_isPlayer
  simp (disch := omega) only [iI_lt0, L2, iI_le]
  by_cases c1 : z < 0
  · rw [if_pos c1]; simp; omega
  · rw [if_neg c1]
    by_cases c2 : 2 ≤ z
    · rw [if_pos c2]; simp; omega
    · rw [if_neg c2]; simp; omega
theorem X9_isLetter_n {l : Nat} (h : l < 8) : f_X9_isLetter (nI l) = some true := by
  rw [iI_nI, X9_isLetter (by omega) (by omega)]; simp; omega
theorem X9_isPlayer_n {l : Nat} (h : l < 2) : f_X9_isPlayer (nI l) = some true := by
  rw [iI_nI, X9_isPlayer (by omega) (by omega)]; simp; omega
theorem X7_value {V : Nat → Int32} {σ : St} (h : VC V σ) {l : Nat} (hl : l < 8) : f_X7_value σ (nI l) = some (V l) := by
  unfold f_X7_value
  rw [X9_isLetter_n hl, bno_s, if_b, if_pos rfl, ixo_nI hl (by omega), nI_clamp (by omega), h l hl]
theorem X7_leave {V : Nat → Int32} {σ : St} (h : EC V σ) {l : Nat} (hl : l < 8) : f_X7_leave σ (nI l) = some (V l) := by
  unfold f_X7_leave
  rw [X9_isLetter_n hl, bno_s, if_b, if_pos rfl, ixo_nI hl (by omega), nI_clamp (by omega), h l hl]
theorem X7_rack {R : Nat → Nat → Nat} {σ : St} (h : KC R σ) {p : Nat} (hp : p < 2) : f_X7_rack σ (nI p) = some (nI (pr (R p))) := by
  unfold f_X7_rack
  rw [X9_isPlayer_n hp, bno_s, if_b, if_pos rfl, ixo_nI hp (by omega), nI_clamp (by omega), (h p hp).2]
def vlR (V : Nat → Int32) (R : Nat → Nat) : Int32 := sm8 (fun l => nI (R l) * V l) 8
theorem X7_valueOfRack_loop {V : Nat → Int32} {σ : St} (h : VC V σ) {R : Nat → Nat} (hR : okR R) : ∀ (m k n : Nat), k + m = 8 → m < n →
    f_X7_valueOfRack_11 σ n (nI (pr R)) (sm8 (fun l => nI (R l) * V l) k) (nI k) = some (vlR V R) := by
  intro m
  induction m with
  | zero =>
    intro k n hk hn
    obtain ⟨n, rfl⟩ : ∃ j, n = j + 1 := ⟨n - 1, by omega⟩
    have : k = 8 := by omega
    subst this
    rfl
  | succ m ih =>
    intro k n hk hn
    obtain ⟨n, rfl⟩ : ∃ j, n = j + 1 := ⟨n - 1, by omega⟩
    have c : ¬ (8 : Int32) ≤ nI k := nI_ge (b := 8) (by omega) (by omega)
    rw [f_X7_valueOfRack_11, if_neg c, X4_count hR (by omega), bno_s, ixo_nI (by omega) (by omega), lt_e, nI_clamp (by omega), h k (by omega), nI_1]
    exact ih (k + 1) n (by omega) (by omega)
theorem X7_valueOfRack {V : Nat → Int32} {R : Nat → Nat → Nat} {σ : St} (h : VC V σ) (hR : KC R σ) {p : Nat} (hp : p < 2) : f_X7_valueOfRack σ (nI p) = some (vlR V (R p)) := by
  unfold f_X7_valueOfRack
  rw [X7_rack hR hp, bno_s]
  exact X7_valueOfRack_loop h (hR p hp).1 8 0 FU (by omega) (FU_big (by omega))
theorem X7_leaveOf_loop {V : Nat → Int32} {σ : St} (h : EC V σ) {R : Nat → Nat} (hR : okR R) : ∀ (m k n : Nat), k + m = 8 → m < n →
    f_X7_leaveOf_4 σ n (nI (pr R)) (sm8 (fun l => nI (R l) * V l) k) (nI k) = some (vlR V R) := by
  intro m
  induction m with
  | zero =>
    intro k n hk hn
    obtain ⟨n, rfl⟩ : ∃ j, n = j + 1 := ⟨n - 1, by omega⟩
    have : k = 8 := by omega
    subst this
    rfl
  | succ m ih =>
    intro k n hk hn
    obtain ⟨n, rfl⟩ : ∃ j, n = j + 1 := ⟨n - 1, by omega⟩
    have c : ¬ (8 : Int32) ≤ nI k := nI_ge (b := 8) (by omega) (by omega)
    rw [f_X7_leaveOf_4, if_neg c, X4_count hR (by omega), bno_s, ixo_nI (by omega) (by omega), lt_e, nI_clamp (by omega), h k (by omega), nI_1]
    exact ih (k + 1) n (by omega) (by omega)
theorem X7_leaveOf {V : Nat → Int32} {σ : St} (h : EC V σ) {R : Nat → Nat} (hR : okR R) : f_X7_leaveOf σ (nI (pr R)) = some (vlR V R) :=
  X7_leaveOf_loop h hR 8 0 FU (by omega) (FU_big (by omega))
def vlW (V : Nat → Int32) : List Nat → Int32
  | [] => 0
  | x :: t => V x + vlW V t
theorem X7_valueOfWord_loop {V : Nat → Int32} {σ : St} (h : VC V σ) {t : List Nat} (h8 : lt8 t) (h7 : t.length ≤ 7) : ∀ (suf pre : List Nat) (n : Nat) (s : Int32), t = pre ++ suf → suf.length < n →
    f_X7_valueOfWord_10 σ n (nI (pk t)) s (nI t.length) (nI pre.length) = some (s + vlW V suf) := by
  intro suf
  induction suf with
  | nil =>
    intro pre n s e hn
    obtain ⟨n, rfl⟩ : ∃ j, n = j + 1 := ⟨n - 1, by simp at hn; omega⟩
    rw [List.append_nil] at e
    rw [f_X7_valueOfWord_10, if_pos (by rw [e]; exact nI_le (Nat.le_refl _) (by rw [e] at h7; omega)), vlW, Int32.add_zero]
  | cons x suf ih =>
    intro pre n s e hn
    have hlen : t.length = pre.length + (suf.length + 1) := by rw [e]; simp
    obtain ⟨n, rfl⟩ : ∃ j, n = j + 1 := ⟨n - 1, by simp at hn; omega⟩
    have hx : x < 8 := h8 x (by rw [e]; simp)
    rw [f_X7_valueOfWord_10, if_neg (nI_ge (by omega) (by omega)), X8_letter (a := x) h8 (by omega) (by rw [e]; simp), bno_s, X7_value h hx, bno_s, nI_1, vlW, ← Int32.add_assoc]
    have := ih (pre ++ [x]) n (s + V x) (by rw [e]; simp) (by simp at hn; omega)
    rw [List.length_append] at this
    exact this
theorem X7_valueOfWord {V : Nat → Int32} {σ : St} (h : VC V σ) {t : List Nat} (h8 : lt8 t) (h7 : t.length ≤ 7) : f_X7_valueOfWord σ (nI (pk t)) = some (vlW V t) := by
  unfold f_X7_valueOfWord
  rw [X8_length h8 h7, bno_s]
  have := X7_valueOfWord_loop h h8 h7 t [] FU 0 rfl (FU_big (by omega))
  rw [Int32.zero_add] at this
  exact this
