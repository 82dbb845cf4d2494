/-! ===== the rules of a play, on the class's side ===== -/
def agr (g : Int → Option Nat) : Nat → List Nat → Bool
  | _, [] => true
  | j, x :: u => (match g (j : Int) with
    | none => true
    | some a => decide (a = x)) && agr g (j + 1) u
def frs (g : Int → Option Nat) : Nat → List Nat → List Nat
  | _, [] => []
  | j, x :: u => if (g (j : Int)).isSome then frs g (j + 1) u else x :: frs g (j + 1) u
def mst (D : List (List Nat)) (w : List Nat) : Bool := decide (w.length = 1) || decide (w ∈ D)
def okX (D : List (List Nat)) (T : Bd) (d a : Nat) : Nat → List Nat → Bool
  | _, [] => true
  | j, x :: u => ((M T d a j).isSome || mst D (thr (M T (1 - d) j) a x)) && okX D T d a (j + 1) u
def tcE (T : Bd) (d a b len : Nat) : Bool := (M T d a ((b : Int) - 1)).isSome || (M T d a ((b : Int) + len)).isSome
def bare (T : Bd) : Bool := (List.range 49).all (fun k => (T (k / 7 : Nat) (k % 7 : Nat)).isNone)
def tch (T : Bd) (d a b len : Nat) : Bool := (List.range len).any (fun k => (M T d a (b + k : Nat)).isSome || (M T d ((a : Int) - 1) (b + k : Nat)).isSome || (M T d ((a : Int) + 1) (b + k : Nat)).isSome)
def con (T : Bd) (d a b len : Nat) : Bool := if bare T then decide (a = 3 ∧ b ≤ 3 ∧ 3 < b + len) else tch T d a b len
def rsn (D : List (List Nat)) (T : Bd) (R : Nat → Nat) (d a b : Nat) (u : List Nat) : Int32 :=
  if u ∉ D then 1 else if 7 < b + u.length then 2 else if tcE T d a b u.length then 3 else if agr (M T d a) b u = false then 4 else if frs (M T d a) b u = [] then 5
    else if tk R (frs (M T d a) b u) = none then 6 else if con T d a b u.length = false then 7 else if okX D T d a b u = false then 8 else 0
/-- fresh letters -/
theorem frs_lt8 (g : Int → Option Nat) : ∀ (u : List Nat) (j : Nat), lt8 u → lt8 (frs g j u)
  | [], _, h => h
  | x :: u, j, h => by
    obtain ⟨hx, hu⟩ := lt8_cons.mp h
    unfold frs
    by_cases c : (g (j : Int)).isSome = true
    · rw [if_pos c]; exact frs_lt8 g u _ hu
    · rw [if_neg c]; exact lt8_cons.mpr ⟨hx, frs_lt8 g u _ hu⟩
theorem frs_nil (g : Int → Option Nat) : ∀ (u : List Nat) (j : Nat), frs g j u = [] ↔ ∀ k, k < u.length → (g ((j + k : Nat) : Int)).isSome = true
  | [], _ => by simp [frs]
  | x :: u, j => by
    unfold frs
    constructor
    · intro h
      by_cases c : (g (j : Int)).isSome = true
      · rw [if_pos c] at h
        intro k hk
        match k with
        | 0 => exact c
        | k + 1 =>
          have := (frs_nil g u (j + 1)).mp h k (by simpa using hk)
          rw [show j + (k + 1) = j + 1 + k by omega]
          exact this
      · rw [if_neg c] at h
        cases h
    · intro h
      have c : (g (j : Int)).isSome = true := h 0 (by simp)
      rw [if_pos c]
      apply (frs_nil g u (j + 1)).mpr
      intro k hk
      have := h (k + 1) (by simpa using hk)
      rw [show j + (k + 1) = j + 1 + k by omega] at this
      exact this
theorem enc_m1 (o : Option Nat) (h : ∀ a, o = some a → a < 8) : (enc o = -1) = (o = none) := by
  cases o with
  | none => exact propext ⟨fun _ => rfl, fun _ => rfl⟩
  | some a =>
    have := h a rfl
    apply propext
    constructor
    · intro e
      exfalso
      exact nI_pos (n := a) (by omega) (by rw [show nI a = -1 from e]; decide)
    · intro e
      cases e
theorem sq_tile {T : Bd} {σ : St} (h : OC T σ) {d a j : Nat} (ha : a < 7) (hj : j ≤ 7) : f_X0_hasTile σ (iI (adr d a j)) = some (M T d a j).isSome := by
  have b1 := adr_bd (d := d) (a := a) (b := j) (by omega) (by omega) (by omega) (by omega)
  rw [X0_hasTile h (by omega) (by omega), cell_adr h.1 (by omega) (by omega) (by omega) (by omega)]
theorem sq_letter {T : Bd} {σ : St} (h : OC T σ) {d a j : Nat} (ha : a < 7) (hj : j ≤ 7) : f_X0_letter σ (iI (adr d a j)) = some (enc (M T d a j)) := by
  have b1 := adr_bd (d := d) (a := a) (b := j) (by omega) (by omega) (by omega) (by omega)
  rw [X0_letter h (by omega) (by omega), cell_adr h.1 (by omega) (by omega) (by omega) (by omega)]
theorem adr_suc (d a j : Nat) : iI (adr d a j) + iI (st d) = iI (adr d a (j + 1 : Nat)) := by
  rw [iI_add, adr_next]
  rfl
theorem X5_agr_loop {T : Bd} {σ : St} (h : OC T σ) {d a b : Nat} (hd : d < 2) (ha : a < 7) (hb : b < 7) {t : List Nat} (h8 : lt8 t) (h7 : b + t.length ≤ 7) : ∀ (suf pre : List Nat) (n : Nat), t = pre ++ suf → suf.length < n →
    f_X5_agreesWithTiles_14 σ n (nI (stn d a b)) (nI (pk t)) (iI (adr d a (b + pre.length : Nat))) (nI t.length) (nI pre.length) = some (agr (M T d a) (b + pre.length) suf) := by
  intro suf
  induction suf with
  | nil =>
    intro pre n e hn
    obtain ⟨n, rfl⟩ : ∃ j, n = j + 1 := ⟨n - 1, by simp at hn; omega⟩
    rw [List.append_nil] at e
    rw [f_X5_agreesWithTiles_14, if_pos (by rw [e]; exact nI_le (Nat.le_refl _) (by rw [e] at h7; omega)), agr]
  | cons x suf ih =>
    intro pre n e hn
    have hlen : t.length = pre.length + (suf.length + 1) := by rw [e]; simp
    obtain ⟨n, rfl⟩ : ∃ j, n = j + 1 := ⟨n - 1, by simp at hn; omega⟩
    have hx : x < 8 := h8 x (by rw [e]; simp)
    have go : f_X5_agreesWithTiles_53 (f_X5_agreesWithTiles_14 σ n) σ (nI (stn d a b)) (nI (pk t)) (iI (adr d a (b + pre.length : Nat))) (nI t.length) (nI pre.length) = some (agr (M T d a) (b + pre.length + 1) suf) := by
      unfold f_X5_agreesWithTiles_53
      rw [st_st d hd a ha b hb, bno_s, adr_suc, nI_1]
      have := ih (pre ++ [x]) n (by rw [e]; simp) (by simp at hn; omega)
      rw [List.length_append] at this
      exact this
    rw [f_X5_agreesWithTiles_14, if_neg (nI_ge (by omega) (by omega)), sq_letter h ha (by omega), bno_s]
    simp only [enc_m1 _ (fun a e => (M_ok h.1 e).2.2.2.2)]
    unfold agr
    cases e2 : M T d a (b + pre.length : Nat) with
    | none =>
      rw [if_pos rfl, go]
      rfl
    | some y =>
      have hy := (M_ok h.1 e2).2.2.2.2
      rw [if_neg (by simp), X8_letter (a := x) h8 (by omega) (by rw [e]; simp), bno_s]
      show (if nI y = nI x then _ else _) = _
      by_cases c : y = x
      · rw [if_pos (by rw [c]), go]
        simp [c]
      · rw [if_neg (fun q => c ((nI_eq (by omega) (by omega)).mp q))]
        simp [c]
theorem X5_agr {T : Bd} {σ : St} (h : OC T σ) {d a b : Nat} (hd : d < 2) (ha : a < 7) (hb : b < 7) {t : List Nat} (h8 : lt8 t) (h7 : b + t.length ≤ 7) : f_X5_agreesWithTiles σ (nI (stn d a b)) (nI (pk t)) = some (agr (M T d a) b t) := by
  unfold f_X5_agreesWithTiles
  rw [st_sq d hd a ha b hb, bno_s, X8_length h8 (by omega), bno_s]
  exact X5_agr_loop h hd ha hb h8 h7 t [] FU rfl (FU_big (by omega))
theorem X5_rack_loop {T : Bd} {σ : St} (h : OC T σ) {d a b : Nat} (hd : d < 2) (ha : a < 7) (hb : b < 7) {t : List Nat} (h8 : lt8 t) (h7 : b + t.length ≤ 7) : ∀ (suf pre : List Nat) (n : Nat) (R : Nat → Nat), okR R → t = pre ++ suf → suf.length < n →
    f_X5_rackAfter_18 σ n (nI (stn d a b)) (nI (pk t)) (nI (pr R)) (iI (adr d a (b + pre.length : Nat))) (nI t.length) (nI pre.length) = some (pr1 (tk R (frs (M T d a) (b + pre.length) suf))) := by
  intro suf
  induction suf with
  | nil =>
    intro pre n R hR e hn
    obtain ⟨n, rfl⟩ : ∃ j, n = j + 1 := ⟨n - 1, by simp at hn; omega⟩
    rw [List.append_nil] at e
    rw [f_X5_rackAfter_18, if_pos (by rw [e]; exact nI_le (Nat.le_refl _) (by rw [e] at h7; omega)), frs]
    rfl
  | cons x suf ih =>
    intro pre n R hR e hn
    have hlen : t.length = pre.length + (suf.length + 1) := by rw [e]; simp
    obtain ⟨n, rfl⟩ : ∃ j, n = j + 1 := ⟨n - 1, by simp at hn; omega⟩
    have hx : x < 8 := h8 x (by rw [e]; simp)
    have go : ∀ R, okR R → f_X5_rackAfter_69 (f_X5_rackAfter_18 σ n) σ (nI (stn d a b)) (nI (pk t)) (nI (pr R)) (iI (adr d a (b + pre.length : Nat))) (nI t.length) (nI pre.length) = some (pr1 (tk R (frs (M T d a) (b + pre.length + 1) suf))) := by
      intro R hR
      unfold f_X5_rackAfter_69
      rw [st_st d hd a ha b hb, bno_s, adr_suc, nI_1]
      have := ih (pre ++ [x]) n R hR (by rw [e]; simp) (by simp at hn; omega)
      rw [List.length_append] at this
      exact this
    rw [f_X5_rackAfter_18, if_neg (nI_ge (by omega) (by omega)), sq_tile h ha (by omega), bno_s, if_b, frs]
    by_cases c : (M T d a (b + pre.length : Nat)).isSome = true
    · rw [if_pos c, if_pos c, go R hR]
    · rw [if_neg c, if_neg c, X8_letter (a := x) h8 (by omega) (by rw [e]; simp), bno_s, X4_count hR hx, bno_s, tk]
      have hr := R_le (R := R) x hx
      have hR2 := hR
      unfold okR at hR2
      by_cases c2 : R x = 0
      · rw [if_pos c2, c2, if_pos (show nI 0 = 0 from rfl)]
        rfl
      · rw [if_neg c2, if_neg (nI_ne0 (by omega) (by omega)), X4_without hx (by omega), bno_s, go]
        have := tot_take x hx (show 0 < R x by omega)
        unfold okR
        omega
theorem X5_rackAfter {T : Bd} {σ : St} (h : OC T σ) {d a b : Nat} (hd : d < 2) (ha : a < 7) (hb : b < 7) {t : List Nat} (h8 : lt8 t) (h7 : b + t.length ≤ 7) {R : Nat → Nat} (hR : okR R) : f_X5_rackAfter σ (nI (pr R)) (nI (stn d a b)) (nI (pk t)) = some (pr1 (tk R (frs (M T d a) b t))) := by
  unfold f_X5_rackAfter
  rw [st_sq d hd a ha b hb, bno_s, X8_length h8 (by omega), bno_s]
  exact X5_rack_loop h hd ha hb h8 h7 t [] FU R hR rfl (FU_big (by omega))
/-- cross words -/
theorem up_len (g : Int → Option Nat) : ∀ (n : Nat) (q : Int), (up g n q).length ≤ n
  | 0, _ => Nat.le_refl _
  | n + 1, q => by
    unfold up
    cases g q with
    | none => simp
    | some a =>
      have := up_len g n (q + 1)
      simp
      omega
theorem up_lt8 {g : Int → Option Nat} (h : ∀ q a, g q = some a → a < 8) : ∀ (n : Nat) (q : Int), lt8 (up g n q)
  | 0, _ => by intro x hx; cases hx
  | n + 1, q => by
    unfold up
    cases e : g q with
    | none => intro x hx; cases hx
    | some a => exact lt8_cons.mpr ⟨h q a e, up_lt8 h n (q + 1)⟩
theorem thr_ok {T : Bd} (h : okT T) {e : Nat} {b p : Int} {l : Nat} (hl : l < 8) : okW (thr (M T e b) p l) := by
  refine ⟨up_lt8 ?_ 7 _, up_len _ 7 _⟩
  intro q a hq
  unfold put1 at hq
  by_cases c : q = p
  · rw [if_pos c] at hq
    cases hq
    exact hl
  · rw [if_neg c] at hq
    exact (M_ok h hq).2.2.2.2
theorem num_m1 {D : List (List Nat)} {t : List Nat} (h : D.length ≤ 30) : (num D t 0 = -1) = (t ∉ D) := propext (num_none D t 0 (by omega))
theorem X5_mayStand {D : List (List Nat)} {σ : St} (h : CD D σ) {t : List Nat} (ht : okW t) : f_X5_mayStand σ (nI (pk t)) = some (mst D t) := by
  unfold f_X5_mayStand mst
  rw [X8_length ht.1 ht.2, bno_s]
  have h1 := ht.2
  have e1 : (nI t.length = (1 : Int32)) = (t.length = 1) := propext (nI_eq (b := 1) (by omega) (by omega))
  simp only [e1]
  by_cases c : t.length = 1
  · rw [if_pos c]
    simp [c, f_X5_mayStand_23]
  · rw [if_neg c, X1_numberOf h ht, bno_s]
    simp only [num_m1 h.2.1]
    by_cases c2 : t ∈ D
    · rw [if_neg (by simpa using c2)]
      simp [c2, f_X5_mayStand_23]
    · rw [if_pos c2]
      simp [c, c2]
theorem X5_through {T : Bd} {σ : St} (h : OC T σ) {d a j : Nat} (hd : d < 2) (ha : a < 7) (hj : j < 7) {l : Nat} (hl : l < 8) : f_X0_wordThrough σ (iI (adr d a j)) (nI l) (iI (st (1 - d))) = some (nI (pk (thr (M T (1 - d) j) a l))) := by
  rw [adr_turn hd]
  exact X0_wordThrough h (by omega) (by omega) (by omega) (by omega) hl
theorem X5_cross_loop {D : List (List Nat)} {T : Bd} {σ : St} (hD : CD D σ) (h : OC T σ) {d a b : Nat} (hd : d < 2) (ha : a < 7) (hb : b < 7) {t : List Nat} (h8 : lt8 t) (h7 : b + t.length ≤ 7) : ∀ (suf pre : List Nat) (n : Nat), t = pre ++ suf → suf.length < n →
    f_X5_crossWordsAreWords_14 σ n (nI (stn d a b)) (nI (pk t)) (iI (adr d a (b + pre.length : Nat))) (nI t.length) (nI pre.length) = some (okX D T d a (b + pre.length) suf) := by
  intro suf
  induction suf with
  | nil =>
    intro pre n e hn
    obtain ⟨n, rfl⟩ : ∃ j, n = j + 1 := ⟨n - 1, by simp at hn; omega⟩
    rw [List.append_nil] at e
    rw [f_X5_crossWordsAreWords_14, if_pos (by rw [e]; exact nI_le (Nat.le_refl _) (by rw [e] at h7; omega)), okX]
  | cons x suf ih =>
    intro pre n e hn
    have hlen : t.length = pre.length + (suf.length + 1) := by rw [e]; simp
    obtain ⟨n, rfl⟩ : ∃ j, n = j + 1 := ⟨n - 1, by simp at hn; omega⟩
    have hx : x < 8 := h8 x (by rw [e]; simp)
    have go : f_X5_crossWordsAreWords_73 (f_X5_crossWordsAreWords_14 σ n) σ (nI (stn d a b)) (nI (pk t)) (iI (adr d a (b + pre.length : Nat))) (nI t.length) (nI pre.length) = some (okX D T d a (b + pre.length + 1) suf) := by
      unfold f_X5_crossWordsAreWords_73
      rw [st_st d hd a ha b hb, bno_s, adr_suc, nI_1]
      have := ih (pre ++ [x]) n (by rw [e]; simp) (by simp at hn; omega)
      rw [List.length_append] at this
      exact this
    rw [f_X5_crossWordsAreWords_14, if_neg (nI_ge (by omega) (by omega)), sq_tile h ha (by omega), bno_s, if_b, okX]
    by_cases c : (M T d a (b + pre.length : Nat)).isSome = true
    · rw [if_pos c, go, c]
      rfl
    · rw [if_neg c, X8_letter (a := x) h8 (by omega) (by rw [e]; simp), bno_s, st_cs d hd a ha b hb, bno_s, X5_through h hd ha (by omega) hx, bno_s, X5_mayStand hD (thr_ok h.1 hx), bno_s, if_b]
      rw [Bool.not_eq_true] at c
      rw [c, Bool.false_or]
      cases mst D (thr (M T (1 - d) (b + pre.length : Nat)) a x) with
      | false => rfl
      | true => exact go
theorem X5_crossWords {D : List (List Nat)} {T : Bd} {σ : St} (hD : CD D σ) (h : OC T σ) {d a b : Nat} (hd : d < 2) (ha : a < 7) (hb : b < 7) {t : List Nat} (h8 : lt8 t) (h7 : b + t.length ≤ 7) : f_X5_crossWordsAreWords σ (nI (stn d a b)) (nI (pk t)) = some (okX D T d a b t) := by
  unfold f_X5_crossWordsAreWords
  rw [st_sq d hd a ha b hb, bno_s, X8_length h8 (by omega), bno_s]
  exact X5_cross_loop hD h hd ha hb h8 h7 t [] FU rfl (FU_big (by omega))
/-- the letters of a cross set -/
def csF (ok : Nat → Bool) : Nat → Int32
  | 0 => 0
  | l + 1 => if ok l then csF ok l ||| ((1 : Int32) <<< (nI l &&& 31)) else csF ok l
theorem X5_letters_loop {D : List (List Nat)} {T : Bd} {σ : St} (hD : CD D σ) (h : OC T σ) {d a b : Nat} (hd : d < 2) (ha : a < 7) (hb : b < 7) : ∀ (m k n : Nat), k + m = 8 → m < n →
    f_X5_crossLetters_26 σ n (nI (stn d a b)) (iI (adr d a b)) (csF (fun l => mst D (thr (M T (1 - d) b) a l)) k) (nI k) = some (csF (fun l => mst D (thr (M T (1 - d) b) a l)) 8) := by
  intro m
  induction m with
  | zero =>
    intro k n hk hn
    obtain ⟨n, rfl⟩ : ∃ j, n = j + 1 := ⟨n - 1, by omega⟩
    have : k = 8 := by omega
    subst this
    rfl
  | succ m ih =>
    intro k n hk hn
    obtain ⟨n, rfl⟩ : ∃ j, n = j + 1 := ⟨n - 1, by omega⟩
    have c : ¬ (8 : Int32) ≤ nI k := nI_ge (b := 8) (by omega) (by omega)
    rw [f_X5_crossLetters_26, if_neg c, st_cs d hd a ha b hb, bno_s, X5_through h hd ha hb (by omega), bno_s, X5_mayStand hD (thr_ok h.1 (by omega)), bno_s, if_b]
    unfold f_X5_crossLetters_64
    rw [nI_1]
    have := ih (k + 1) n (by omega) (by omega)
    rw [csF] at this
    cases e : mst D (thr (M T (1 - d) b) a k) with
    | false =>
      rw [if_neg (by simp)]
      rw [e, if_neg (by simp)] at this
      exact this
    | true =>
      rw [if_pos rfl]
      rw [e, if_pos rfl] at this
      exact this
theorem X5_crossLetters {D : List (List Nat)} {T : Bd} {σ : St} (hD : CD D σ) (h : OC T σ) {d a b : Nat} (hd : d < 2) (ha : a < 7) (hb : b < 7) : f_X5_crossLetters σ (nI (stn d a b)) = some (if (M T d a b).isSome then 0 else csF (fun l => mst D (thr (M T (1 - d) b) a l)) 8) := by
  unfold f_X5_crossLetters
  rw [st_sq d hd a ha b hb, bno_s, sq_tile h ha (by omega), bno_s, if_b]
  cases (M T d a b).isSome with
  | true => rfl
  | false => exact X5_letters_loop hD h hd ha hb 8 0 FU (by omega) (FU_big (by omega))
