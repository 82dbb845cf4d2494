/-! ===== the next play of the class's list ===== -/
theorem csF_bit (ok : Nat → Bool) : ∀ (n l : Nat), n ≤ 31 → l < 31 → bt (csF ok n) l = (decide (l < n) && ok l)
  | 0, l, _, _ => by
    show bt 0 l = _
    rw [b_0]
    simp
  | n + 1, l, hn, hl => by
    have ih := csF_bit ok n l (by omega) hl
    unfold csF
    have h1 : bt ((1 : Int32) <<< (nI n &&& 31)) l = decide (l = n) := by
      rw [b_shl n (by omega) 1 (by omega)]
      have hb1 : ∀ i, i < 32 → bt 1 i = decide (i = 0) := by decide +kernel
      rw [hb1 (l - n) (by omega)]
      by_cases c : l = n
      · simp [c]
      · rw [decide_eq_false c]
        by_cases c2 : n ≤ l
        · rw [decide_eq_false (show ¬ l - n = 0 by omega), Bool.and_false]
        · rw [decide_eq_false c2, Bool.false_and]
    by_cases c : ok n = true
    · rw [if_pos c, b_or, ih, h1]
      by_cases c2 : l = n
      · rw [c2, c]; simp
      · rw [decide_eq_false c2, Bool.or_false]
        congr 1
        simp
        omega
    · rw [if_neg c, ih]
      by_cases c2 : l = n
      · have c3 : ok n = false := by simpa using c
        rw [c2, c3]; simp
      · congr 1
        simp
        omega
theorem bt_test {x : Int32} {l : Nat} (hl : l < 31) : ((x >>> (nI l &&& 31)) &&& 1 = 0) = (bt x l = false) := by
  have hb1 : ∀ i, i < 32 → bt 1 i = decide (i = 0) := by decide +kernel
  apply propext
  constructor
  · intro h
    have h2 : bt ((x >>> (nI l &&& 31)) &&& 1) 0 = bt 0 0 := by rw [h]
    rw [b_and, hb1 0 (by omega), b_sshr l (by omega) x (by omega), b_0, if_pos (by omega)] at h2
    simpa using h2
  · intro h
    apply b_ext
    intro i hi
    rw [b_and, hb1 i hi, b_0]
    by_cases c : i = 0
    · rw [c, b_sshr l (by omega) x (by omega), if_pos (by omega), Nat.add_zero, h]
      rfl
    · rw [decide_eq_false c, Bool.and_false]
/-- the lengths that may fit at a start -/
def lfB (T : Bd) (d a b : Nat) (l : Nat) : Bool := decide (2 ≤ l) && (con T d a b l && !tcE T d a b l)
theorem X5_fit_loop {T : Bd} {σ : St} (h : OC T σ) {d a b : Nat} (hd : d < 2) (ha : a < 7) (hb : b < 7) : ∀ (m k n : Nat), 2 ≤ k → k + m = 8 - b → m < n →
    f_X5_lengthsThatMayFit_19 σ n (nI (stn d a b)) (csF (lfB T d a b) k) (nI (7 - b)) (nI k) = some (csF (lfB T d a b) (8 - b)) := by
  intro m
  induction m with
  | zero =>
    intro k n h2 hk hn
    obtain ⟨n, rfl⟩ : ∃ j, n = j + 1 := ⟨n - 1, by omega⟩
    rw [f_X5_lengthsThatMayFit_19, if_pos (nI_lt (by omega) (by omega))]
    congr 2
  | succ m ih =>
    intro k n h2 hk hn
    obtain ⟨n, rfl⟩ : ∃ j, n = j + 1 := ⟨n - 1, by omega⟩
    rw [f_X5_lengthsThatMayFit_19, if_neg (nI_nlt (by omega) (by omega)), X5_isConnected h hd ha hb (by omega), bno_s, if_b, X5_touches h hd ha hb (by omega), bno_s, if_b]
    unfold f_X5_lengthsThatMayFit_52
    rw [nI_1]
    have := ih (k + 1) n (by omega) (by omega) (by omega)
    rw [csF] at this
    unfold lfB at this
    rw [decide_eq_true h2, Bool.true_and] at this
    cases e : con T d a b k with
    | false =>
      rw [e, Bool.false_and, if_neg (by simp)] at this
      rw [if_neg (by simp)]
      exact this
    | true =>
      rw [if_pos rfl]
      rw [e, Bool.true_and] at this
      cases e2 : tcE T d a b k with
      | true =>
        rw [e2, if_neg (by simp)] at this
        rw [if_pos rfl]
        exact this
      | false =>
        rw [e2, if_pos (by simp)] at this
        rw [if_neg (by simp)]
        exact this
theorem X5_fit {T : Bd} {σ : St} (h : OC T σ) {d a b : Nat} (hd : d < 2) (ha : a < 7) (hb : b < 7) : f_X5_lengthsThatMayFit σ (nI (stn d a b)) = some (csF (lfB T d a b) (8 - b)) := by
  unfold f_X5_lengthsThatMayFit
  rw [st_on d hd a ha b hb, bno_s, if_b, if_pos rfl, st_room d hd a ha b hb, bno_s]
  have e0 : ∀ k, k ≤ 2 → csF (lfB T d a b) k = 0 := by
    intro k hk
    match k, hk with
    | 0, _ => rfl
    | 1, _ => rfl
    | 2, _ => rfl
    | k + 3, h => exact absurd h (by omega)
  by_cases c : b = 6
  · subst c
    rw [e0 2 (by omega)]
    obtain ⟨n, hn⟩ : ∃ n, FU = n + 1 := ⟨FU - 1, by unfold FU; omega⟩
    rw [hn, f_X5_lengthsThatMayFit_19, if_pos (by decide)]
  · have := X5_fit_loop h hd ha hb (6 - b) 2 FU (by omega) (by omega) (FU_big (by omega))
    rw [e0 2 (by omega)] at this
    exact this
theorem rsn_0 {D : List (List Nat)} {T : Bd} {R : Nat → Nat} {d a b : Nat} {u : List Nat} : rsn D T R d a b u = 0 ↔ u ∈ D ∧ b + u.length ≤ 7 ∧ tcE T d a b u.length = false ∧ agr (M T d a) b u = true ∧ frs (M T d a) b u ≠ [] ∧ tk R (frs (M T d a) b u) ≠ none ∧ con T d a b u.length = true ∧ okX D T d a b u = true := by
  unfold rsn
  constructor
  · intro h
    by_cases c1 : u ∉ D
    · rw [if_pos c1] at h; exact absurd h (by decide)
    rw [if_neg c1] at h
    by_cases c2 : 7 < b + u.length
    · rw [if_pos c2] at h; exact absurd h (by decide)
    rw [if_neg c2] at h
    by_cases c3 : tcE T d a b u.length = true
    · rw [if_pos c3] at h; exact absurd h (by decide)
    rw [if_neg c3] at h
    by_cases c4 : agr (M T d a) b u = false
    · rw [if_pos c4] at h; exact absurd h (by decide)
    rw [if_neg c4] at h
    by_cases c5 : frs (M T d a) b u = []
    · rw [if_pos c5] at h; exact absurd h (by decide)
    rw [if_neg c5] at h
    by_cases c6 : tk R (frs (M T d a) b u) = none
    · rw [if_pos c6] at h; exact absurd h (by decide)
    rw [if_neg c6] at h
    by_cases c7 : con T d a b u.length = false
    · rw [if_pos c7] at h; exact absurd h (by decide)
    rw [if_neg c7] at h
    by_cases c8 : okX D T d a b u = false
    · rw [if_pos c8] at h; exact absurd h (by decide)
    exact ⟨Decidable.not_not.mp c1, by omega, by simpa using c3, by simpa using c4, c5, c6, by simpa using c7, by simpa using c8⟩
  · rintro ⟨h1, h2, h3, h4, h5, h6, h7, h8⟩
    rw [if_neg (fun q => q h1), if_neg (by omega), if_neg (by simp [h3]), if_neg (by simp [h4]), if_neg h5, if_neg h6, if_neg (by simp [h7]), if_neg (by simp [h8])]
/-- whether the class's play number n may be made -/
def lc (D : List (List Nat)) (T : Bd) (R : Nat → Nat) (n : Nat) : Bool := decide (n / 256 % 8 < 7 ∧ n / 32 % 8 < 7) && match D[n % 32]? with
  | none => false
  | some u => decide (rsn D T R (n / 2048) (if n / 2048 = 0 then n / 256 % 8 else n / 32 % 8) (if n / 2048 = 0 then n / 32 % 8 else n / 256 % 8) u = 0)
def nxt (p : Nat → Bool) : Nat → Nat → Int32
  | 0, _ => -1
  | m + 1, n => if p n then nI n else nxt p m (n + 1)
theorem nxt_skip {p : Nat → Bool} : ∀ (j m n : Nat), (∀ i, n ≤ i → i < n + j → p i = false) → nxt p (m + j) n = nxt p m (n + j)
  | 0, m, n, _ => rfl
  | j + 1, m, n, h => by
    rw [← Nat.add_assoc, nxt, h n (by omega) (by omega), if_neg (by simp), nxt_skip j m (n + 1) (fun i h1 h2 => h i (by omega) (by omega))]
    congr 1
    omega
theorem stn_of {s : Nat} (hs : s < 128) : s = stn (s / 64) (if s / 64 = 0 then s / 8 % 8 else s % 8) (if s / 64 = 0 then s % 8 else s / 8 % 8) := by
  unfold stn
  by_cases c : s / 64 = 0
  · rw [if_pos c, if_pos c, if_pos c]; omega
  · rw [if_neg c, if_neg c, if_neg c]; omega
theorem lc_at {D : List (List Nat)} {T : Bd} {R : Nat → Nat} {d a b w : Nat} (hd : d < 2) (ha : a < 7) (hb : b < 7) (hw : w < 32) {u : List Nat} (hu : D[w]? = some u) : lc D T R (stn d a b * 32 + w) = decide (rsn D T R d a b u = 0) := by
  unfold lc
  have e1 : (stn d a b * 32 + w) / 2048 = d := by unfold stn; split <;> omega
  have e2 : (stn d a b * 32 + w) / 256 % 8 = if d = 0 then a else b := by
    unfold stn
    by_cases c : d = 0
    · rw [if_pos c, if_pos c]; omega
    · rw [if_neg c, if_neg c]; omega
  have e3 : (stn d a b * 32 + w) / 32 % 8 = if d = 0 then b else a := by
    unfold stn
    by_cases c : d = 0
    · rw [if_pos c, if_pos c]; omega
    · rw [if_neg c, if_neg c]; omega
  have e4 : (stn d a b * 32 + w) % 32 = w := by omega
  rw [e1, e2, e3, e4, hu]
  by_cases c : d = 0
  · simp only [if_pos c]
    rw [decide_eq_true ⟨ha, hb⟩, Bool.true_and]
  · simp only [if_neg c]
    rw [decide_eq_true ⟨hb, ha⟩, Bool.true_and]
theorem lc_off {D : List (List Nat)} {T : Bd} {R : Nat → Nat} {s w : Nat} (hw : w < 32) (h : s % 8 = 7 ∨ s / 8 % 8 = 7) : lc D T R (s * 32 + w) = false := by
  unfold lc
  rw [decide_eq_false (by omega), Bool.false_and]
theorem lc_no {D : List (List Nat)} {T : Bd} {R : Nat → Nat} {n : Nat} (h : D.length ≤ n % 32) : lc D T R n = false := by
  unfold lc
  rw [List.getElem?_eq_none h, Bool.and_false]
theorem X5_next_words {D : List (List Nat)} {T : Bd} {R : Nat → Nat → Nat} {σ : St} (hD : CD D σ) (h : OC T σ) (hR : KC R σ) {p d a b : Nat} (hp : p < 2) (hd : d < 2) (ha : a < 7) (hb : b < 7)
    {bk : Int32 → Int32 → Int32 → Int32 → Option Int32} (hbk : bk (nI p) (nI D.length) 0 (nI (stn d a b) + 1) = some (nxt (lc D T (R p)) (4096 - (stn d a b * 32 + 32)) (stn d a b * 32 + 32))) : ∀ (m w n : Nat), w + m = 32 → m < n →
    f_X5_nextPlay_39 bk σ n (nI p) (nI D.length) (nI w) (nI (stn d a b)) (csF (lfB T d a b) (8 - b)) = some (nxt (lc D T (R p)) (4096 - (stn d a b * 32 + w)) (stn d a b * 32 + w)) := by
  have hs := stn_lt hd ha hb
  have h30 := hD.2.1
  have leave : ∀ w, w ≤ 32 → (∀ i, w ≤ i → i < 32 → lc D T (R p) (stn d a b * 32 + i) = false) → f_X5_nextPlay_103 bk σ (nI p) (nI D.length) (nI (stn d a b)) = some (nxt (lc D T (R p)) (4096 - (stn d a b * 32 + w)) (stn d a b * 32 + w)) := by
    intro w hw h1
    unfold f_X5_nextPlay_103
    rw [hbk]
    have := nxt_skip (p := lc D T (R p)) (32 - w) (4096 - (stn d a b * 32 + 32)) (stn d a b * 32 + w) (fun i h2 h3 => by
      have := h1 (i - stn d a b * 32) (by omega) (by omega)
      rwa [show stn d a b * 32 + (i - stn d a b * 32) = i by omega] at this)
    rw [show 4096 - (stn d a b * 32 + 32) + (32 - w) = 4096 - (stn d a b * 32 + w) by omega, show stn d a b * 32 + w + (32 - w) = stn d a b * 32 + 32 by omega] at this
    rw [this]
  have fit : ∀ (w : Nat) (u : List Nat), D[w]? = some u → lc D T (R p) (stn d a b * 32 + w) = true → u.length < 31 ∧ bt (csF (lfB T d a b) (8 - b)) u.length = true := by
    intro w u hu h1
    have hlt := (List.getElem?_eq_some_iff.mp hu).1
    rw [lc_at hd ha hb (by omega) hu, decide_eq_true_iff, rsn_0] at h1
    have h2 := (hD.2.2.1 u (List.mem_of_getElem? hu)).2
    refine ⟨by omega, ?_⟩
    rw [csF_bit _ _ _ (by omega) (by omega), decide_eq_true (show u.length < 8 - b by omega)]
    unfold lfB
    rw [decide_eq_true h2, h1.2.2.1, h1.2.2.2.2.2.2.1]
    rfl
  intro m
  induction m with
  | zero =>
    intro w n hw hn
    obtain ⟨n, rfl⟩ : ∃ j, n = j + 1 := ⟨n - 1, by omega⟩
    have l1 := leave w (by omega) (fun i h1 h2 => by omega)
    rw [f_X5_nextPlay_39]
    by_cases c : csF (lfB T d a b) (8 - b) = 0
    · rw [if_pos c, l1]
    · rw [if_neg c, if_pos (nI_le (by omega) (by omega)), l1]
  | succ m ih =>
    intro w n hw hn
    obtain ⟨n, rfl⟩ : ∃ j, n = j + 1 := ⟨n - 1, by omega⟩
    rw [f_X5_nextPlay_39]
    by_cases c : csF (lfB T d a b) (8 - b) = 0
    · rw [if_pos c]
      apply leave w (by omega)
      intro i h1 h2
      cases e : D[i]? with
      | none => exact lc_no (by rw [show (stn d a b * 32 + i) % 32 = i by omega]; exact List.getElem?_eq_none_iff.mp e)
      | some u =>
        cases e2 : lc D T (R p) (stn d a b * 32 + i) with
        | false => rfl
        | true =>
          have h3 := (fit i u e e2).2
          rw [c, b_0] at h3
          cases h3
    · rw [if_neg c]
      by_cases c2 : D.length ≤ w
      · rw [if_pos (nI_le c2 (by omega))]
        apply leave w (by omega)
        intro i h1 h2
        exact lc_no (by omega)
      · have hlt : w < D.length := by omega
        have hu : D[w]? = some D[w] := List.getElem?_eq_getElem hlt
        obtain ⟨⟨h8, h7⟩, h2⟩ := hD.2.2.1 D[w] (List.getElem_mem hlt)
        have go : lc D T (R p) (stn d a b * 32 + w) = false → f_X5_nextPlay_97 bk (f_X5_nextPlay_39 bk σ n) σ (nI p) (nI D.length) (nI w) (nI (stn d a b)) (csF (lfB T d a b) (8 - b)) = some (nxt (lc D T (R p)) (4096 - (stn d a b * 32 + w)) (stn d a b * 32 + w)) := by
          intro h1
          unfold f_X5_nextPlay_97
          rw [nI_1, ih (w + 1) n (by omega) (by omega)]
          rw [show 4096 - (stn d a b * 32 + w) = 4096 - (stn d a b * 32 + (w + 1)) + 1 by omega, nxt, h1, if_neg (by simp)]
          rfl
        rw [if_neg (nI_ge hlt (by omega)), X1_word hD hu, bno_s, X8_length h8 h7, bno_s]
        simp only [bt_test (x := csF (lfB T d a b) (8 - b)) (l := D[w].length) (by omega)]
        by_cases c3 : bt (csF (lfB T d a b) (8 - b)) D[w].length = false
        · rw [if_pos c3]
          apply go
          cases e2 : lc D T (R p) (stn d a b * 32 + w) with
          | false => rfl
          | true =>
            have h3 := (fit w D[w] hu e2).2
            rw [c3] at h3
            cases h3
        · rw [if_neg c3, X5_refusal hD h hR hp hd ha hb hu, bno_s]
          have e5 := lc_at (D := D) (T := T) (R := R p) hd ha hb (show w < 32 by omega) hu
          by_cases c4 : rsn D T (R p) d a b D[w] = 0
          · rw [if_pos c4, (pc_all _ hs w (by omega)).1, bno_s]
            rw [decide_eq_true c4] at e5
            rw [show 4096 - (stn d a b * 32 + w) = 4096 - (stn d a b * 32 + (w + 1)) + 1 by omega, nxt, e5, if_pos rfl]
          · rw [if_neg c4]
            rw [decide_eq_false c4] at e5
            exact go e5
theorem X5_next_starts {D : List (List Nat)} {T : Bd} {R : Nat → Nat → Nat} {σ : St} (hD : CD D σ) (h : OC T σ) (hR : KC R σ) {p : Nat} (hp : p < 2) : ∀ (m s w n : Nat), s + m = 128 → m < n → w < 32 → (s = 128 → w = 0) →
    f_X5_nextPlay_23 σ n (nI p) (nI D.length) (nI w) (nI s) = some (nxt (lc D T (R p)) (4096 - (s * 32 + w)) (s * 32 + w)) := by
  intro m
  induction m with
  | zero =>
    intro s w n hs hn hw hw0
    obtain ⟨n, rfl⟩ : ∃ j, n = j + 1 := ⟨n - 1, by omega⟩
    have : s = 128 := by omega
    subst this
    rw [f_X5_nextPlay_23, if_pos (by decide), hw0 rfl]
    rfl
  | succ m ih =>
    intro s w n hs hn hw hw0
    obtain ⟨n, rfl⟩ : ∃ j, n = j + 1 := ⟨n - 1, by omega⟩
    have c : ¬ (128 : Int32) ≤ nI s := nI_ge (b := 128) (by omega) (by omega)
    have hbk : f_X5_nextPlay_23 σ n (nI p) (nI D.length) 0 (nI s + 1) = some (nxt (lc D T (R p)) (4096 - (s * 32 + 32)) (s * 32 + 32)) := by
      rw [nI_1]
      have := ih (s + 1) 0 n (by omega) (by omega) (by omega) (fun _ => rfl)
      rw [show (s + 1) * 32 + 0 = s * 32 + 32 by omega] at this
      exact this
    rw [f_X5_nextPlay_23, if_neg c]
    by_cases on : s % 8 = 7 ∨ s / 8 % 8 = 7
    · unfold f_X5_lengthsThatMayFit
      rw [st_off s (by omega) on, bno_s, if_b, if_neg (by simp), bno_s]
      obtain ⟨k, hk⟩ : ∃ k, FU = k + 1 := ⟨FU - 1, by unfold FU; omega⟩
      rw [hk, f_X5_nextPlay_39, if_pos rfl]
      unfold f_X5_nextPlay_103
      rw [hbk]
      have := nxt_skip (p := lc D T (R p)) (32 - w) (4096 - (s * 32 + 32)) (s * 32 + w) (fun i h2 h3 => by
        have := lc_off (D := D) (T := T) (R := R p) (s := s) (w := i - s * 32) (by omega) on
        rwa [show s * 32 + (i - s * 32) = i by omega] at this)
      rw [show 4096 - (s * 32 + 32) + (32 - w) = 4096 - (s * 32 + w) by omega, show s * 32 + w + (32 - w) = s * 32 + 32 by omega] at this
      rw [this]
    · have e := stn_of (s := s) (by omega)
      have ha : (if s / 64 = 0 then s / 8 % 8 else s % 8) < 7 := by split <;> omega
      have hb : (if s / 64 = 0 then s % 8 else s / 8 % 8) < 7 := by split <;> omega
      generalize hA : (if s / 64 = 0 then s / 8 % 8 else s % 8) = a at e ha
      generalize hB : (if s / 64 = 0 then s % 8 else s / 8 % 8) = b at e hb
      have hd : s / 64 < 2 := by omega
      generalize s / 64 = d at e hd
      subst e
      rw [X5_fit h hd ha hb, bno_s]
      exact X5_next_words hD h hR hp hd ha hb hbk (32 - w) w FU (by omega) (FU_big (by omega))
theorem X5_nextPlay {D : List (List Nat)} {T : Bd} {R : Nat → Nat → Nat} {σ : St} (hD : CD D σ) (h : OC T σ) (hR : KC R σ) {p : Nat} (hp : p < 2) {n : Nat} (hn : n ≤ 4096) : f_X5_nextPlay σ (nI p) (nI n) = some (nxt (lc D T (R p)) (4096 - n) n) := by
  unfold f_X5_nextPlay
  rw [X1_size hD, bno_s]
  by_cases c : n = 4096
  · subst c
    have := X5_next_starts hD h hR hp 0 128 0 FU (by omega) (FU_big (by omega)) (by omega) (fun _ => rfl)
    exact this
  · have e := pc_all (n / 32) (by omega) (n % 32) (by omega)
    rw [show n / 32 * 32 + n % 32 = n by omega] at e
    rw [e.2.2, bno_s, e.2.1, bno_s]
    have := X5_next_starts hD h hR hp (128 - n / 32) (n / 32) (n % 32) FU (by omega) (FU_big (by omega)) (by omega) (by omega)
    rw [show n / 32 * 32 + n % 32 = n by omega] at this
    exact this
