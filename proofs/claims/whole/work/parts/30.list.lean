/-! ===== the class's list of plays ===== -/
def fl (p : Nat → Bool) : Nat → Nat → List Nat
  | 0, _ => []
  | m + 1, n => if p n then n :: fl p m (n + 1) else fl p m (n + 1)
def hd (L : List Nat) : Int32 := match L with
  | [] => -1
  | x :: _ => nI x
theorem nxt_hd (p : Nat → Bool) : ∀ m n, nxt p m n = hd (fl p m n)
  | 0, _ => rfl
  | m + 1, n => by
    unfold nxt fl
    by_cases c : p n = true
    · rw [if_pos c, if_pos c]; rfl
    · rw [if_neg c, if_neg c]; exact nxt_hd p m (n + 1)
theorem fl_cons {p : Nat → Bool} : ∀ {m n x : Nat} {L : List Nat}, fl p m n = x :: L → n ≤ x ∧ x < n + m ∧ p x = true ∧ L = fl p (n + m - (x + 1)) (x + 1)
  | 0, _, _, _, h => by cases h
  | m + 1, n, x, L, h => by
    unfold fl at h
    by_cases c : p n = true
    · rw [if_pos c] at h
      injection h with h1 h2
      subst h1
      refine ⟨Nat.le_refl _, by omega, c, ?_⟩
      rw [← h2]
      congr 1
      omega
    · rw [if_neg c] at h
      have := fl_cons h
      refine ⟨by omega, by omega, this.2.2.1, ?_⟩
      rw [this.2.2.2]
      congr 1
      omega
theorem fl_len (p : Nat → Bool) : ∀ m n, (fl p m n).length ≤ m
  | 0, _ => Nat.le_refl _
  | m + 1, n => by
    have := fl_len p m (n + 1)
    unfold fl
    split
    · simp; omega
    · omega
/-- what is left of the list of the plays below 4096 -/
def isS (p : Nat → Bool) (L : List Nat) : Prop := ∃ n, n ≤ 4096 ∧ L = fl p (4096 - n) n
theorem isS_cons {p : Nat → Bool} {x : Nat} {L : List Nat} (h : isS p (x :: L)) : x < 4096 ∧ p x = true ∧ isS p L ∧ nxt p (4096 - (x + 1)) (x + 1) = hd L := by
  obtain ⟨n, hn, e⟩ := h
  have h1 := fl_cons e.symm
  have e2 : L = fl p (4096 - (x + 1)) (x + 1) := by
    rw [h1.2.2.2]
    congr 1
    omega
  refine ⟨by omega, h1.2.2.1, ⟨x + 1, by omega, e2⟩, ?_⟩
  rw [nxt_hd, ← e2]
theorem isS_0 (p : Nat → Bool) : isS p (fl p 4096 0) := ⟨0, by omega, rfl⟩
theorem nI_nm1 {x : Nat} (h : x < 2147483648) : ¬ nI x = -1 := fun q => nI_pos h (by rw [q]; decide)
section plays
variable {D : List (List Nat)} {T : Bd} {R : Nat → Nat → Nat} {σ : St}
theorem X5_nx (hD : CD D σ) (h : OC T σ) (hR : KC R σ) {p : Nat} (hp : p < 2) {x : Nat} {L : List Nat} (hL : isS (lc D T (R p)) (x :: L)) : f_X5_nextPlay σ (nI p) (nI x + 1) = some (hd L) := by
  have h1 := isS_cons hL
  rw [nI_1, X5_nextPlay hD h hR hp (by omega), h1.2.2.2]
theorem X5_n0 (hD : CD D σ) (h : OC T σ) (hR : KC R σ) {p : Nat} (hp : p < 2) : f_X5_nextPlay σ (nI p) 0 = some (hd (fl (lc D T (R p)) 4096 0)) := by
  rw [← nxt_hd]
  exact X5_nextPlay hD h hR hp (n := 0) (by omega)
theorem X5_count_loop (hD : CD D σ) (h : OC T σ) (hR : KC R σ) {p : Nat} (hp : p < 2) : ∀ (L : List Nat) (k n : Nat), isS (lc D T (R p)) L → k + L.length ≤ 4096 → L.length < n →
    f_X5_countPlays_9 σ n (nI p) (nI k) (hd L) = some (nI (k + L.length))
  | [], k, n, _, _, hn => by
    obtain ⟨n, rfl⟩ : ∃ j, n = j + 1 := ⟨n - 1, by omega⟩
    rw [f_X5_countPlays_9]
    by_cases c : (4096 : Int32) ≤ nI k
    · rw [if_pos c]; rfl
    · rw [if_neg c, if_pos (show hd [] = -1 from rfl)]; rfl
  | x :: L, k, n, hL, hk, hn => by
    obtain ⟨n, rfl⟩ : ∃ j, n = j + 1 := ⟨n - 1, by omega⟩
    have hk2 : k + (L.length + 1) ≤ 4096 := hk
    have h1 := isS_cons hL
    have c : ¬ (4096 : Int32) ≤ nI k := nI_ge (b := 4096) (by omega) (by omega)
    rw [f_X5_countPlays_9, if_neg c, if_neg (show ¬ hd (x :: L) = -1 from nI_nm1 (by omega))]
    show bno (f_X5_nextPlay σ (nI p) (nI x + 1)) _ = _
    rw [X5_nx hD h hR hp hL, bno_s, nI_1, X5_count_loop hD h hR hp L (k + 1) n h1.2.2.1 (by omega) (by simp at hn; omega)]
    congr 2
    simp
    omega
theorem X5_countPlays (hD : CD D σ) (h : OC T σ) (hR : KC R σ) {p : Nat} (hp : p < 2) : f_X5_countPlays σ (nI p) = some (nI (fl (lc D T (R p)) 4096 0).length) := by
  unfold f_X5_countPlays
  have hl := fl_len (lc D T (R p)) 4096 0
  rw [X5_n0 hD h hR hp, bno_s]
  have := X5_count_loop hD h hR hp (fl (lc D T (R p)) 4096 0) 0 FU (isS_0 _) (by omega) (FU_big (by omega))
  rw [Nat.zero_add] at this
  exact this
theorem X5_numbered_loop (hD : CD D σ) (h : OC T σ) (hR : KC R σ) {p : Nat} (hp : p < 2) {i : Nat} (hi : i < 4096) : ∀ (L : List Nat) (k n : Nat), isS (lc D T (R p)) L → k ≤ i → L.length < n →
    f_X5_playNumbered_23 σ n (nI p) (nI i) (hd L) (nI k) = some (hd (L.drop (i - k)))
  | [], k, n, _, _, hn => by
    obtain ⟨n, rfl⟩ : ∃ j, n = j + 1 := ⟨n - 1, by omega⟩
    rw [f_X5_playNumbered_23, List.drop_nil]
    by_cases c : nI i ≤ nI k
    · rw [if_pos c]
    · rw [if_neg c, if_pos (show hd [] = -1 from rfl)]
  | x :: L, k, n, hL, hk, hn => by
    obtain ⟨n, rfl⟩ : ∃ j, n = j + 1 := ⟨n - 1, by omega⟩
    have h1 := isS_cons hL
    rw [f_X5_playNumbered_23]
    by_cases c : i = k
    · rw [if_pos (by rw [c]; exact nI_le (Nat.le_refl _) (by omega)), c, Nat.sub_self]
      rfl
    · rw [if_neg (nI_ge (by omega) (by omega)), if_neg (show ¬ hd (x :: L) = -1 from nI_nm1 (by omega))]
      show bno (f_X5_nextPlay σ (nI p) (nI x + 1)) _ = _
      rw [X5_nx hD h hR hp hL, bno_s, nI_1, X5_numbered_loop hD h hR hp hi L (k + 1) n h1.2.2.1 (by omega) (by simp at hn; omega)]
      rw [show i - k = i - (k + 1) + 1 by omega, List.drop_succ_cons]
theorem X5_numbered (hD : CD D σ) (h : OC T σ) (hR : KC R σ) {p : Nat} (hp : p < 2) {z : Int} (h1 : -2147483648 ≤ z) (h2 : z < 2147483648) : f_X5_playNumbered σ (nI p) (iI z) = some (if z < 0 then -1 else hd ((fl (lc D T (R p)) 4096 0).drop z.toNat)) := by
  have hl := fl_len (lc D T (R p)) 4096 0
  unfold f_X5_playNumbered
  simp (disch := omega) only [iI_lt0, L4096, iI_lt]
  by_cases c : z < 0
  · rw [if_pos c, if_pos c]
  · rw [if_neg c, if_neg c]
    by_cases c2 : z < 4096
    · rw [if_pos c2, X5_n0 hD h hR hp, bno_s]
      have := X5_numbered_loop hD h hR hp (i := z.toNat) (by omega) (fl (lc D T (R p)) 4096 0) 0 FU (isS_0 _) (by omega) (FU_big (by omega))
      rw [Nat.sub_zero, iI_nI z.toNat, Int.toNat_of_nonneg (by omega)] at this
      exact this
    · rw [if_neg c2, List.drop_eq_nil_of_le (by omega)]
      rfl
/-- the best of a list -/
def bst (e : Nat → Int32) : List Nat → Nat → Int32 → Int32 → Int32
  | [], _, best, _ => best
  | x :: L, k, best, g => if best = -1 then bst e L (k + 1) (nI k) (e x) else if e x ≤ g then bst e L (k + 1) best g else bst e L (k + 1) (nI k) (e x)
theorem X5_best_loop (hD : CD D σ) (h : OC T σ) (hR : KC R σ) {p : Nat} (hp : p < 2) {e : Nat → Int32} (he : ∀ x, lc D T (R p) x = true → x < 4096 → f_X5_equityOf σ (nI p) (nI x) = some (e x)) : ∀ (L : List Nat) (k n : Nat) (best g : Int32), isS (lc D T (R p)) L → k + L.length ≤ 4096 → L.length < n →
    f_X5_indexOfBest_15 σ n (nI p) best g (hd L) (nI k) = some (bst e L k best g)
  | [], k, n, best, g, _, _, hn => by
    obtain ⟨n, rfl⟩ : ∃ j, n = j + 1 := ⟨n - 1, by omega⟩
    rw [f_X5_indexOfBest_15]
    by_cases c : (4096 : Int32) ≤ nI k
    · rw [if_pos c]; rfl
    · rw [if_neg c, if_pos (show hd [] = -1 from rfl)]; rfl
  | x :: L, k, n, best, g, hL, hk, hn => by
    obtain ⟨n, rfl⟩ : ∃ j, n = j + 1 := ⟨n - 1, by omega⟩
    have hk2 : k + (L.length + 1) ≤ 4096 := hk
    have h1 := isS_cons hL
    have c : ¬ (4096 : Int32) ≤ nI k := nI_ge (b := 4096) (by omega) (by omega)
    have go : ∀ best g, f_X5_indexOfBest_55 (f_X5_indexOfBest_15 σ n) σ (nI p) best g (nI x) (nI k) = some (bst e L (k + 1) best g) := by
      intro best g
      unfold f_X5_indexOfBest_55
      rw [X5_nx hD h hR hp hL, bno_s, nI_1]
      exact X5_best_loop hD h hR hp he L (k + 1) n best g h1.2.2.1 (by omega) (by simp at hn; omega)
    rw [f_X5_indexOfBest_15, if_neg c, if_neg (show ¬ hd (x :: L) = -1 from nI_nm1 (by omega))]
    show bno (f_X5_equityOf σ (nI p) (nI x)) (fun r1 => if best = -1 then f_X5_indexOfBest_49 (f_X5_indexOfBest_15 σ n) σ (nI p) (nI x) (nI k) r1 else if r1 ≤ g then f_X5_indexOfBest_55 (f_X5_indexOfBest_15 σ n) σ (nI p) best g (nI x) (nI k) else f_X5_indexOfBest_49 (f_X5_indexOfBest_15 σ n) σ (nI p) (nI x) (nI k) r1) = _
    rw [he x h1.2.1 h1.1, bno_s, bst]
    unfold f_X5_indexOfBest_49
    rw [go, go]
    split
    · rfl
    · split
      · rfl
      · rfl
theorem X5_indexOfBest (hD : CD D σ) (h : OC T σ) (hR : KC R σ) {p : Nat} (hp : p < 2) {e : Nat → Int32} (he : ∀ x, lc D T (R p) x = true → x < 4096 → f_X5_equityOf σ (nI p) (nI x) = some (e x)) : f_X5_indexOfBest σ (nI p) = some (bst e (fl (lc D T (R p)) 4096 0) 0 (-1) 0) := by
  unfold f_X5_indexOfBest
  have hl := fl_len (lc D T (R p)) 4096 0
  rw [X5_n0 hD h hR hp, bno_s]
  exact X5_best_loop hD h hR hp he (fl (lc D T (R p)) 4096 0) 0 FU (-1) 0 (isS_0 _) (by omega) (FU_big (by omega))
end plays
/-- the answer is none, or the index of a play of the list -/
theorem bst_in (e : Nat → Int32) : ∀ (L : List Nat) (k : Nat) (best g : Int32), bst e L k best g = best ∨ ∃ i, i < L.length ∧ bst e L k best g = nI (k + i)
  | [], _, _, _ => Or.inl rfl
  | x :: L, k, best, g => by
    unfold bst
    have h1 : ∀ g', bst e L (k + 1) (nI k) g' = nI k ∨ ∃ i, i < L.length ∧ bst e L (k + 1) (nI k) g' = nI (k + 1 + i) := fun g' => bst_in e L (k + 1) (nI k) g'
    have h2 : ∀ g', ∃ i, i < (x :: L).length ∧ bst e L (k + 1) (nI k) g' = nI (k + i) := by
      intro g'
      rcases h1 g' with h | ⟨i, hi, h⟩
      · exact ⟨0, by simp, h⟩
      · exact ⟨i + 1, by simp; omega, by rw [h]; congr 1; omega⟩
    split
    · exact Or.inr (h2 _)
    · split
      · rcases bst_in e L (k + 1) best g with h | ⟨i, hi, h⟩
        · exact Or.inl h
        · exact Or.inr ⟨i + 1, by simp; omega, by rw [h]; congr 1; omega⟩
      · exact Or.inr (h2 _)
