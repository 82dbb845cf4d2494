/-! ===== the number of bits of a long ===== -/
def fs (k : Nat) : List Nat → Nat
  | [] => 0
  | x :: t => x + 2 ^ k * fs k t
def evs : List Nat → List Nat
  | x :: _ :: t => x :: evs t
  | _ => []
def ods : List Nat → List Nat
  | _ :: y :: t => y :: ods t
  | _ => []
def sms : List Nat → List Nat
  | x :: y :: t => (x + y) :: sms t
  | _ => []
theorem and_split {m a b c d : Nat} (hb : b < 2 ^ m) (hd : d < 2 ^ m) : (b + 2 ^ m * a) &&& (d + 2 ^ m * c) = (b &&& d) + 2 ^ m * (a &&& c) := by
  have h3 : b &&& d < 2 ^ m := Nat.and_lt_two_pow b hd
  apply Nat.eq_of_testBit_eq
  intro i
  rw [Nat.testBit_and, Nat.add_comm b, Nat.add_comm d, Nat.add_comm (b &&& d), Nat.testBit_two_pow_mul_add _ hb, Nat.testBit_two_pow_mul_add _ hd, Nat.testBit_two_pow_mul_add _ h3]
  by_cases c1 : i < m
  · rw [if_pos c1, if_pos c1, if_pos c1, Nat.testBit_and]
  · rw [if_neg c1, if_neg c1, if_neg c1, Nat.testBit_and]
theorem fs_ev {k : Nat} : ∀ (n : Nat) (l : List Nat), l.length = 2 * n → (∀ x ∈ l, x < 2 ^ k) → fs k l &&& fs (2 * k) (List.replicate n (2 ^ k - 1)) = fs (2 * k) (evs l)
  | 0, [], _, _ => by simp [fs, evs]
  | 0, _ :: _, h, _ => by simp at h
  | n + 1, [], h, _ => by simp at h
  | n + 1, [_], h, _ => by simp at h; omega
  | n + 1, x :: y :: t, h, hx => by
    have ih := fs_ev (k := k) n t (by simp at h; omega) (fun z hz => hx z (by simp [hz]))
    have h1 := hx x (by simp)
    have h2 := hx y (by simp)
    have hp := Nat.two_pow_pos k
    have e2 : 2 ^ (2 * k) = 2 ^ k * 2 ^ k := by rw [Nat.two_mul, Nat.pow_add]
    have b1 : x + 2 ^ k * y < 2 ^ (2 * k) := by
      rw [e2]
      have : 2 ^ k * y + 2 ^ k ≤ 2 ^ k * 2 ^ k := by rw [← Nat.mul_succ]; exact Nat.mul_le_mul_left _ h2
      omega
    have b2 : 2 ^ k - 1 < 2 ^ (2 * k) := by
      rw [e2]
      have : 2 ^ k * 1 ≤ 2 ^ k * 2 ^ k := Nat.mul_le_mul_left _ hp
      omega
    have e3 : fs k (x :: y :: t) = (x + 2 ^ k * y) + 2 ^ (2 * k) * fs k t := by
      show x + 2 ^ k * (y + 2 ^ k * fs k t) = _
      rw [e2, Nat.mul_add, Nat.mul_assoc, Nat.add_assoc]
    rw [e3, List.replicate_succ]
    show _ &&& ((2 ^ k - 1) + 2 ^ (2 * k) * fs (2 * k) (List.replicate n (2 ^ k - 1))) = x + 2 ^ (2 * k) * fs (2 * k) (evs t)
    rw [and_split b1 b2, ih, Nat.and_two_pow_sub_one_eq_mod, Nat.add_mul_mod_self_left, Nat.mod_eq_of_lt h1]
theorem fs_app0 (k : Nat) : ∀ l, fs k (l ++ [0]) = fs k l
  | [] => by simp [fs]
  | x :: t => by
    show x + 2 ^ k * fs k (t ++ [0]) = x + 2 ^ k * fs k t
    rw [fs_app0 k t]
theorem ev_od : ∀ (n : Nat) (l : List Nat), l.length = 2 * n → evs (l.tail ++ [0]) = ods l
  | 0, [], _ => rfl
  | 0, _ :: _, h => by simp at h
  | n + 1, [], h => by simp at h
  | n + 1, [_], h => by simp at h; omega
  | n + 1, [x, y], _ => rfl
  | n + 1, [x, y, z], h => by simp at h; omega
  | n + 1, x :: y :: z :: w :: t, h => by
    have ih := ev_od n (z :: w :: t) (by simp at h ⊢; omega)
    show y :: evs ((z :: w :: t).tail ++ [0]) = y :: ods (z :: w :: t)
    rw [ih]
theorem fs_tail {k : Nat} {l : List Nat} (h : ∀ x ∈ l, x < 2 ^ k) : fs k l / 2 ^ k = fs k l.tail := by
  cases l with
  | nil => simp [fs]
  | cons x t =>
    show (x + 2 ^ k * fs k t) / 2 ^ k = fs k t
    rw [Nat.add_mul_div_left _ _ (Nat.two_pow_pos k), Nat.div_eq_of_lt (h x (by simp)), Nat.zero_add]
theorem fs_od {k n : Nat} {l : List Nat} (hl : l.length = 2 * n) (h : ∀ x ∈ l, x < 2 ^ k) : (fs k l / 2 ^ k) &&& fs (2 * k) (List.replicate n (2 ^ k - 1)) = fs (2 * k) (ods l) := by
  rw [fs_tail h, ← fs_app0, ← ev_od n l hl]
  cases l with
  | nil =>
    have : n = 0 := by simp at hl; omega
    subst this
    simp [fs, evs]
  | cons x t =>
    refine fs_ev n _ (by simp at hl ⊢; omega) ?_
    intro z hz
    rcases List.mem_append.mp hz with hz | hz
    · exact h z (List.mem_cons_of_mem _ hz)
    · rw [List.mem_singleton.mp hz]
      exact Nat.two_pow_pos k
theorem fs_eo {k : Nat} : ∀ (n : Nat) (l : List Nat), l.length = 2 * n → fs k l = fs (2 * k) (evs l) + 2 ^ k * fs (2 * k) (ods l) ∧ fs (2 * k) (sms l) = fs (2 * k) (evs l) + fs (2 * k) (ods l) ∧ (sms l).sum = l.sum ∧ (sms l).length = n
  | 0, [], _ => by simp [fs, evs, ods, sms]
  | 0, _ :: _, h => by simp at h
  | n + 1, [], h => by simp at h
  | n + 1, [_], h => by simp at h; omega
  | n + 1, x :: y :: t, h => by
    obtain ⟨i1, i2, i3, i4⟩ := fs_eo (k := k) n t (by simp at h; omega)
    have e2 : 2 ^ (2 * k) = 2 ^ k * 2 ^ k := by rw [Nat.two_mul, Nat.pow_add]
    refine ⟨?_, ?_, ?_, ?_⟩
    · show x + 2 ^ k * (y + 2 ^ k * fs k t) = (x + 2 ^ (2 * k) * fs (2 * k) (evs t)) + 2 ^ k * (y + 2 ^ (2 * k) * fs (2 * k) (ods t))
      rw [i1, e2]
      simp only [Nat.mul_add, Nat.mul_assoc]
      omega
    · show (x + y) + 2 ^ (2 * k) * fs (2 * k) (sms t) = (x + 2 ^ (2 * k) * fs (2 * k) (evs t)) + (y + 2 ^ (2 * k) * fs (2 * k) (ods t))
      rw [i2, Nat.mul_add]
      omega
    · show ((x + y) :: sms t).sum = (x :: y :: t).sum
      simp only [List.sum_cons]
      omega
    · show (sms t).length + 1 = n + 1
      rw [i4]
theorem sms_le {B : Nat} : ∀ (l : List Nat), (∀ x ∈ l, x ≤ B) → ∀ x ∈ sms l, x ≤ 2 * B
  | [], _, x, hx => by cases hx
  | [_], _, x, hx => by cases hx
  | a :: b :: t, h, x, hx => by
    have h1 := h a (by simp)
    have h2 := h b (by simp)
    rcases List.mem_cons.mp (show x ∈ (a + b) :: sms t from hx) with rfl | hx
    · omega
    · exact sms_le t (fun z hz => h z (by simp [hz])) x hx
/-- neighbours' sums -/
def adj : List Nat → List Nat
  | [] => []
  | x :: t => (x + t.headD 0) :: adj t
theorem fs_adj (k : Nat) : ∀ l, fs k (adj l) = fs k l + fs k l.tail
  | [] => rfl
  | x :: t => by
    show (x + t.headD 0) + 2 ^ k * fs k (adj t) = (x + 2 ^ k * fs k t) + fs k t
    rw [fs_adj k t, Nat.mul_add]
    cases t with
    | nil => simp [fs]
    | cons y t =>
      show x + y + (2 ^ k * fs k (y :: t) + 2 ^ k * fs k t) = x + 2 ^ k * fs k (y :: t) + (y + 2 ^ k * fs k t)
      omega
theorem ev_adj : ∀ (n : Nat) (l : List Nat), l.length = 2 * n → evs (adj l) = sms l
  | 0, [], _ => rfl
  | 0, _ :: _, h => by simp at h
  | n + 1, [], h => by simp at h
  | n + 1, [_], h => by simp at h; omega
  | n + 1, x :: y :: t, h => by
    show (x + y) :: evs (adj t) = (x + y) :: sms t
    rw [ev_adj n t (by simp at h; omega)]
theorem adj_le {B : Nat} : ∀ (l : List Nat), (∀ x ∈ l, x ≤ B) → (∀ x ∈ adj l, x ≤ 2 * B) ∧ (adj l).length = l.length
  | [], _ => ⟨(by intro x hx; cases hx), rfl⟩
  | a :: t, h => by
    have h1 := h a (by simp)
    obtain ⟨i1, i2⟩ := adj_le t (fun z hz => h z (by simp [hz]))
    refine ⟨?_, by show (adj t).length + 1 = t.length + 1; rw [i2]⟩
    intro x hx
    rcases List.mem_cons.mp (show x ∈ (a + t.headD 0) :: adj t from hx) with rfl | hx
    · cases t with
      | nil => show a + 0 ≤ _; omega
      | cons y t =>
        have h2 := h y (by simp)
        show a + y ≤ _
        omega
    · exact i1 x hx
def bitsL : Nat → Nat → List Nat
  | 0, _ => []
  | m + 1, n => n % 2 :: bitsL m (n / 2)
theorem bitsL_fs : ∀ (m n : Nat), n < 2 ^ m → fs 1 (bitsL m n) = n ∧ (bitsL m n).length = m ∧ ∀ x ∈ bitsL m n, x ≤ 1
  | 0, n, h => by
    have : n = 0 := by simpa using h
    subst this
    exact ⟨rfl, rfl, by intro x hx; cases hx⟩
  | m + 1, n, h => by
    rw [Nat.pow_succ] at h
    obtain ⟨i1, i2, i3⟩ := bitsL_fs m (n / 2) (by omega)
    refine ⟨?_, by show (bitsL m (n / 2)).length + 1 = m + 1; rw [i2], ?_⟩
    · show n % 2 + 2 ^ 1 * fs 1 (bitsL m (n / 2)) = n
      rw [i1]
      omega
    · intro x hx
      rcases List.mem_cons.mp (show x ∈ n % 2 :: bitsL m (n / 2) from hx) with rfl | hx
      · omega
      · exact i3 x hx
/-- how many of m places from k on -/
def cntR (f : Nat → Bool) : Nat → Nat → Nat
  | 0, _ => 0
  | m + 1, k => (if f k then 1 else 0) + cntR f m (k + 1)
theorem cntR_cong {f g : Nat → Bool} : ∀ m k, (∀ i, k ≤ i → i < k + m → f i = g i) → cntR f m k = cntR g m k
  | 0, _, _ => rfl
  | m + 1, k, h => by rw [cntR, cntR, h k (by omega) (by omega), cntR_cong m (k + 1) (fun i h1 h2 => h i (by omega) (by omega))]
theorem cntR_add (f : Nat → Bool) : ∀ a b k, cntR f (a + b) k = cntR f a k + cntR f b (k + a)
  | 0, b, k => by rw [Nat.zero_add, cntR, Nat.zero_add, Nat.add_zero]
  | a + 1, b, k => by
    rw [show a + 1 + b = (a + b) + 1 by omega, cntR, cntR, cntR_add f a b (k + 1), show k + 1 + a = k + (a + 1) by omega, Nat.add_assoc]
theorem bits_cnt (N : Nat) : ∀ m k, (bitsL m (N / 2 ^ k)).sum = cntR (fun i => N.testBit i) m k
  | 0, _ => rfl
  | m + 1, k => by
    have ih := bits_cnt N m (k + 1)
    show (N / 2 ^ k % 2 :: bitsL m (N / 2 ^ k / 2)).sum = (if N.testBit k then 1 else 0) + cntR _ m (k + 1)
    rw [List.sum_cons, Nat.div_div_eq_div_mul, ← Nat.pow_succ, ih]
    congr 1
    rw [Nat.testBit_eq_decide_div_mod_eq]
    by_cases c : N / 2 ^ k % 2 = 1
    · rw [c]; rfl
    · have : N / 2 ^ k % 2 = 0 := by omega
      rw [this]; rfl
theorem lush_lN {n k : Nat} (hn : n < 2 ^ 64) (hk : k < 64) : lush (lN n) (nI k) = lN (n / 2 ^ k) := wb_shr hn hk
theorem lN_and {a b : Nat} (ha : a < 2 ^ 64) (hb : b < 2 ^ 64) : lN a &&& lN b = lN (a &&& b) := wb_and ha hb
theorem mask1 : fs (2 * 1) (List.replicate 32 (2 ^ 1 - 1)) = 6148914691236517205 := by decide +kernel
theorem mask2 : fs (2 * 2) (List.replicate 16 (2 ^ 2 - 1)) = 3689348814741910323 := by decide +kernel
theorem mask4 : fs (2 * 4) (List.replicate 8 (2 ^ 4 - 1)) = 1085102592571150095 := by decide +kernel
theorem fs_lt {k B : Nat} (hB : B < 2 ^ k) : ∀ (l : List Nat), (∀ x ∈ l, x ≤ B) → fs k l < 2 ^ (k * l.length)
  | [], _ => by simp [fs]
  | x :: t, h => by
    have ih := fs_lt hB t (fun z hz => h z (by simp [hz]))
    have h1 := h x (by simp)
    show x + 2 ^ k * fs k t < 2 ^ (k * (t.length + 1))
    rw [Nat.mul_add, Nat.mul_one, Nat.pow_add, Nat.mul_comm (2 ^ (k * t.length))]
    have : 2 ^ k * fs k t + 2 ^ k ≤ 2 ^ k * 2 ^ (k * t.length) := by rw [← Nat.mul_succ]; exact Nat.mul_le_mul_left _ ih
    omega
def za : List Nat → List Nat → List Nat
  | [], m => m
  | l, [] => l
  | x :: l, y :: m => (x + y) :: za l m
theorem fs_za (k : Nat) : ∀ l m, fs k (za l m) = fs k l + fs k m
  | [], m => by
    show fs k m = 0 + fs k m
    rw [Nat.zero_add]
  | x :: l, [] => rfl
  | x :: l, y :: m => by
    show (x + y) + 2 ^ k * fs k (za l m) = (x + 2 ^ k * fs k l) + (y + 2 ^ k * fs k m)
    rw [fs_za k l m, Nat.mul_add]
    omega
theorem fs_drop {k : Nat} : ∀ (j : Nat) (l : List Nat), (∀ x ∈ l, x < 2 ^ k) → fs k l / 2 ^ (k * j) = fs k (l.drop j)
  | 0, l, _ => by rw [Nat.mul_zero, Nat.pow_zero, Nat.div_one, List.drop_zero]
  | j + 1, [], _ => by
    show 0 / _ = 0
    rw [Nat.zero_div]
  | j + 1, x :: t, h => by
    rw [Nat.mul_add, Nat.mul_one, Nat.add_comm, Nat.pow_add, ← Nat.div_div_eq_div_mul, fs_tail h, List.drop_succ_cons]
    exact fs_drop j t (fun z hz => h z (List.mem_cons_of_mem _ hz))
theorem fs_mod {x : Nat} {t : List Nat} (h : x < 128) : fs 8 (x :: t) % 128 = x := by
  have e : fs 8 (x :: t) = x + 256 * fs 8 t := rfl
  rw [e]
  omega
/-- the three last steps, on the eight fields -/
theorem fold8 {h0 h1 h2 h3 h4 h5 h6 h7 : Nat} (c0 : h0 ≤ 8) (c1 : h1 ≤ 8) (c2 : h2 ≤ 8) (c3 : h3 ≤ 8) (c4 : h4 ≤ 8) (c5 : h5 ≤ 8) (c6 : h6 ≤ 8) (c7 : h7 ≤ 8) : ∃ A B C : Nat, A = fs 8 [h0, h1, h2, h3, h4, h5, h6, h7] ∧ A < 2 ^ 64 ∧ A + A / 2 ^ 8 = B ∧ B < 2 ^ 64 ∧ B + B / 2 ^ 16 = C ∧ C < 2 ^ 64 ∧ (C + C / 2 ^ 32) % 128 = h0 + h1 + h2 + h3 + h4 + h5 + h6 + h7 := by
  have bA : ∀ x ∈ [h0, h1, h2, h3, h4, h5, h6, h7], x ≤ 8 := by
    intro x hx
    simp only [List.mem_cons, List.not_mem_nil, or_false] at hx
    omega
  have bB : ∀ x ∈ [h0 + h1, h1 + h2, h2 + h3, h3 + h4, h4 + h5, h5 + h6, h6 + h7, h7], x ≤ 16 := by
    intro x hx
    simp only [List.mem_cons, List.not_mem_nil, or_false] at hx
    omega
  have bC : ∀ x ∈ [h0 + h1 + (h2 + h3), h1 + h2 + (h3 + h4), h2 + h3 + (h4 + h5), h3 + h4 + (h5 + h6), h4 + h5 + (h6 + h7), h5 + h6 + h7, h6 + h7, h7], x ≤ 32 := by
    intro x hx
    simp only [List.mem_cons, List.not_mem_nil, or_false] at hx
    omega
  refine ⟨fs 8 [h0, h1, h2, h3, h4, h5, h6, h7], fs 8 [h0 + h1, h1 + h2, h2 + h3, h3 + h4, h4 + h5, h5 + h6, h6 + h7, h7], fs 8 [h0 + h1 + (h2 + h3), h1 + h2 + (h3 + h4), h2 + h3 + (h4 + h5), h3 + h4 + (h5 + h6), h4 + h5 + (h6 + h7), h5 + h6 + h7, h6 + h7, h7], rfl, fs_lt (k := 8) (B := 8) (by decide) _ bA, ?_, fs_lt (k := 8) (B := 16) (by decide) _ bB, ?_, fs_lt (k := 8) (B := 32) (by decide) _ bC, ?_⟩
  · have e := fs_drop (k := 8) 1 _ (fun x hx => Nat.lt_of_le_of_lt (bA x hx) (by decide))
    rw [show 8 * 1 = 8 from rfl] at e
    rw [e, ← fs_za]
    rfl
  · have e := fs_drop (k := 8) 2 _ (fun x hx => Nat.lt_of_le_of_lt (bB x hx) (by decide))
    rw [show 8 * 2 = 16 from rfl] at e
    rw [e, ← fs_za]
    rfl
  · have e := fs_drop (k := 8) 4 _ (fun x hx => Nat.lt_of_le_of_lt (bC x hx) (by decide))
    rw [show 8 * 4 = 32 from rfl] at e
    rw [e, ← fs_za]
    refine (fs_mod (x := h0 + h1 + (h2 + h3) + (h4 + h5 + (h6 + h7))) (by omega)).trans (by omega)
theorem toInt32_lN (n : Nat) : (lN n).toInt32 = nI n := Int64.toInt32_ofNat'
theorem J13_bitCount (x : Int64) : f_J13_bitCount_95d88 x = some (nI (cntR (lb x) 64 0)) := by
  obtain ⟨N, hN, rfl⟩ : ∃ N, N < 2 ^ 64 ∧ x = lN N := ⟨x.toBitVec.toNat, x.toBitVec.isLt, by
    apply Int64.toBitVec_inj.mp
    apply BitVec.eq_of_toNat_eq
    exact (lN_nat x.toBitVec.isLt).symm⟩
  have hlb : ∀ i, lb (lN N) i = N.testBit i := by
    intro i
    unfold lb
    rw [← BitVec.testBit_toNat, lN_nat hN]
  obtain ⟨f0, l0, b0⟩ := bitsL_fs 64 N hN
  have s0 := bits_cnt N 64 0
  rw [Nat.pow_zero, Nat.div_one] at s0
  rw [cntR_cong (g := fun i => N.testBit i) 64 0 (fun i _ _ => hlb i), ← s0]
  generalize bitsL 64 N = l at f0 l0 b0
  have o1 := fs_od (k := 1) (n := 32) (by omega) (fun x hx => Nat.lt_of_le_of_lt (b0 x hx) (by decide))
  obtain ⟨p1, p2, p3, p4⟩ := fs_eo (k := 1) 32 l (by omega)
  have b1 := sms_le l b0
  have o2 := fs_od (k := 2) (n := 16) (l := sms l) (by omega) (fun x hx => Nat.lt_of_le_of_lt (b1 x hx) (by decide))
  have e2 := fs_ev (k := 2) 16 (sms l) (by omega) (fun x hx => Nat.lt_of_le_of_lt (b1 x hx) (by decide))
  obtain ⟨q1, q2, q3, q4⟩ := fs_eo (k := 2) 16 (sms l) (by omega)
  have b2 := sms_le _ b1
  have t4 := fs_tail (k := 4) (l := sms (sms l)) (fun x hx => Nat.lt_of_le_of_lt (b2 x hx) (by decide))
  have a4 := adj_le _ b2
  have d4 := fs_adj 4 (sms (sms l))
  have e4 := fs_ev (k := 4) 8 (adj (sms (sms l))) (by omega) (fun x hx => Nat.lt_of_le_of_lt (a4.1 x hx) (by decide))
  rw [ev_adj 8 _ (by omega)] at e4
  obtain ⟨r1, r2, r3, r4⟩ := fs_eo (k := 4) 8 (sms (sms l)) (by omega)
  have b3 := sms_le _ b2
  rw [mask1] at o1
  rw [mask2] at o2 e2
  rw [mask4] at e4
  have w1 := fs_lt (k := 2) (B := 2 * 1) (by decide) (sms l) b1
  rw [p4] at w1
  have w2 := fs_lt (k := 4) (B := 2 * (2 * 1)) (by decide) (sms (sms l)) b2
  rw [q4] at w2
  have w3 := fs_lt (k := 4) (B := 2 * (2 * (2 * 1))) (by decide) (adj (sms (sms l))) a4.1
  rw [a4.2, q4] at w3
  rw [f0] at o1 p1
  simp only [show (2 : Nat) * 1 = 2 from rfl, show (2 : Nat) * 2 = 4 from rfl, show (2 : Nat) * 4 = 8 from rfl, show (4 : Nat) * 16 = 64 from rfl, show (2 : Nat) * 32 = 64 from rfl] at o1 p1 p2 o2 e2 q1 q2 e4 r1 r2 w1 w2 w3 b1 b2 b3
  have m1 : (6148914691236517205 : Int64) = lN 6148914691236517205 := rfl
  have m2 : (3689348814741910323 : Int64) = lN 3689348814741910323 := rfl
  have m4 : (1085102592571150095 : Int64) = lN 1085102592571150095 := rfl
  have n1 : (1 : Int32) = nI 1 := rfl
  have n2 : (2 : Int32) = nI 2 := rfl
  have n4 : (4 : Int32) = nI 4 := rfl
  have n8 : (8 : Int32) = nI 8 := rfl
  have n16 : (16 : Int32) = nI 16 := rfl
  have n32 : (32 : Int32) = nI 32 := rfl
  have z1 : lN N - (lush (lN N) 1 &&& 6148914691236517205) = lN (fs 2 (sms l)) := by
    rw [n1, m1, lush_lN hN (by omega), lN_and (Nat.lt_of_le_of_lt (Nat.div_le_self _ _) hN) (by omega), o1, lN_sub (by omega), show N - fs 2 (ods l) = fs 2 (sms l) by omega]
  have z2 : (lN (fs 2 (sms l)) &&& 3689348814741910323) + (lush (lN (fs 2 (sms l))) 2 &&& 3689348814741910323) = lN (fs 4 (sms (sms l))) := by
    rw [n2, m2, lush_lN w1 (by omega), lN_and w1 (by omega), lN_and (Nat.lt_of_le_of_lt (Nat.div_le_self _ _) w1) (by omega), o2, e2, lN_add, q2]
  have z3 : (lN (fs 4 (sms (sms l))) + lush (lN (fs 4 (sms (sms l)))) 4) &&& 1085102592571150095 = lN (fs 8 (sms (sms (sms l)))) := by
    rw [n4, m4, lush_lN w2 (by omega), lN_add, t4, ← d4, lN_and w3 (by omega), e4]
  unfold f_J13_bitCount_95d88
  rw [lt_e, z1, lt_e, z2, lt_e, z3, lt_e, n8, n16, n32]
  have hs : (sms (sms (sms l))).sum = l.sum := by rw [r3, q3, p3]
  rw [← hs]
  generalize sms (sms (sms l)) = v at r4 b3
  match v, r4, b3 with
  | [h0, h1, h2, h3, h4, h5, h6, h7], _, b3 =>
    have c0 := b3 h0 (by simp)
    have c1 := b3 h1 (by simp)
    have c2 := b3 h2 (by simp)
    have c3 := b3 h3 (by simp)
    have c4 := b3 h4 (by simp)
    have c5 := b3 h5 (by simp)
    have c6 := b3 h6 (by simp)
    have c7 := b3 h7 (by simp)
    have es : [h0, h1, h2, h3, h4, h5, h6, h7].sum = h0 + h1 + h2 + h3 + h4 + h5 + h6 + h7 := by simp only [List.sum_cons, List.sum_nil]; omega
    obtain ⟨A, B, C, eA, lA, eB, lB, eC, lC, eD⟩ := fold8 c0 c1 c2 c3 c4 c5 c6 c7
    rw [es, ← eA, lush_lN lA (by omega), lN_add, eB, lush_lN lB (by omega), lN_add, eC, lush_lN lC (by omega), lN_add, toInt32_lN, show (127 : Int32) = nI (2 ^ 7 - 1) from rfl, fa_mask, show (2 : Nat) ^ 7 = 128 from rfl, eD]
