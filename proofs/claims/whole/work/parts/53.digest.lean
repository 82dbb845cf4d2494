/-! ===== the digest ===== -/
def hf : Int64 → List Int32 → Int64
  | h, [] => h
  | h, v :: vs => hf (31 * h + v.toInt64) vs
theorem hf_app : ∀ (a b : List Int32) (h : Int64), hf h (a ++ b) = hf (hf h a) b
  | [], _, _ => rfl
  | v :: a, b, h => hf_app a b (31 * h + v.toInt64)
def dW (t : List Nat) : List Int32 := nI t.length :: t.map nI
def dL (V E : Nat → Int32) (k m : Nat) : List Int32 := (List.range' k m).flatMap (fun l => [V l, E l])
def dD (D : List (List Nat)) : List Int32 := D.flatMap dW
def dQ (T : Bd) (P : Nat → Nat → Int32) (k m : Nat) : List Int32 := (List.range' k m).flatMap (fun k => [enc (T (k / 7 : Nat) (k % 7 : Nat)), P (k / 7) (k % 7)])
def dR (R : Nat → Nat) (k m : Nat) : List Int32 := (List.range' k m).map (fun l => nI (R l))
def dP (D : List (List Nat)) (S : Nat → Int32) (T : Bd) (R : Nat → Nat → Nat) (p : Nat) : List Int32 := [S p, nI (fl (lc D T (R p)) 4096 0).length]
def dgv (D : List (List Nat)) (V E : Nat → Int32) (P : Nat → Nat → Int32) (S : Nat → Int32) (t : List Nat) (T : Bd) (R : Nat → Nat → Nat) (c : Int32) : Int64 :=
  hf (hf (hf (hf (hf (hf (hf (hf (hf 2803 (dW t)) (dL V E 0 8)) (nI D.length :: dD D)) (dQ T P 0 49)) (dR (R 0) 0 8)) (dP D S T R 0)) (dR (R 1) 0 8)) (dP D S T R 1)) [nI (anT T 49 0), c]
section
variable {D : List (List Nat)} {V E : Nat → Int32} {P : Nat → Nat → Int32} {S : Nat → Int32} {t : List Nat} {T : Bd} {R : Nat → Nat → Nat} {σ : St}
theorem X9_hw_loop (h8 : lt8 t) (h7 : t.length ≤ 7) : ∀ (suf pre : List Nat) (n : Nat) (h : Int64), t = pre ++ suf → suf.length < n → f_X9_hashWord_18 n (nI (pk t)) (nI t.length) h (nI pre.length) = some (hf h (suf.map nI)) := by
  intro suf
  induction suf with
  | nil =>
    intro pre n h e hn
    obtain ⟨n, rfl⟩ : ∃ j, n = j + 1 := ⟨n - 1, by simp at hn; omega⟩
    rw [List.append_nil] at e
    rw [f_X9_hashWord_18, if_pos (by rw [e]; exact nI_le (Nat.le_refl _) (by rw [e] at h7; omega))]
    rfl
  | cons x suf ih =>
    intro pre n h e hn
    have hlen : t.length = pre.length + (suf.length + 1) := by rw [e]; simp
    obtain ⟨n, rfl⟩ : ∃ j, n = j + 1 := ⟨n - 1, by simp at hn; omega⟩
    rw [f_X9_hashWord_18, if_neg (nI_ge (by omega) (by omega)), X8_letter (a := x) h8 h7 (by rw [e]; simp), bno_s, nI_1]
    have := ih (pre ++ [x]) n (31 * h + (nI x).toInt64) (by rw [e]; simp) (by simp at hn; omega)
    rw [List.length_append] at this
    exact this
theorem X9_hashWord (h8 : lt8 t) (h7 : t.length ≤ 7) (h : Int64) : f_X9_hashWord h (nI (pk t)) = some (hf h (dW t)) := by
  unfold f_X9_hashWord
  rw [X8_length h8 h7, bno_s]
  exact X9_hw_loop h8 h7 t [] FU _ rfl (FU_big (by omega))
theorem X9_hr_loop {Q : Nat → Nat} (hQ : okR Q) : ∀ (m k n : Nat) (h : Int64), k + m = 8 → m < n → f_X9_hashRack_5 n (nI (pr Q)) h (nI k) = some (hf h (dR Q k m)) := by
  intro m
  induction m with
  | zero =>
    intro k n h hk hn
    obtain ⟨n, rfl⟩ : ∃ j, n = j + 1 := ⟨n - 1, by omega⟩
    have : k = 8 := by omega
    subst this
    rfl
  | succ m ih =>
    intro k n h hk hn
    obtain ⟨n, rfl⟩ : ∃ j, n = j + 1 := ⟨n - 1, by omega⟩
    have c : ¬ (8 : Int32) ≤ nI k := nI_ge (b := 8) (by omega) (by omega)
    rw [f_X9_hashRack_5, if_neg c, X4_count hQ (by omega), bno_s, nI_1, ih (k + 1) n _ (by omega) (by omega)]
    unfold dR
    rw [List.range'_succ, List.map_cons, hf]
theorem X9_hashRack {Q : Nat → Nat} (hQ : okR Q) (h : Int64) : f_X9_hashRack h (nI (pr Q)) = some (hf h (dR Q 0 8)) := X9_hr_loop hQ 8 0 FU h (by omega) (FU_big (by omega))
theorem X9_hd_loop (hD : CD D σ) : ∀ (m k n : Nat) (h : Int64), k + m = D.length → m < n → f_X9_hashDictionary_24 σ n (nI D.length) h (nI k) = some (hf h (dD (D.drop k))) := by
  have h30 := hD.2.1
  intro m
  induction m with
  | zero =>
    intro k n h hk hn
    obtain ⟨n, rfl⟩ : ∃ j, n = j + 1 := ⟨n - 1, by omega⟩
    rw [f_X9_hashDictionary_24, if_pos (nI_le (by omega) (by omega)), List.drop_eq_nil_of_le (by omega)]
    rfl
  | succ m ih =>
    intro k n h hk hn
    obtain ⟨n, rfl⟩ : ∃ j, n = j + 1 := ⟨n - 1, by omega⟩
    have hlt : k < D.length := by omega
    have hw := (hD.2.2.1 D[k] (List.getElem_mem hlt)).1
    rw [f_X9_hashDictionary_24, if_neg (nI_ge hlt (by omega)), X1_word hD (List.getElem?_eq_getElem hlt), bno_s, X9_hashWord hw.1 hw.2, bno_s, nI_1, ih (k + 1) n _ (by omega) (by omega), List.drop_eq_getElem_cons hlt]
    unfold dD
    rw [List.flatMap_cons, hf_app]
theorem X9_hashDictionary (hD : CD D σ) (h : Int64) : f_X9_hashDictionary σ h = some (hf h (nI D.length :: dD D)) := by
  have h30 := hD.2.1
  unfold f_X9_hashDictionary
  rw [X1_size hD, bno_s]
  have := X9_hd_loop hD D.length 0 FU (31 * h + (nI D.length).toInt64) (by omega) (FU_big (by omega))
  rw [List.drop_zero] at this
  exact this
theorem X7_points (hS : ∀ p, p < 2 → ga σ 6 p = S p) {p : Nat} (hp : p < 2) : f_X7_points σ (nI p) = some (S p) := by
  unfold f_X7_points
  rw [X9_isPlayer_n hp, bno_s, if_b, if_pos rfl, ixo_nI hp (by omega), nI_clamp (by omega), hS p hp]
theorem X9_squareOf {r c : Nat} (hr : r < 7) (hc : c < 7) : f_X6_squareOf (nI r) (nI c) = some (iI (adr 0 r c)) := by
  have : ∀ r, r < 7 → ∀ c, c < 7 → f_X6_squareOf (nI r) (nI c) = some (iI (adr 0 r c)) := by decide +kernel
  exact this r hr c hc
variable {X : S2}
theorem X9_dl_loop (hV : VC V X.1) (hE : EC E X.1) : ∀ (m k n : Nat) (h : Int64), k + m = 8 → m < n → f_X9_digest_13 n X h (nI k) = bno (f_X9_hashDictionary X.1 (hf h (dL V E k m))) fun r1 => f_X9_digest_65 FU X r1 0 := by
  intro m
  induction m with
  | zero =>
    intro k n h hk hn
    obtain ⟨n, rfl⟩ : ∃ j, n = j + 1 := ⟨n - 1, by omega⟩
    have : k = 8 := by omega
    subst this
    rw [f_X9_digest_13, if_pos (by decide)]
    rfl
  | succ m ih =>
    intro k n h hk hn
    obtain ⟨n, rfl⟩ : ∃ j, n = j + 1 := ⟨n - 1, by omega⟩
    have c : ¬ (8 : Int32) ≤ nI k := nI_ge (b := 8) (by omega) (by omega)
    rw [f_X9_digest_13, if_neg c, X7_value hV (by omega), bno_s, X7_leave hE (by omega), bno_s, nI_1, ih (k + 1) n _ (by omega) (by omega)]
    unfold dL
    rw [List.range'_succ, List.flatMap_cons, hf_app]
    rfl
theorem X9_dc_loop (hO : OC T X.1) (hP : PC P X.1) (bk : S2 → Int64 → Int32 → Option (Int64 × S2)) {r : Nat} (hr : r < 7) : ∀ (m c n : Nat) (h : Int64), c + m = 7 → m < n → f_X9_digest_74 bk n X h (nI r) (nI c) = bk X (hf h (dQ T P (7 * r + c) m)) (nI (r + 1)) := by
  intro m
  induction m with
  | zero =>
    intro c n h hk hn
    obtain ⟨n, rfl⟩ : ∃ j, n = j + 1 := ⟨n - 1, by omega⟩
    have : c = 7 := by omega
    subst this
    rw [f_X9_digest_74, if_pos (by decide), nI_1]
    rfl
  | succ m ih =>
    intro c n h hk hn
    obtain ⟨n, rfl⟩ : ∃ j, n = j + 1 := ⟨n - 1, by omega⟩
    have k : ¬ (7 : Int32) ≤ nI c := nI_ge (b := 7) (by omega) (by omega)
    rw [f_X9_digest_74, if_neg k, X9_squareOf hr (by omega), bno_s, sq_letter hO hr (by omega), bno_s, sq_prem hP hr (by omega), bno_s, nI_1, ih (c + 1) n _ (by omega) (by omega)]
    unfold dQ
    rw [List.range'_succ, List.flatMap_cons, hf_app, show (7 * r + c) / 7 = r by omega, show (7 * r + c) % 7 = c by omega]
    rfl
theorem dQ_add (T : Bd) (P : Nat → Nat → Int32) (k a b : Nat) : dQ T P k (a + b) = dQ T P k a ++ dQ T P (k + a) b := by
  unfold dQ
  rw [← List.flatMap_append]
  congr 1
  have := List.range'_append (s := k) (m := a) (n := b) (step := 1)
  rw [Nat.one_mul] at this
  exact this.symm
theorem X9_dq_loop (hO : OC T X.1) (hP : PC P X.1) : ∀ (m r n : Nat) (h : Int64), r + m = 7 → m < n → f_X9_digest_65 n X h (nI r) = f_X9_digest_143 FU X (hf h (dQ T P (7 * r) (7 * m))) 0 := by
  intro m
  induction m with
  | zero =>
    intro r n h hk hn
    obtain ⟨n, rfl⟩ : ∃ j, n = j + 1 := ⟨n - 1, by omega⟩
    have : r = 7 := by omega
    subst this
    rw [f_X9_digest_65, if_pos (by decide)]
    rfl
  | succ m ih =>
    intro r n h hk hn
    obtain ⟨n, rfl⟩ : ∃ j, n = j + 1 := ⟨n - 1, by omega⟩
    have k : ¬ (7 : Int32) ≤ nI r := nI_ge (b := 7) (by omega) (by omega)
    have e := X9_dc_loop hO hP (f_X9_digest_65 n) (show r < 7 by omega) 7 0 FU h (by omega) (FU_big (by omega))
    have e' : f_X9_digest_74 (f_X9_digest_65 n) FU X h (nI r) 0 = f_X9_digest_65 n X (hf h (dQ T P (7 * r + 0) 7)) (nI (r + 1)) := e
    rw [f_X9_digest_65, if_neg k, e', ih (r + 1) n _ (by omega) (by omega), ← hf_app, Nat.add_zero, show 7 * (r + 1) = 7 * r + 7 by omega, ← dQ_add, show 7 + 7 * m = 7 * (m + 1) by omega]
theorem X9_digest (h : CB D V E P S t T R X.1) (ht : okW t) : f_X9_digest X = some (dgv D V E P S t T R X.2.2.1, X) := by
  obtain ⟨hD, hV, hE, hP, hS, hx, hO, hR⟩ := h
  have e1 : ∀ h0, f_X9_digest_13 FU X h0 0 = _ := fun h0 => X9_dl_loop hV hE 8 0 FU h0 (by omega) (FU_big (by omega))
  have e2 : ∀ h0, f_X9_digest_65 FU X h0 0 = f_X9_digest_143 FU X (hf h0 (dQ T P 0 49)) 0 := fun h0 => X9_dq_loop hO hP 7 0 FU h0 (by omega) (FU_big (by omega))
  obtain ⟨n, hn⟩ : ∃ n, FU = n + 3 := ⟨FU - 3, by unfold FU; omega⟩
  have k0 : f_X7_rack X.1 0 = some (nI (pr (R 0))) := X7_rack hR (p := 0) (by omega)
  have k1 : f_X7_rack X.1 1 = some (nI (pr (R 1))) := X7_rack hR (p := 1) (by omega)
  have p0 : f_X7_points X.1 0 = some (S 0) := X7_points hS (p := 0) (by omega)
  have p1 : f_X7_points X.1 1 = some (S 1) := X7_points hS (p := 1) (by omega)
  have c0 : f_X5_countPlays X.1 0 = some (nI (fl (lc D T (R 0)) 4096 0).length) := X5_countPlays hD hO hR (p := 0) (by omega)
  have c1 : f_X5_countPlays X.1 1 = some (nI (fl (lc D T (R 1)) 4096 0).length) := X5_countPlays hD hO hR (p := 1) (by omega)
  have z1 : (0 : Int32) + 1 = 1 := rfl
  have z2 : (1 : Int32) + 1 = 2 := rfl
  have n0 : ¬ (2 : Int32) ≤ 0 := by decide
  have n1 : ¬ (2 : Int32) ≤ 1 := by decide
  have n2 : (2 : Int32) ≤ 2 := by decide
  unfold f_X9_digest
  rw [hx, X9_hashWord ht.1 ht.2, bno_s, e1, X9_hashDictionary hD, bno_s, e2, hn]
  rw [f_X9_digest_143, if_neg n0, k0, bno_s, X9_hashRack (hR 0 (by omega)).1, bno_s, p0, bno_s, c0, bno_s, z1]
  rw [f_X9_digest_143, if_neg n1, k1, bno_s, X9_hashRack (hR 1 (by omega)).1, bno_s, p1, bno_s, c1, bno_s, z2]
  rw [f_X9_digest_143, if_pos n2, X9_anchors hO, bno_s]
  rfl
/-- the reference's -/
theorem X10_dt_loop {m : St} (h5 : TX t m) : ∀ (suf pre : List Nat) (n : Nat) (h : Int64), t = pre ++ suf → suf.length < n → f_X10_digest_17 n m h (nI pre.length) = f_X10_digest_47 FU m (hf h (suf.map nI)) 0 := by
  have h7 := h5.2.1.2
  intro suf
  induction suf with
  | nil =>
    intro pre n h e hn
    obtain ⟨n, rfl⟩ : ∃ j, n = j + 1 := ⟨n - 1, by simp at hn; omega⟩
    rw [List.append_nil] at e
    rw [f_X10_digest_17, h5.1, if_pos (by rw [e]; exact nI_le (Nat.le_refl _) (by rw [e] at h7; omega))]
    rfl
  | cons x suf ih =>
    intro pre n h e hn
    have hlen : t.length = pre.length + (suf.length + 1) := by rw [e]; simp
    obtain ⟨n, rfl⟩ : ∃ j, n = j + 1 := ⟨n - 1, by simp at hn; omega⟩
    rw [f_X10_digest_17, h5.1, if_neg (nI_ge (by omega) (by omega)), ixo_nI (by omega) (by omega), lt_e, nI_clamp (by omega), h5.2.2 _ x (by rw [e]; simp), nI_1]
    have := ih (pre ++ [x]) n (31 * h + (nI x).toInt64) (by rw [e]; simp) (by simp at hn; omega)
    rw [List.length_append] at this
    exact this
theorem X10_dl_loop {m : St} (hV : AV V (ga m 0)) (hE : AE E (ga m 0)) (hD : AD D (ga m 0)) : ∀ (w k n : Nat) (h : Int64), k + w = 8 → w < n → f_X10_digest_47 n m h (nI k) = f_X10_digest_107 FU m (31 * hf h (dL V E k w) + (nI D.length).toInt64) 0 := by
  intro w
  induction w with
  | zero =>
    intro k n h hk hn
    obtain ⟨n, rfl⟩ : ∃ j, n = j + 1 := ⟨n - 1, by omega⟩
    have : k = 8 := by omega
    subst this
    rw [f_X10_digest_47, if_pos (by decide), show (16 : Int32) = nI 16 from rfl, ixo_nI (by omega) (by omega), lt_e, nI_clamp (by omega), hD.1]
    rfl
  | succ w ih =>
    intro k n h hk hn
    obtain ⟨n, rfl⟩ : ∃ j, n = j + 1 := ⟨n - 1, by omega⟩
    have c : ¬ (8 : Int32) ≤ nI k := nI_ge (b := 8) (by omega) (by omega)
    have ea : (8 : Int32) + nI k = nI (8 + k) := nI_add 8 k
    rw [f_X10_digest_47, if_neg c, Int32.zero_add, ea, ixo_nI (by omega) (by omega), ixo_nI (by omega) (by omega), lt_e, nI_clamp (by omega), nI_clamp (by omega), hV k (by omega), hE k (by omega), nI_1, ih (k + 1) n _ (by omega) (by omega)]
    unfold dL
    rw [List.range'_succ, List.flatMap_cons, hf_app]
    rfl
theorem X10_dw_loop {m : St} (hD : AD D (ga m 0)) (bk : St → Int64 → Int32 → Option (Int64 × St)) {w : Nat} {u : List Nat} (hw : D[w]? = some u) : ∀ (suf pre : List Nat) (n : Nat) (h : Int64), u = pre ++ suf → suf.length < n → f_X10_digest_121 bk n m h (nI w) (nI (pre.length + 1)) = bk m (hf h (suf.map nI)) (nI (w + 1)) := by
  have hlt := (List.getElem?_eq_some_iff.mp hw).1
  have h30 := hD.2.1
  have h7 := (hD.2.2.1 u (List.mem_of_getElem? hw)).1.2
  have hv := hD.2.2.2 w u hw
  have ea : (17 : Int32) + 8 * nI w = nI (17 + 8 * w) := by
    simp only [L17, L8, iI_nI, iI_mul, iI_add]
    congr 1 <;> omega
  intro suf
  induction suf with
  | nil =>
    intro pre n h e hn
    obtain ⟨n, rfl⟩ : ∃ j, n = j + 1 := ⟨n - 1, by simp at hn; omega⟩
    rw [List.append_nil] at e
    rw [f_X10_digest_121, ea, ixo_nI (by omega) (by omega), nI_clamp (by omega), hv.1, if_pos (nI_lt (by rw [e]; omega) (by rw [e] at h7; omega)), nI_1]
    rfl
  | cons x suf ih =>
    intro pre n h e hn
    have hlen : u.length = pre.length + (suf.length + 1) := by rw [e]; simp
    obtain ⟨n, rfl⟩ : ∃ j, n = j + 1 := ⟨n - 1, by simp at hn; omega⟩
    have eb : nI (17 + 8 * w) + nI (pre.length + 1) = nI (18 + 8 * w + pre.length) := by
      rw [nI_add]
      congr 1
      omega
    rw [f_X10_digest_121, ea, ixo_nI (by omega) (by omega), nI_clamp (by omega), hv.1, if_neg (nI_nlt (by omega) (by omega)), eb, ixo_nI (by omega) (by omega), lt_e, nI_clamp (by omega), hv.2 _ x (by rw [e]; simp), nI_1]
    have := ih (pre ++ [x]) n (31 * h + (nI x).toInt64) (by rw [e]; simp) (by simp at hn; omega)
    rw [List.length_append] at this
    exact this
theorem X10_dd_loop {m : St} (hD : AD D (ga m 0)) : ∀ (w k n : Nat) (h : Int64), k + w = D.length → w < n → f_X10_digest_107 n m h (nI k) = f_X10_digest_175 FU m (hf h (dD (D.drop k))) 0 := by
  have h30 := hD.2.1
  intro w
  induction w with
  | zero =>
    intro k n h hk hn
    obtain ⟨n, rfl⟩ : ∃ j, n = j + 1 := ⟨n - 1, by omega⟩
    rw [f_X10_digest_107, show (16 : Int32) = nI 16 from rfl, ixo_nI (by omega) (by omega), nI_clamp (by omega), hD.1, if_pos (nI_le (by omega) (by omega)), List.drop_eq_nil_of_le (by omega)]
    rfl
  | succ w ih =>
    intro k n h hk hn
    obtain ⟨n, rfl⟩ : ∃ j, n = j + 1 := ⟨n - 1, by omega⟩
    have hlt : k < D.length := by omega
    have hu : D[k]? = some D[k] := List.getElem?_eq_getElem hlt
    have h7 := (hD.2.2.1 D[k] (List.getElem_mem hlt)).1.2
    have hv := hD.2.2.2 k D[k] hu
    have ea : (17 : Int32) + 8 * nI k = nI (17 + 8 * k) := by
      simp only [L17, L8, iI_nI, iI_mul, iI_add]
      congr 1 <;> omega
    obtain ⟨N, hN⟩ : ∃ N, FU = N + 1 := ⟨FU - 1, by unfold FU; omega⟩
    have c0 : ¬ nI D[k].length < (0 : Int32) := nI_pos (by omega)
    have e := X10_dw_loop hD (f_X10_digest_107 n) hu D[k] [] N (31 * h + (nI D[k].length).toInt64) rfl (by unfold FU at hN; omega)
    have qN : f_X10_digest_121 (f_X10_digest_107 n) FU m h (nI k) 0 = f_X10_digest_121 (f_X10_digest_107 n) (N + 1) m h (nI k) 0 := by rw [hN]
    have e' : f_X10_digest_121 (f_X10_digest_107 n) N m (31 * h + (nI D[k].length).toInt64) (nI k) (0 + 1) = _ := e
    rw [f_X10_digest_107, show (16 : Int32) = nI 16 from rfl, ixo_nI (by omega) (by omega), nI_clamp (by omega), hD.1, if_neg (nI_ge hlt (by omega)), qN, f_X10_digest_121, ea, Int32.add_zero, ixo_nI (by omega) (by omega), ixo_nI (by omega) (by omega), lt_e, nI_clamp (by omega), hv.1, if_neg c0, e', ih (k + 1) n _ (by omega) (by omega), List.drop_eq_getElem_cons hlt]
    unfold dD
    rw [List.flatMap_cons, hf_app]
    rfl
theorem X10_dq_loop {m : St} (hT : AT T (ga m 0)) (hP : AP P (ga m 0)) : ∀ (w k n : Nat) (h : Int64), k + w = 49 → w < n → f_X10_digest_175 n m h (nI k) = bno (f_X10_laysNow m) fun r1 => f_X10_digest_227 FU r1 (hf h (dQ T P k w)) 0 := by
  intro w
  induction w with
  | zero =>
    intro k n h hk hn
    obtain ⟨n, rfl⟩ : ∃ j, n = j + 1 := ⟨n - 1, by omega⟩
    have : k = 49 := by omega
    subst this
    rw [f_X10_digest_175, if_pos (by decide)]
    rfl
  | succ w ih =>
    intro k n h hk hn
    obtain ⟨n, rfl⟩ : ∃ j, n = j + 1 := ⟨n - 1, by omega⟩
    have c : ¬ (49 : Int32) ≤ nI k := nI_ge (b := 49) (by omega) (by omega)
    have ea : (257 : Int32) + nI k = nI (257 + k) := nI_add 257 k
    have eb : (306 : Int32) + nI k = nI (306 + k) := nI_add 306 k
    have e1 := hT.2 (k / 7) (k % 7) (by omega) (by omega)
    have e2 := hP (k / 7) (k % 7) (by omega) (by omega)
    rw [show 257 + (7 * (k / 7) + k % 7) = 257 + k by omega] at e1
    rw [show 306 + (7 * (k / 7) + k % 7) = 306 + k by omega] at e2
    rw [f_X10_digest_175, if_neg c, ea, eb, ixo_nI (by omega) (by omega), ixo_nI (by omega) (by omega), lt_e, nI_clamp (by omega), nI_clamp (by omega), e1, e2, nI_1, ih (k + 1) n _ (by omega) (by omega)]
    unfold dQ
    rw [List.range'_succ, List.flatMap_cons, hf_app]
    rfl
theorem X10_dr_loop (bk : St → Int64 → Int32 → Option (Int64 × St)) {p : Nat} (hp : p < 2) {m : St} (hR : AR R (ga m 0)) (hS : AS S (ga m 0)) : ∀ (w k n : Nat) (h : Int64), k + w = 8 → w < n → f_X10_digest_235 bk n m h (nI p) (nI k) = bno (f_X10_playsOf m (nI p)) fun r1 => bk r1.2 (31 * (31 * hf h (dR (R p) k w) + (S p).toInt64) + r1.1.toInt64) (nI (p + 1)) := by
  have es : (371 : Int32) + nI p = nI (371 + p) := nI_add 371 p
  have ep : (355 : Int32) + 8 * nI p = nI (355 + 8 * p) := by
    simp only [L355, L8, iI_nI, iI_mul, iI_add]
    congr 1 <;> omega
  intro w
  induction w with
  | zero =>
    intro k n h hk hn
    obtain ⟨n, rfl⟩ : ∃ j, n = j + 1 := ⟨n - 1, by omega⟩
    have : k = 8 := by omega
    subst this
    rw [f_X10_digest_235, if_pos (by decide), es, ixo_nI (by omega) (by omega), nI_clamp (by omega), hS p hp, nI_1]
    rfl
  | succ w ih =>
    intro k n h hk hn
    obtain ⟨n, rfl⟩ : ∃ j, n = j + 1 := ⟨n - 1, by omega⟩
    have c : ¬ (8 : Int32) ≤ nI k := nI_ge (b := 8) (by omega) (by omega)
    have er := hR p k hp (by omega)
    rw [← Nat.add_assoc] at er
    rw [f_X10_digest_235, if_neg c, ep, nI_add, ixo_nI (by omega) (by omega), lt_e, nI_clamp (by omega), er, nI_1, ih (k + 1) n _ (by omega) (by omega)]
    unfold dR
    rw [List.range'_succ, List.map_cons, hf]
theorem X10_digest {m : St} {c : Int32} (h : MB D V E P S T R (ga m 0)) (ht : TX t m) (hk : ∀ p, p < 2 → okR (R p)) (hc : gi m 2 = c) : ∃ m', f_X10_digest m = some (dgv D V E P S t T R c, m') ∧ gi m' 3 = 0 ∧ FR [3, 7, 10, 11, 12, 14] [6, 8, 9, 13, 15] m m' := by
  obtain ⟨hD, hV, hE, hP, hS, hT, hR⟩ := h
  have f0 := FR_si m 3 0
  have h7 := ht.2.1.2
  obtain ⟨m1, e1, hB, hRR, f1⟩ := X10_laysNow (σ := si m 3 0) (T := T) (R := R) hT hR
  have hPB : PB D V E P T R m1 := by
    unfold PB
    rw [f1.2 0 (by decide)]
    exact ⟨hD, hV, hE, hP, hB, hRR, hk⟩
  obtain ⟨m2, e2, f2⟩ := X10_playsOf hPB (p := 0) (by omega)
  have hPB2 := PB_FR hPB f2 (by decide) (by decide) (by decide)
  obtain ⟨m3, e3, f3⟩ := X10_playsOf hPB2 (p := 1) (by omega)
  have hPB3 := PB_FR hPB2 f3 (by decide) (by decide) (by decide)
  have q1 : f_X10_digest_17 FU (si m 3 0) (86893 + (gi (si m 3 0) 5).toInt64) 0 = f_X10_digest_47 FU (si m 3 0) (hf (86893 + (gi (si m 3 0) 5).toInt64) (t.map nI)) 0 := X10_dt_loop (m := si m 3 0) ht t [] FU _ rfl (FU_big (by omega))
  have q2 : ∀ h0, f_X10_digest_47 FU (si m 3 0) h0 0 = f_X10_digest_107 FU (si m 3 0) (31 * hf h0 (dL V E 0 8) + (nI D.length).toInt64) 0 := fun h0 => X10_dl_loop (m := si m 3 0) hV hE hD 8 0 FU h0 (by omega) (FU_big (by omega))
  have q3 : ∀ h0, f_X10_digest_107 FU (si m 3 0) h0 0 = f_X10_digest_175 FU (si m 3 0) (hf h0 (dD D)) 0 := fun h0 => X10_dd_loop (m := si m 3 0) hD D.length 0 FU h0 (by omega) (FU_big (by have := hD.2.1; omega))
  have q4 : ∀ h0, f_X10_digest_175 FU (si m 3 0) h0 0 = bno (f_X10_laysNow (si m 3 0)) fun r1 => f_X10_digest_227 FU r1 (hf h0 (dQ T P 0 49)) 0 := fun h0 => X10_dq_loop (m := si m 3 0) hT hP 49 0 FU h0 (by omega) (FU_big (by omega))
  have hR1 : AR R (ga m1 0) := by rw [f1.2 0 (by decide)]; exact hR
  have hS1 : AS S (ga m1 0) := by rw [f1.2 0 (by decide)]; exact hS
  have hR2 : AR R (ga m2 0) := by rw [f2.2 0 (by decide)]; exact hR1
  have hS2 : AS S (ga m2 0) := by rw [f2.2 0 (by decide)]; exact hS1
  obtain ⟨n, hn⟩ : ∃ n, FU = n + 3 := ⟨FU - 3, by unfold FU; omega⟩
  have q5 : ∀ h0, f_X10_digest_235 (f_X10_digest_227 (n + 2)) FU m1 h0 0 0 = bno (f_X10_playsOf m1 (nI 0)) fun r1 => f_X10_digest_227 (n + 2) r1.2 (31 * (31 * hf h0 (dR (R 0) 0 8) + (S 0).toInt64) + r1.1.toInt64) (nI 1) := fun h0 => X10_dr_loop (f_X10_digest_227 (n + 2)) (p := 0) (by omega) hR1 hS1 8 0 FU h0 (by omega) (FU_big (by omega))
  have q6 : ∀ h0, f_X10_digest_235 (f_X10_digest_227 (n + 1)) FU m2 h0 (nI 1) 0 = bno (f_X10_playsOf m2 (nI 1)) fun r1 => f_X10_digest_227 (n + 1) r1.2 (31 * (31 * hf h0 (dR (R 1) 0 8) + (S 1).toInt64) + r1.1.toInt64) (nI 2) := fun h0 => X10_dr_loop (f_X10_digest_227 (n + 1)) (p := 1) (by omega) hR2 hS2 8 0 FU h0 (by omega) (FU_big (by omega))
  have n0 : ¬ (2 : Int32) ≤ 0 := by decide
  have n1 : ¬ (2 : Int32) ≤ nI 1 := by decide
  have n2 : (2 : Int32) ≤ nI 2 := by decide
  have g2 : gi m3 2 = c := by rw [f3.1 2 (by decide), f2.1 2 (by decide), f1.1 2 (by decide)]; exact hc
  have q7 : ∀ h0, f_X10_digest_227 FU m1 h0 0 = f_X10_digest_235 (f_X10_digest_227 (n + 2)) FU m1 h0 0 0 := by
    intro h0
    rw [show f_X10_digest_227 FU = f_X10_digest_227 (n + 3) by rw [hn], f_X10_digest_227, if_neg n0]
  have q8 : ∀ h0, f_X10_digest_227 (n + 2) m2 h0 (nI 1) = f_X10_digest_235 (f_X10_digest_227 (n + 1)) FU m2 h0 (nI 1) 0 := by
    intro h0
    rw [f_X10_digest_227, if_neg n1]
  have q9 : ∀ h0, f_X10_digest_227 (n + 1) m3 h0 (nI 2) = some (31 * (31 * h0 + (nI (anT T 49 0)).toInt64) + c.toInt64, m3) := by
    intro h0
    rw [f_X10_digest_227, if_pos n2, X10_anchorsNow hPB3.2.2.2.2.1, bno_s, g2]
  have e0 : gi (si m 3 0) 5 = nI t.length := ht.1
  have e86 : (86893 : Int64) = 31 * 2803 := by decide +kernel
  refine ⟨m3, ?_, ?_, ?_⟩
  · unfold f_X10_digest
    rw [lt_e, q1, q2, q3, q4, e1, bno_s, q7, q5, e2, bno_s, q8, q6, e3, bno_s, q9, e0, e86]
    unfold dgv dW dP
    simp only [hf]
  · rw [f3.1 3 (by decide), f2.1 3 (by decide), f1.1 3 (by decide), gi_si]
  · exact ((f0.mo (by decide) (by decide)).t (f1.mo (by decide) (by decide))).t ((f2.t f3).mo (by decide) (by decide))
end
