/-! ===== the state of the two systems as numbers; small combinators; calls that keep the whole world ===== -/
abbrev St : Type := (Nat → Int32) × ((Nat → Nat → Int32) × (Nat → Int64))
def gi (σ : St) (k : Nat) : Int32 := σ.1 k
def ga (σ : St) (k : Nat) : Nat → Int32 := σ.2.1 k
def gl (σ : St) (k : Nat) : Int64 := σ.2.2 k
def si (σ : St) (k : Nat) (v : Int32) : St := (fun j => if j = k then v else σ.1 j, σ.2)
def sa (σ : St) (k : Nat) (f : Nat → Int32) : St := (σ.1, (fun j => if j = k then f else σ.2.1 j, σ.2.2))
def sl (σ : St) (k : Nat) (v : Int64) : St := (σ.1, (σ.2.1, fun j => if j = k then v else σ.2.2 j))
def lt {α β : Type} (a : α) (k : α → Option β) : Option β := k a
def bno {α β : Type} (x : Option α) (k : α → Option β) : Option β := match x with
  | none => none
  | some a => k a
def ixo {α : Type} (i : Int32) (n : Nat) (k : Option α) : Option α := if i < 0 then none else if n ≤ i.toNatClampNeg then none else k
def b2i (b : Bool) : Int32 := match b with
  | true => 1
  | false => 0
def i2b (x : Int32) : Option Bool := if x = 1 then some true else if x = 0 then some false else none
def iush (x z : Int32) : Int32 := (x.toUInt32 >>> (z.toUInt32 &&& Int32.toUInt32 31)).toInt32
def lush (x : Int64) (z : Int32) : Int64 := (x.toUInt64 >>> (z.toInt64.toUInt64 &&& Int64.toUInt64 63)).toInt64
def lshl (x : Int64) (z : Int32) : Int64 := x <<< (z.toInt64 &&& 63)
def FU : Nat := 2147483648
theorem lt_some {α β : Type} {a : α} {k : α → Option β} {r : β} (h : lt a k = some r) : ∃ b, b = a ∧ k b = some r := ⟨a, rfl, h⟩
theorem bno_some {α β : Type} {x : Option α} {k : α → Option β} {r : β} (h : bno x k = some r) : ∃ a, x = some a ∧ k a = some r := by
  cases x with
  | none => cases h
  | some a => exact ⟨a, rfl, h⟩
theorem ixo_some {α : Type} {i : Int32} {n : Nat} {k : Option α} {r : α} (h : ixo i n k = some r) : vp_in i n ∧ k = some r := by
  unfold ixo at h
  by_cases h1 : i < 0
  · rw [if_pos h1] at h; cases h
  · rw [if_neg h1] at h
    by_cases h2 : n ≤ i.toNatClampNeg
    · rw [if_pos h2] at h; cases h
    · rw [if_neg h2] at h
      exact ⟨fun q => q.elim h1 h2, h⟩
theorem i2b_some {x : Int32} {b : Bool} (h : i2b x = some b) : x = b2i b := by
  unfold i2b at h
  by_cases h1 : x = 1
  · rw [if_pos h1] at h; cases h; exact h1
  · rw [if_neg h1] at h
    by_cases h2 : x = 0
    · rw [if_pos h2] at h; cases h; exact h2
    · rw [if_neg h2] at h; cases h
theorem narrow_b2i (b : Bool) : narrow .boolean (.int (b2i b)) = .int (b2i b) := by cases b <;> rfl
theorem sw_out5 {x : Int32} (h0 : ¬ x = 0) (h1 : ¬ x = 1) (h2 : ¬ x = 2) (h3 : ¬ x = 3) (h4 : ¬ x = 4) : x.toInt < 0 ∨ 4 < x.toInt := by
  have e : ∀ k : Int32, ¬ x = k → x.toInt ≠ k.toInt := fun k h q => h (Int32.toInt_inj.mp q)
  have e0 := e 0 h0
  have e1 := e 1 h1
  have e2 := e 2 h2
  have e3 := e 3 h3
  have e4 := e 4 h4
  have z0 : (0 : Int32).toInt = 0 := rfl
  have z1 : (1 : Int32).toInt = 1 := rfl
  have z2 : (2 : Int32).toInt = 2 := rfl
  have z3 : (3 : Int32).toInt = 3 := rfl
  have z4 : (4 : Int32).toInt = 4 := rfl
  omega
theorem sw_ne {x k : Int32} (h : ¬ x = k) : ¬ k.toInt = x.toInt := fun q => h (Int32.toInt_inj.mp q.symm)
theorem sw_look2 {x a b : Int32} {oa ob df ia ib : Int} (h1 : ¬ x = a) (h2 : ¬ x = b) (ha : ia = a.toInt := by rfl) (hb : ib = b.toInt := by rfl) : Op.lookupswitch.offset [(ia, oa), (ib, ob)] df x.toInt = df := by
  subst ha
  subst hb
  have e1 := sw_ne h1
  have e2 := sw_ne h2
  simp [Op.lookupswitch.offset, e1, e2, Ne.symm e1, Ne.symm e2]
def wC (G : Gv) (ad : Nat → Nat) (σ : St) : va_W := [(ad 0, .inr (6, [.int (gi σ 0), .ref (ad 1), .ref (ad 11), .ref (ad 12), .ref (ad 13)])),
  (ad 1, .inr (5, [.ref (ad 2), .ref (ad 4), .ref (ad 7), .ref (ad 8), .ref (ad 9), .ref (ad 10)])),
  (ad 2, .inr (1, [.ref (ad 3), .int (gi σ 1)])),
  (ad 3, .inl (G.2.1, 30, .inl (ga σ 0))),
  (ad 4, .inr (0, [.ref (ad 5), .ref (ad 6), .long (gl σ 0)])),
  (ad 5, .inl (G.2.1, 64, .inl (ga σ 1))),
  (ad 6, .inl (G.2.1, 64, .inl (ga σ 2))),
  (ad 7, .inl (G.2.1, 8, .inl (ga σ 3))),
  (ad 8, .inl (G.2.1, 8, .inl (ga σ 4))),
  (ad 9, .inl (G.2.1, 2, .inl (ga σ 5))),
  (ad 10, .inl (G.2.1, 2, .inl (ga σ 6))),
  (ad 11, .inr (4, [.ref (ad 1)])),
  (ad 12, .inr (2, [.ref (ad 1), .ref (ad 11), .int (gi σ 2)]))]
def wM (G : Gv) (ad : Nat → Nat) (σ : St) : va_W := [(ad 0, .inr (7, [.ref (ad 1), .ref (ad 2), .int (gi σ 2), .int (gi σ 3), .ref (ad 3), .int (gi σ 5), .ref (ad 4), .int (gi σ 7), .ref (ad 5), .ref (ad 6), .int (gi σ 10), .int (gi σ 11), .int (gi σ 12), .ref (ad 7), .int (gi σ 14), .ref (ad 8), .int (gi σ 16), .int (gi σ 17), .ref (ad 9), .ref (ad 10), .ref (ad 11), .ref (ad 12), .ref (ad 13), .ref (ad 14), .int (gi σ 24)])),
  (ad 1, .inl (G.2.1, 373, .inl (ga σ 0))),
  (ad 2, .inl (G.2.1, 1492, .inl (ga σ 1))),
  (ad 3, .inl (G.2.1, 7, .inl (ga σ 4))),
  (ad 4, .inl (G.2.1, 7, .inl (ga σ 6))),
  (ad 5, .inl (G.2.1, 49, .inl (ga σ 8))),
  (ad 6, .inl (G.2.1, 16, .inl (ga σ 9))),
  (ad 7, .inl (G.2.1, 7, .inl (ga σ 13))),
  (ad 8, .inl (G.2.1, 8, .inl (ga σ 15))),
  (ad 9, .inl (G.2.1, 1274, .inl (ga σ 18))),
  (ad 10, .inl (G.2.1, 416, .inl (ga σ 19))),
  (ad 11, .inl (G.2.1, 26, .inl (ga σ 20))),
  (ad 12, .inl (G.2.1, 26, .inl (ga σ 21))),
  (ad 13, .inl (G.2.1, 26, .inl (ga σ 22))),
  (ad 14, .inl (G.2.1, 26, .inl (ga σ 23)))]
theorem wi_X0 : ∀ w ∈ u_ws RX0 TX0 3, w ∈ tblG := by
  intro w hw
  obtain ⟨k, hk, rfl⟩ := List.mem_map.mp hw
  have hk := List.mem_range.mp hk
  match k, hk with
  | 0, _ => exact tin 58 (by decide +kernel) (by decide +kernel)
  | 1, _ => exact tin 60 (by decide +kernel) (by decide +kernel)
  | 2, _ => exact tin 62 (by decide +kernel) (by decide +kernel)
  | k + 3, h => exact absurd h (by omega)
theorem RC_X0 : RC 0 RX0 TX0 3 tyX0 := ⟨rfl, wi_X0, tyX0_ok, nmX0⟩
theorem wi_X1 : ∀ w ∈ u_ws RX1 TX1 2, w ∈ tblG := by
  intro w hw
  obtain ⟨k, hk, rfl⟩ := List.mem_map.mp hw
  have hk := List.mem_range.mp hk
  match k, hk with
  | 0, _ => exact tin 43 (by decide +kernel) (by decide +kernel)
  | 1, _ => exact tin 45 (by decide +kernel) (by decide +kernel)
  | k + 2, h => exact absurd h (by omega)
theorem RC_X1 : RC 1 RX1 TX1 2 tyX1 := ⟨rfl, wi_X1, tyX1_ok, nmX1⟩
theorem wi_X2 : ∀ w ∈ u_ws RX2 TX2 3, w ∈ tblG := by
  intro w hw
  obtain ⟨k, hk, rfl⟩ := List.mem_map.mp hw
  have hk := List.mem_range.mp hk
  match k, hk with
  | 0, _ => exact tin 108 (by decide +kernel) (by decide +kernel)
  | 1, _ => exact tin 110 (by decide +kernel) (by decide +kernel)
  | 2, _ => exact tin 112 (by decide +kernel) (by decide +kernel)
  | k + 3, h => exact absurd h (by omega)
theorem RC_X2 : RC 2 RX2 TX2 3 tyX2 := ⟨rfl, wi_X2, tyX2_ok, nmX2⟩
theorem wi_X3 : ∀ w ∈ u_ws RX3 TX3 3, w ∈ tblG := by
  intro w hw
  obtain ⟨k, hk, rfl⟩ := List.mem_map.mp hw
  have hk := List.mem_range.mp hk
  match k, hk with
  | 0, _ => exact tin 126 (by decide +kernel) (by decide +kernel)
  | 1, _ => exact tin 128 (by decide +kernel) (by decide +kernel)
  | 2, _ => exact tin 130 (by decide +kernel) (by decide +kernel)
  | k + 3, h => exact absurd h (by omega)
theorem RC_X3 : RC 3 RX3 TX3 3 tyX3 := ⟨rfl, wi_X3, tyX3_ok, nmX3⟩
theorem wi_X5 : ∀ w ∈ u_ws RX5 TX5 1, w ∈ tblG := by
  intro w hw
  obtain ⟨k, hk, rfl⟩ := List.mem_map.mp hw
  have hk := List.mem_range.mp hk
  match k, hk with
  | 0, _ => exact tin 96 (by decide +kernel) (by decide +kernel)
  | k + 1, h => exact absurd h (by omega)
theorem RC_X5 : RC 4 RX5 TX5 1 tyX5 := ⟨rfl, wi_X5, tyX5_ok, nmX5⟩
theorem wi_X7 : ∀ w ∈ u_ws RX7 TX7 6, w ∈ tblG := by
  intro w hw
  obtain ⟨k, hk, rfl⟩ := List.mem_map.mp hw
  have hk := List.mem_range.mp hk
  match k, hk with
  | 0, _ => exact tin 76 (by decide +kernel) (by decide +kernel)
  | 1, _ => exact tin 78 (by decide +kernel) (by decide +kernel)
  | 2, _ => exact tin 80 (by decide +kernel) (by decide +kernel)
  | 3, _ => exact tin 82 (by decide +kernel) (by decide +kernel)
  | 4, _ => exact tin 84 (by decide +kernel) (by decide +kernel)
  | 5, _ => exact tin 86 (by decide +kernel) (by decide +kernel)
  | k + 6, h => exact absurd h (by omega)
theorem RC_X7 : RC 5 RX7 TX7 6 tyX7 := ⟨rfl, wi_X7, tyX7_ok, nmX7⟩
theorem wi_X9 : ∀ w ∈ u_ws RX9 TX9 5, w ∈ tblG := by
  intro w hw
  obtain ⟨k, hk, rfl⟩ := List.mem_map.mp hw
  have hk := List.mem_range.mp hk
  match k, hk with
  | 0, _ => exact tin 138 (by decide +kernel) (by decide +kernel)
  | 1, _ => exact tin 140 (by decide +kernel) (by decide +kernel)
  | 2, _ => exact tin 142 (by decide +kernel) (by decide +kernel)
  | 3, _ => exact tin 144 (by decide +kernel) (by decide +kernel)
  | 4, _ => exact tin 146 (by decide +kernel) (by decide +kernel)
  | k + 5, h => exact absurd h (by omega)
theorem RC_X9 : RC 6 RX9 TX9 5 tyX9 := ⟨rfl, wi_X9, tyX9_ok, nmX9⟩
theorem wi_X10 : ∀ w ∈ u_ws RX10 TX10 25, w ∈ tblG := by
  intro w hw
  obtain ⟨k, hk, rfl⟩ := List.mem_map.mp hw
  have hk := List.mem_range.mp hk
  match k, hk with
  | 0, _ => exact tin 846 (by decide +kernel) (by decide +kernel)
  | 1, _ => exact tin 848 (by decide +kernel) (by decide +kernel)
  | 2, _ => exact tin 850 (by decide +kernel) (by decide +kernel)
  | 3, _ => exact tin 852 (by decide +kernel) (by decide +kernel)
  | 4, _ => exact tin 854 (by decide +kernel) (by decide +kernel)
  | 5, _ => exact tin 856 (by decide +kernel) (by decide +kernel)
  | 6, _ => exact tin 858 (by decide +kernel) (by decide +kernel)
  | 7, _ => exact tin 860 (by decide +kernel) (by decide +kernel)
  | 8, _ => exact tin 862 (by decide +kernel) (by decide +kernel)
  | 9, _ => exact tin 864 (by decide +kernel) (by decide +kernel)
  | 10, _ => exact tin 866 (by decide +kernel) (by decide +kernel)
  | 11, _ => exact tin 868 (by decide +kernel) (by decide +kernel)
  | 12, _ => exact tin 870 (by decide +kernel) (by decide +kernel)
  | 13, _ => exact tin 872 (by decide +kernel) (by decide +kernel)
  | 14, _ => exact tin 874 (by decide +kernel) (by decide +kernel)
  | 15, _ => exact tin 876 (by decide +kernel) (by decide +kernel)
  | 16, _ => exact tin 878 (by decide +kernel) (by decide +kernel)
  | 17, _ => exact tin 880 (by decide +kernel) (by decide +kernel)
  | 18, _ => exact tin 882 (by decide +kernel) (by decide +kernel)
  | 19, _ => exact tin 884 (by decide +kernel) (by decide +kernel)
  | 20, _ => exact tin 886 (by decide +kernel) (by decide +kernel)
  | 21, _ => exact tin 888 (by decide +kernel) (by decide +kernel)
  | 22, _ => exact tin 890 (by decide +kernel) (by decide +kernel)
  | 23, _ => exact tin 892 (by decide +kernel) (by decide +kernel)
  | 24, _ => exact tin 894 (by decide +kernel) (by decide +kernel)
  | k + 25, h => exact absurd h (by omega)
theorem RC_X10 : RC 7 RX10 TX10 25 tyX10 := ⟨rfl, wi_X10, tyX10_ok, nmX10⟩
theorem perm_all (ws : va_W) : va_perm ws (List.range ws.length) ws := by
  unfold va_perm
  apply List.ext_getElem?
  intro i
  rw [List.getElem?_map, List.getElem?_map]
  by_cases h : i < ws.length
  · rw [List.getElem?_range h, Option.map_some, List.getElem?_eq_getElem h, Option.map_some]
  · rw [List.getElem?_eq_none (by simp; omega), List.getElem?_eq_none (by omega)]; rfl
theorem nd_of {l : List Nat} (h : l.Nodup) : va_nd l = true := by
  induction l with
  | nil => rfl
  | cons a l ih =>
    obtain ⟨h1, h2⟩ := List.nodup_cons.mp h
    simp [va_nd, h1, ih h2]
theorem nd_range (n : Nat) : va_nd (List.range n) = true := nd_of List.nodup_range
section VD
variable {l : Launch} {G : Gv} {y : MethodName} {cc : ByteArray} {nL : Nat} {ret : Option FieldType} {d mc ms : Nat} {av : List Value} {w0 : va_W} {post : Option Value → va_W → Prop} {ce sl : Nat} {ws : va_W} {pc : Nat} {lv : List (Nat × Value)} {st : List Value}
variable {y2 : MethodName} {cc2 : ByteArray} {nL2 : Nat} {ret2 : Option FieldType} {n d2 mc2 ms2 idx : Nat} {post2 : Option Value → va_W → Prop} {wc wr : va_W}
theorem V_lv (lv1 : List (Nat × Value)) (ks : List Nat) (h1 : lv_pick lv ks = lv1) (K : VV l G y cc nL ret d mc ms av w0 post ce sl ws pc lv1 st) : VV l G y cc nL ret d mc ms av w0 post ce sl ws pc lv st := fun p e s m below meth c C H locs ls hP hD hS hl => K p e s m below meth c C H locs ls hP hD hS (lv_sub hl ks h1)
theorem V_topi {x z : Int32} (h : x = z) (K : VV l G y cc nL ret d mc ms av w0 post ce sl ws pc lv (.int x :: st)) : VV l G y cc nL ret d mc ms av w0 post ce sl ws pc lv (.int z :: st) := h ▸ K
theorem V_topl {x z : Int64} (h : x = z) (K : VV l G y cc nL ret d mc ms av w0 post ce sl ws pc lv (.long x :: st)) : VV l G y cc nL ret d mc ms av w0 post ce sl ws pc lv (.long z :: st) := h ▸ K
theorem V_ws {ws1 : va_W} (h : ws = ws1) (K : VV l G y cc nL ret d mc ms av w0 post ce sl ws1 pc lv st) : VV l G y cc nL ret d mc ms av w0 post ce sl ws pc lv st := h ▸ K
theorem V_cV {a ci : Nat} {As rest : List Value} {qc : vw_C} {fs : List Value} {v : Option Value} {w1 : va_W} (hK : K l G y2 cc2 nL2 ret2 d2 0 0 (.ref a :: As) ws (pD v w1)) (hB : LB y2 cc2 nL2 ret2 n) (hlk : Cond.methodLink y.cls idx y2 ∈ tblG ∧ Cond.instanceMethod y2 ∈ tblG ∧ Cond.selects y2.cls y2 y2 ∈ tblG) (hd : d2 + 1 ≤ d) (dg : decode cc pc = .ok (.invokevirtual idx, 3)) (hst : st = As.reverse ++ .ref a :: rest) (hn : As.length = n) (hrest : (rest.map fun v => v.category).sum ≤ 8) (hc1 : ce ≤ mc) (hc2 : sl ≤ ms) (q : Nat) (hq : ws[q]? = some (a, .inr (ci, fs))) (hqc : vwCl[ci]? = some qc ∧ qc.1 = y2.cls) (st1 : List Value) (hs1 : v.toList ++ rest = st1) (k : VV l G y cc nL ret d mc ms av w0 post ce sl w1 (pc + 3) lv st1) : VV l G y cc nL ret d mc ms av w0 post ce sl ws pc lv st :=
  V_callV hK hB hlk hd dg hst hn hrest ⟨hc1, hc2⟩ q hq hqc (List.range ws.length) [] (perm_all ws) (wr := []) rfl (nd_range _) rfl (fun _ h => absurd h List.not_mem_nil) (fun ro w hp => by obtain ⟨rfl, rfl⟩ := hp; subst hs1; exact k)
theorem V_cS {As rest : List Value} {v : Option Value} {w1 : va_W} (hK : K l G y2 cc2 nL2 ret2 d2 0 0 As ws (pD v w1)) (hB : LB y2 cc2 nL2 ret2 n) (hlk : Cond.methodLink y.cls idx y2 ∈ tblG ∧ Cond.static y2 ∈ tblG) (hd : d2 + 1 ≤ d) (dg : decode cc pc = .ok (.invokestatic idx, 3)) (hst : st = As.reverse ++ rest) (hn : As.length = n) (hrest : (rest.map fun v => v.category).sum ≤ 8) (hc1 : ce ≤ mc) (hc2 : sl ≤ ms) (st1 : List Value) (hs1 : v.toList ++ rest = st1) (k : VV l G y cc nL ret d mc ms av w0 post ce sl w1 (pc + 3) lv st1) : VV l G y cc nL ret d mc ms av w0 post ce sl ws pc lv st :=
  V_callS hK hB hlk hd dg hst hn hrest ⟨hc1, hc2⟩ (List.range ws.length) [] (perm_all ws) (wr := []) rfl (nd_range _) rfl (fun _ h => absurd h List.not_mem_nil) (fun ro w hp => by obtain ⟨rfl, rfl⟩ := hp; subst hs1; exact k)
theorem V_callSN {host : String} {As rest : List Value} (hK : K l G y2 cc2 nL2 ret2 d2 mc2 ms2 As wc post2) (hB : LB y2 cc2 nL2 ret2 n) (hlk : Cond.methodLinkNest y.cls idx y2 host ∈ nestL ∧ Cond.static y2 ∈ tblG) (hd : d2 + 1 ≤ d) (dg : decode cc pc = .ok (.invokestatic idx, 3)) (hst : st = As.reverse ++ rest) (hn : As.length = n) (hrest : (rest.map fun v => v.category).sum ≤ 8) (hcs : ce + mc2 ≤ mc ∧ sl + ms2 ≤ ms)
    (isC isR : List Nat) (hC : va_perm ws isC wc) (hRr : va_perm ws isR wr) (hndC : va_nd isC = true) (hnd : va_nd isR = true) (hdis : ∀ i ∈ isR, i ∉ isC)
    (k : ∀ (ro : Option Value) (w1 : va_W), post2 ro w1 → VV l G y cc nL ret d mc ms av w0 post (ce + mc2) (sl + ms2) (wr ++ w1) (pc + 3) lv (ro.toList ++ rest)) : VV l G y cc nL ret d mc ms av w0 post ce sl ws pc lv st := by
  intro p e s m below meth c C H locs ls hP hD hS hl
  subst hst
  have hPc := hP.sub (ws' := wc) isC (va_sub_eq hC)
  have hFc := va_free (wc := wc) hD hS (fun q h => Or.inr h) isC hC
  have hDc : va_D (fun _ => True) wc := (hD.sub isC hndC hC).weaken (fun _ _ _ _ => trivial)
  have hR2 : 60 * d2 + 60 ≤ (rmG d mc ms).locals := by show 60 * d2 + 60 ≤ 60 * d; omega
  have hR3 : 8 + (nL2 + 11) + 60 * d2 ≤ (rmG d mc ms).locals := by have := hB.2.2.1; omega
  refine va_callK (va_runSN (As := As) (rest := rest) C.1 (hK H.size) ⟨va_cnB n C.1.2.2.2.2 hB.ws rfl rfl rfl (C.2.1.2 _ hlk.1) (C.1.2.2.2.2 _ hB.2.1) hB.2.2.2 ⟨hd, hR3⟩, C.1.2.2.2.2 _ hlk.2, trivial⟩ ⟨KB_blind, fun U hU hW => ⟨rfl, by rw [hU], by rw [hU]; exact hPc, va_K.moved hW.alike C.2.1.1, hDc, NN_warm hW C.2.1.2⟩⟩ rfl hn (hl.1) rfl (lv_room hrest) dg hcs) hS hFc (fun ro w1 H1 locs1 hp hP1 hD1 hk1 hS1 => ?_)
  obtain ⟨hP2, hD2⟩ := va_join (wr := wr) (w1 := w1) hP hD isC isR hC hRr hnd hdis hk1 hFc hP1 hD1
  exact k ro w1 hp p e s m below meth c C H1 locs1 ls hP2 hD2 hS1 hl
theorem V_cSN {host : String} {As rest : List Value} {v : Option Value} {w1 : va_W} (hK : K l G y2 cc2 nL2 ret2 d2 0 0 As ws (pD v w1)) (hB : LB y2 cc2 nL2 ret2 n) (hlk : Cond.methodLinkNest y.cls idx y2 host ∈ nestL ∧ Cond.static y2 ∈ tblG) (hd : d2 + 1 ≤ d) (dg : decode cc pc = .ok (.invokestatic idx, 3)) (hst : st = As.reverse ++ rest) (hn : As.length = n) (hrest : (rest.map fun v => v.category).sum ≤ 8) (hc1 : ce ≤ mc) (hc2 : sl ≤ ms) (st1 : List Value) (hs1 : v.toList ++ rest = st1) (k : VV l G y cc nL ret d mc ms av w0 post ce sl w1 (pc + 3) lv st1) : VV l G y cc nL ret d mc ms av w0 post ce sl ws pc lv st :=
  V_callSN hK hB hlk hd dg hst hn hrest ⟨hc1, hc2⟩ (List.range ws.length) [] (perm_all ws) (wr := []) rfl (nd_range _) rfl (fun _ h => absurd h List.not_mem_nil) (fun ro w hp => by obtain ⟨rfl, rfl⟩ := hp; subst hs1; exact k)
end VD
