/-! ===== the class's methods over the core and the whole ===== -/
abbrev S2 : Type := St × (Int32 × (Int32 × List St))
def wA (G : Gv) (ad : Nat → Nat) (σ : S2) (ts : List Tb) : va_W := wC G ad σ.1 ++ wH G ad σ.2.1 σ.2.2.1 ts
def exq {α β : Type} (r : Nat ⊕ α) (t : Nat → Option β) (k : α → Option β) : Option β := match r with
  | .inl c => t c
  | .inr v => k v
theorem exq_l {α β : Type} {c : Nat} {t : Nat → Option β} {k : α → Option β} {q : β} (h : exq (.inl c) t k = some q) : t c = some q := h
theorem exq_r {α β : Type} {v : α} {t : Nat → Option β} {k : α → Option β} {q : β} (h : exq (.inr v) t k = some q) : k v = some q := h
def oI (r : Nat ⊕ Int32) : Nat ⊕ Option Value := match r with
  | .inl c => .inl c
  | .inr v => .inr (some (.int v))
def oL (r : Nat ⊕ Int64) : Nat ⊕ Option Value := match r with
  | .inl c => .inl c
  | .inr v => .inr (some (.long v))
def oB (r : Nat ⊕ Bool) : Nat ⊕ Option Value := match r with
  | .inl c => .inl c
  | .inr v => .inr (some (.int (b2i v)))
def oU (r : Nat ⊕ Unit) : Nat ⊕ Option Value := match r with
  | .inl c => .inl c
  | .inr _ => .inr none
theorem perm_l (a b : va_W) : va_perm (a ++ b) (List.range a.length) a := by
  unfold va_perm
  apply List.ext_getElem?
  intro i
  rw [List.getElem?_map, List.getElem?_map]
  by_cases h : i < a.length
  · rw [List.getElem?_range h, Option.map_some, List.getElem?_append_left h, List.getElem?_eq_getElem h, Option.map_some]
  · rw [List.getElem?_eq_none (by simp; omega), List.getElem?_eq_none (by omega)]; rfl
def shf (n m : Nat) : List Nat := (List.range m).map (fun i => i + n)
theorem perm_r (a b : va_W) : va_perm (a ++ b) (shf a.length b.length) b := by
  unfold va_perm shf
  apply List.ext_getElem?
  intro i
  rw [List.getElem?_map, List.getElem?_map, List.getElem?_map]
  by_cases h : i < b.length
  · rw [List.getElem?_range h, Option.map_some, Option.map_some, List.getElem?_append_right (Nat.le_add_left _ _), Nat.add_sub_cancel, List.getElem?_eq_getElem h, Option.map_some]
  · rw [List.getElem?_eq_none (by simp; omega), List.getElem?_eq_none (by omega)]; rfl
theorem perm_app {ws a b : va_W} {i j : List Nat} (h1 : va_perm ws i a) (h2 : va_perm ws j b) : va_perm ws (i ++ j) (a ++ b) := by
  unfold va_perm at *
  rw [List.map_append, List.map_append, h1, h2]
theorem shf_mem {n m k : Nat} (h : k ∈ shf n m) : n ≤ k := by
  obtain ⟨i, -, rfl⟩ := List.mem_map.mp h
  exact Nat.le_add_left _ _
theorem shf_nodup (n m : Nat) : (shf n m).Nodup := by
  unfold shf
  exact List.Pairwise.map _ (fun a b h e => h (Nat.add_right_cancel e)) List.nodup_range
theorem nd_swap (n m : Nat) : va_nd (shf n m ++ List.range n) = true := nd_of (List.nodup_append.mpr ⟨shf_nodup n m, List.nodup_range, fun a h1 b h2 e => by
  subst e
  have h3 := shf_mem h1
  have h4 := List.mem_range.mp h2
  omega⟩)
theorem dis_l (n m : Nat) : ∀ i ∈ shf n m, i ∉ List.range n := fun i h1 h2 => by
  have h3 := shf_mem h1
  have h4 := List.mem_range.mp h2
  omega
section VFr
variable {l : Launch} {G : Gv} {y : MethodName} {cc : ByteArray} {nL : Nat} {ret : Option FieldType} {d mc ms : Nat} {av : List Value} {w0 : va_W} {post : Option Value → va_W → Prop} {ce sl : Nat} {ws : va_W} {pc : Nat} {lv : List (Nat × Value)} {st : List Value}
variable {y2 : MethodName} {cc2 : ByteArray} {nL2 : Nat} {ret2 : Option FieldType} {n d2 mc2 ms2 idx : Nat} {post2 : Option Value → va_W → Prop} {wc wr : va_W}
theorem V_st {st1 : List Value} (h : st = st1) (K : VV l G y cc nL ret d mc ms av w0 post ce sl ws pc lv st1) : VV l G y cc nL ret d mc ms av w0 post ce sl ws pc lv st := h ▸ K
theorem V_swap {w1 : va_W} (K : VV l G y cc nL ret d mc ms av w0 post ce sl (w1 ++ wr) pc lv st) : VV l G y cc nL ret d mc ms av w0 post ce sl (wr ++ w1) pc lv st := fun p e s m below meth c C H locs ls hP hD hS hl => K p e s m below meth c C H locs ls (hP.sub _ (va_sub_eq (perm_app (perm_r wr w1) (perm_l wr w1)))) (hD.sub _ (nd_swap _ _) (perm_app (perm_r wr w1) (perm_l wr w1))) hS hl
theorem V_cVg {a ci : Nat} {As rest : List Value} {qc : vw_C} {fs : List Value} (hK : K l G y2 cc2 nL2 ret2 d2 mc2 ms2 (.ref a :: As) ws post2) (hB : LB y2 cc2 nL2 ret2 n) (hlk : Cond.methodLink y.cls idx y2 ∈ tblG ∧ Cond.instanceMethod y2 ∈ tblG ∧ Cond.selects y2.cls y2 y2 ∈ tblG) (hd : d2 + 1 ≤ d) (dg : decode cc pc = .ok (.invokevirtual idx, 3)) (hst : st = As.reverse ++ .ref a :: rest) (hn : As.length = n) (hrest : (rest.map fun v => v.category).sum ≤ 8) (hcs : ce + mc2 ≤ mc ∧ sl + ms2 ≤ ms) (q : Nat) (hq : ws[q]? = some (a, .inr (ci, fs))) (hqc : vwCl[ci]? = some qc ∧ qc.1 = y2.cls) (k : ∀ (ro : Option Value) (w1 : va_W), post2 ro w1 → VV l G y cc nL ret d mc ms av w0 post (ce + mc2) (sl + ms2) w1 (pc + 3) lv (ro.toList ++ rest)) : VV l G y cc nL ret d mc ms av w0 post ce sl ws pc lv st :=
  V_callV hK hB hlk hd dg hst hn hrest hcs q hq hqc (List.range ws.length) [] (perm_all ws) (wr := []) rfl (nd_range _) rfl (fun _ h => absurd h List.not_mem_nil) (fun ro w hp => k ro w hp)
theorem V_cVf {a ci : Nat} {As rest : List Value} {qc : vw_C} {fs : List Value} {v : Option Value} {w1 : va_W} (hK : K l G y2 cc2 nL2 ret2 d2 0 0 (.ref a :: As) wc (pD v w1)) (hB : LB y2 cc2 nL2 ret2 n) (hlk : Cond.methodLink y.cls idx y2 ∈ tblG ∧ Cond.instanceMethod y2 ∈ tblG ∧ Cond.selects y2.cls y2 y2 ∈ tblG) (hd : d2 + 1 ≤ d) (dg : decode cc pc = .ok (.invokevirtual idx, 3)) (hst : st = As.reverse ++ .ref a :: rest) (hn : As.length = n) (hrest : (rest.map fun v => v.category).sum ≤ 8) (hc1 : ce ≤ mc) (hc2 : sl ≤ ms) (q : Nat) (hq : wc[q]? = some (a, .inr (ci, fs))) (hqc : vwCl[ci]? = some qc ∧ qc.1 = y2.cls) (st1 : List Value) (hs1 : v.toList ++ rest = st1) (k : VV l G y cc nL ret d mc ms av w0 post ce sl (w1 ++ wr) (pc + 3) lv st1) : VV l G y cc nL ret d mc ms av w0 post ce sl (wc ++ wr) pc lv st :=
  V_callV hK hB hlk hd dg hst hn hrest ⟨hc1, hc2⟩ q hq hqc (List.range wc.length) (shf wc.length wr.length) (perm_l wc wr) (perm_r wc wr) (nd_range _) (nd_of (shf_nodup _ _)) (dis_l _ _) (fun ro w hp => by obtain ⟨rfl, rfl⟩ := hp; subst hs1; exact V_swap k)
theorem V_callVN {a ci : Nat} {host : String} {As rest : List Value} {qc : vw_C} {fs : List Value} (hK : K l G y2 cc2 nL2 ret2 d2 mc2 ms2 (.ref a :: As) wc post2) (hB : LB y2 cc2 nL2 ret2 n) (hlk : Cond.methodLinkNest y.cls idx y2 host ∈ nestL ∧ Cond.instanceMethod y2 ∈ tblG ∧ Cond.selects y2.cls y2 y2 ∈ tblG) (hd : d2 + 1 ≤ d) (dg : decode cc pc = .ok (.invokevirtual idx, 3)) (hst : st = As.reverse ++ .ref a :: rest) (hn : As.length = n) (hrest : (rest.map fun v => v.category).sum ≤ 8) (hcs : ce + mc2 ≤ mc ∧ sl + ms2 ≤ ms) (q : Nat) (hq : wc[q]? = some (a, .inr (ci, fs))) (hqc : vwCl[ci]? = some qc ∧ qc.1 = y2.cls)
    (isC isR : List Nat) (hC : va_perm ws isC wc) (hRr : va_perm ws isR wr) (hndC : va_nd isC = true) (hnd : va_nd isR = true) (hdis : ∀ i ∈ isR, i ∉ isC)
    (k : ∀ (ro : Option Value) (w1 : va_W), post2 ro w1 → VV l G y cc nL ret d mc ms av w0 post (ce + mc2) (sl + ms2) (wr ++ w1) (pc + 3) lv (ro.toList ++ rest)) : VV l G y cc nL ret d mc ms av w0 post ce sl ws pc lv st := by
  intro p e s m below meth c C H locs ls hP hD hS hl
  subst hst
  have hPc := hP.sub (ws' := wc) isC (va_sub_eq hC)
  have hFc := va_free (wc := wc) hD hS (fun q h => Or.inr h) isC hC
  have hDc : va_D (fun _ => True) wc := (hD.sub isC hndC hC).weaken (fun _ _ _ _ => trivial)
  have hR2 : 60 * d2 + 60 ≤ (rmG d mc ms).locals := by show 60 * d2 + 60 ≤ 60 * d; omega
  have hR3 : 8 + (nL2 + 11) + 60 * d2 ≤ (rmG d mc ms).locals := by have := hB.2.2.1; omega
  refine va_callK (va_runVN (As := As) (rest := rest) C.1 (hK H.size) ⟨va_cnB n C.1.2.2.2.2 hB.ws rfl rfl rfl (C.2.1.2 _ hlk.1) (C.1.2.2.2.2 _ hB.2.1) hB.2.2.2 ⟨hd, hR3⟩, C.1.2.2.2.2 _ hlk.2.1, C.1.2.2.2.2 _ hlk.2.2⟩ ⟨KB_blind, hqc.2 ▸ va_recv C.2.1.1 hPc hqc.1 hq, fun U hU hW => ⟨rfl, by rw [hU], by rw [hU]; exact hPc, va_K.moved hW.alike C.2.1.1, hDc, NN_warm hW C.2.1.2⟩⟩ rfl hn (hl.1) rfl (lv_room hrest) dg hcs) hS hFc (fun ro w1 H1 locs1 hp hP1 hD1 hk1 hS1 => ?_)
  obtain ⟨hP2, hD2⟩ := va_join (wr := wr) (w1 := w1) hP hD isC isR hC hRr hnd hdis hk1 hFc hP1 hD1
  exact k ro w1 hp p e s m below meth c C H1 locs1 ls hP2 hD2 hS1 hl
theorem V_cVN {a ci : Nat} {host : String} {As rest : List Value} {qc : vw_C} {fs : List Value} {v : Option Value} {w1 : va_W} (hK : K l G y2 cc2 nL2 ret2 d2 0 0 (.ref a :: As) ws (pD v w1)) (hB : LB y2 cc2 nL2 ret2 n) (hlk : Cond.methodLinkNest y.cls idx y2 host ∈ nestL ∧ Cond.instanceMethod y2 ∈ tblG ∧ Cond.selects y2.cls y2 y2 ∈ tblG) (hd : d2 + 1 ≤ d) (dg : decode cc pc = .ok (.invokevirtual idx, 3)) (hst : st = As.reverse ++ .ref a :: rest) (hn : As.length = n) (hrest : (rest.map fun v => v.category).sum ≤ 8) (hc1 : ce ≤ mc) (hc2 : sl ≤ ms) (q : Nat) (hq : ws[q]? = some (a, .inr (ci, fs))) (hqc : vwCl[ci]? = some qc ∧ qc.1 = y2.cls) (st1 : List Value) (hs1 : v.toList ++ rest = st1) (k : VV l G y cc nL ret d mc ms av w0 post ce sl w1 (pc + 3) lv st1) : VV l G y cc nL ret d mc ms av w0 post ce sl ws pc lv st :=
  V_callVN hK hB hlk hd dg hst hn hrest ⟨hc1, hc2⟩ q hq hqc (List.range ws.length) [] (perm_all ws) (wr := []) rfl (nd_range _) rfl (fun _ h => absurd h List.not_mem_nil) (fun ro w hp => by obtain ⟨rfl, rfl⟩ := hp; subst hs1; exact k)
end VFr
section XFr
variable {l : Launch} {G : Gv} {y : MethodName} {cc : ByteArray} {nL : Nat} {ret : Option FieldType} {d mc ms : Nat} {av : List Value} {w0 : va_W} {tb : List ExceptionTableEntry} {oc : Nat ⊕ Option Value} {w9 : va_W → Prop} {ce sl : Nat} {ws : va_W} {pc : Nat} {lv : List (Nat × Value)} {st : List Value}
variable {y2 : MethodName} {cc2 : ByteArray} {nL2 : Nat} {ret2 : Option FieldType} {n d2 mc2 ms2 idx : Nat} {post2 : Option Value → va_W → Prop} {wc wr : va_W}
theorem X_st {st1 : List Value} (h : st = st1) (K : VX l G y cc nL ret d mc ms av w0 tb oc w9 ce sl ws pc lv st1) : VX l G y cc nL ret d mc ms av w0 tb oc w9 ce sl ws pc lv st := h ▸ K
theorem X_swap {w1 : va_W} (K : VX l G y cc nL ret d mc ms av w0 tb oc w9 ce sl (w1 ++ wr) pc lv st) : VX l G y cc nL ret d mc ms av w0 tb oc w9 ce sl (wr ++ w1) pc lv st := fun p e s m below meth c C H locs ls hP hD hS hl => K p e s m below meth c C H locs ls (hP.sub _ (va_sub_eq (perm_app (perm_r wr w1) (perm_l wr w1)))) (hD.sub _ (nd_swap _ _) (perm_app (perm_r wr w1) (perm_l wr w1))) hS hl
theorem X_cVg {a ci : Nat} {As rest : List Value} {qc : vw_C} {fs : List Value} (hK : K l G y2 cc2 nL2 ret2 d2 mc2 ms2 (.ref a :: As) ws post2) (hB : LB y2 cc2 nL2 ret2 n) (hlk : Cond.methodLink y.cls idx y2 ∈ tblG ∧ Cond.instanceMethod y2 ∈ tblG ∧ Cond.selects y2.cls y2 y2 ∈ tblG) (hd : d2 + 1 ≤ d) (dg : decode cc pc = .ok (.invokevirtual idx, 3)) (hst : st = As.reverse ++ .ref a :: rest) (hn : As.length = n) (hrest : (rest.map fun v => v.category).sum ≤ 8) (hcs : ce + mc2 ≤ mc ∧ sl + ms2 ≤ ms) (q : Nat) (hq : ws[q]? = some (a, .inr (ci, fs))) (hqc : vwCl[ci]? = some qc ∧ qc.1 = y2.cls) (k : ∀ (ro : Option Value) (w1 : va_W), post2 ro w1 → VX l G y cc nL ret d mc ms av w0 tb oc w9 (ce + mc2) (sl + ms2) w1 (pc + 3) lv (ro.toList ++ rest)) : VX l G y cc nL ret d mc ms av w0 tb oc w9 ce sl ws pc lv st :=
  X_callV hK hB hlk hd dg hst hn hrest hcs q hq hqc (List.range ws.length) [] (perm_all ws) (wr := []) rfl (nd_range _) rfl (fun _ h => absurd h List.not_mem_nil) (fun ro w hp => k ro w hp)
theorem X_cVf {a ci : Nat} {As rest : List Value} {qc : vw_C} {fs : List Value} {v : Option Value} {w1 : va_W} (hK : K l G y2 cc2 nL2 ret2 d2 0 0 (.ref a :: As) wc (pD v w1)) (hB : LB y2 cc2 nL2 ret2 n) (hlk : Cond.methodLink y.cls idx y2 ∈ tblG ∧ Cond.instanceMethod y2 ∈ tblG ∧ Cond.selects y2.cls y2 y2 ∈ tblG) (hd : d2 + 1 ≤ d) (dg : decode cc pc = .ok (.invokevirtual idx, 3)) (hst : st = As.reverse ++ .ref a :: rest) (hn : As.length = n) (hrest : (rest.map fun v => v.category).sum ≤ 8) (hc1 : ce ≤ mc) (hc2 : sl ≤ ms) (q : Nat) (hq : wc[q]? = some (a, .inr (ci, fs))) (hqc : vwCl[ci]? = some qc ∧ qc.1 = y2.cls) (st1 : List Value) (hs1 : v.toList ++ rest = st1) (k : VX l G y cc nL ret d mc ms av w0 tb oc w9 ce sl (w1 ++ wr) (pc + 3) lv st1) : VX l G y cc nL ret d mc ms av w0 tb oc w9 ce sl (wc ++ wr) pc lv st :=
  X_callV hK hB hlk hd dg hst hn hrest ⟨hc1, hc2⟩ q hq hqc (List.range wc.length) (shf wc.length wr.length) (perm_l wc wr) (perm_r wc wr) (nd_range _) (nd_of (shf_nodup _ _)) (dis_l _ _) (fun ro w hp => by obtain ⟨rfl, rfl⟩ := hp; subst hs1; exact X_swap k)
theorem X_callVN {a ci : Nat} {host : String} {As rest : List Value} {qc : vw_C} {fs : List Value} (hK : K l G y2 cc2 nL2 ret2 d2 mc2 ms2 (.ref a :: As) wc post2) (hB : LB y2 cc2 nL2 ret2 n) (hlk : Cond.methodLinkNest y.cls idx y2 host ∈ nestL ∧ Cond.instanceMethod y2 ∈ tblG ∧ Cond.selects y2.cls y2 y2 ∈ tblG) (hd : d2 + 1 ≤ d) (dg : decode cc pc = .ok (.invokevirtual idx, 3)) (hst : st = As.reverse ++ .ref a :: rest) (hn : As.length = n) (hrest : (rest.map fun v => v.category).sum ≤ 8) (hcs : ce + mc2 ≤ mc ∧ sl + ms2 ≤ ms) (q : Nat) (hq : wc[q]? = some (a, .inr (ci, fs))) (hqc : vwCl[ci]? = some qc ∧ qc.1 = y2.cls)
    (isC isR : List Nat) (hC : va_perm ws isC wc) (hRr : va_perm ws isR wr) (hndC : va_nd isC = true) (hnd : va_nd isR = true) (hdis : ∀ i ∈ isR, i ∉ isC)
    (k : ∀ (ro : Option Value) (w1 : va_W), post2 ro w1 → VX l G y cc nL ret d mc ms av w0 tb oc w9 (ce + mc2) (sl + ms2) (wr ++ w1) (pc + 3) lv (ro.toList ++ rest)) : VX l G y cc nL ret d mc ms av w0 tb oc w9 ce sl ws pc lv st := by
  intro p e s m below meth c C H locs ls hP hD hS hl
  subst hst
  have hPc := hP.sub (ws' := wc) isC (va_sub_eq hC)
  have hFc := va_free (wc := wc) hD hS (fun q h => Or.inr h) isC hC
  have hDc : va_D (fun _ => True) wc := (hD.sub isC hndC hC).weaken (fun _ _ _ _ => trivial)
  have hR2 : 60 * d2 + 60 ≤ (rmG d mc ms).locals := by show 60 * d2 + 60 ≤ 60 * d; omega
  have hR3 : 8 + (nL2 + 11) + 60 * d2 ≤ (rmG d mc ms).locals := by have := hB.2.2.1; omega
  refine va_callK (va_runVN (As := As) (rest := rest) C.1.1 (hK H.size) ⟨va_cnB n C.1.1.2.2.2.2 hB.ws rfl rfl rfl (C.1.2.1.2 _ hlk.1) (C.1.1.2.2.2.2 _ hB.2.1) hB.2.2.2 ⟨hd, hR3⟩, C.1.1.2.2.2.2 _ hlk.2.1, C.1.1.2.2.2.2 _ hlk.2.2⟩ ⟨KB_blind, hqc.2 ▸ va_recv C.1.2.1.1 hPc hqc.1 hq, fun U hU hW => ⟨rfl, by rw [hU], by rw [hU]; exact hPc, va_K.moved hW.alike C.1.2.1.1, hDc, NN_warm hW C.1.2.1.2⟩⟩ rfl hn (hl.1) rfl (lv_room hrest) dg hcs) hS hFc (fun ro w1 H1 locs1 hp hP1 hD1 hk1 hS1 => ?_)
  obtain ⟨hP2, hD2⟩ := va_join (wr := wr) (w1 := w1) hP hD isC isR hC hRr hnd hdis hk1 hFc hP1 hD1
  exact k ro w1 hp p e s m below meth c C H1 locs1 ls hP2 hD2 hS1 hl
theorem X_cVN {a ci : Nat} {host : String} {As rest : List Value} {qc : vw_C} {fs : List Value} {v : Option Value} {w1 : va_W} (hK : K l G y2 cc2 nL2 ret2 d2 0 0 (.ref a :: As) ws (pD v w1)) (hB : LB y2 cc2 nL2 ret2 n) (hlk : Cond.methodLinkNest y.cls idx y2 host ∈ nestL ∧ Cond.instanceMethod y2 ∈ tblG ∧ Cond.selects y2.cls y2 y2 ∈ tblG) (hd : d2 + 1 ≤ d) (dg : decode cc pc = .ok (.invokevirtual idx, 3)) (hst : st = As.reverse ++ .ref a :: rest) (hn : As.length = n) (hrest : (rest.map fun v => v.category).sum ≤ 8) (hc1 : ce ≤ mc) (hc2 : sl ≤ ms) (q : Nat) (hq : ws[q]? = some (a, .inr (ci, fs))) (hqc : vwCl[ci]? = some qc ∧ qc.1 = y2.cls) (st1 : List Value) (hs1 : v.toList ++ rest = st1) (k : VX l G y cc nL ret d mc ms av w0 tb oc w9 ce sl w1 (pc + 3) lv st1) : VX l G y cc nL ret d mc ms av w0 tb oc w9 ce sl ws pc lv st :=
  X_callVN hK hB hlk hd dg hst hn hrest ⟨hc1, hc2⟩ q hq hqc (List.range ws.length) [] (perm_all ws) (wr := []) rfl (nd_range _) rfl (fun _ h => absurd h List.not_mem_nil) (fun ro w hp => by obtain ⟨rfl, rfl⟩ := hp; subst hs1; exact k)
end XFr
