/-! ===== further rules; the worlds of the saved states ===== -/
theorem mx_s : Cond.static Lib.Math.max.name ∈ tblG := tin 799 (by decide +kernel) (by decide +kernel)
theorem mx_i : Cond.initialized "java/lang/Math" ∈ tblG := tin 20 (by decide +kernel) (by decide +kernel)
theorem mx_c : Cond.code Lib.Math.max.name Lib.Math.max.code 2 (some .int) ∈ tblG := tin 800 (by decide +kernel) (by decide +kernel)
theorem ac_s : Cond.static arraycopyName ∈ tblG := tin 492 (by decide +kernel) (by decide +kernel)
theorem ac_n : Cond.native arraycopyName ∈ tblG := tin 493 (by decide +kernel) (by decide +kernel)
theorem ac_i : Cond.initialized "java/lang/System" ∈ tblG := tin 15 (by decide +kernel) (by decide +kernel)
theorem va_ext {D : va_G} {cl : List vw_C} {ws : va_W} {H : Heap} {q a n : Nat} {cA : ClassId} {f g : Nat → Int32} (hq : q < ws.length) (hfg : ∀ j, j < n → f j = g j) (h : va_P D cl (ws.set q (a, .inl (cA, n, .inl f))) H) : va_P D cl (ws.set q (a, .inl (cA, n, .inl g))) H := by
  intro k x hk
  by_cases e : k = q
  · subst e
    rw [List.getElem?_set_self hq] at hk
    cases hk
    have h1 := h k (a, .inl (cA, n, .inl f)) (List.getElem?_set_self hq)
    show H[a]? = some (vp_cell cA (n, .inl g))
    have h2 : H[a]? = some (vp_cell cA (n, .inl f)) := h1
    rw [h2, vp_cell_i, vp_cell_i]
    congr 1
    simp only [arrV]
    congr 2
    funext j
    rw [hfg j.val j.isLt]
  · rw [List.getElem?_set_ne (Ne.symm e)] at hk
    exact h k x (by rw [List.getElem?_set_ne (Ne.symm e)]; exact hk)
theorem va_D_any {A : Nat → Prop} {ws : va_W} {q a : Nat} {e1 e2 : va_E} (hq : q < ws.length) (h : va_D A (ws.set q (a, e1))) : va_D A (ws.set q (a, e2)) := by
  have h2 := h.set (e := e2) (p := q) (a := a) (e0 := e1) (List.getElem?_set_self hq)
  rwa [List.set_set] at h2
section VE
variable {l : Launch} {G : Gv} {y : MethodName} {cc : ByteArray} {nL : Nat} {ret : Option FieldType} {d mc ms : Nat} {av : List Value} {w0 : va_W} {post : Option Value → va_W → Prop} {ce sl : Nat} {ws : va_W} {pc : Nat} {lv : List (Nat × Value)} {st : List Value}
theorem V_max {idx : Nat} {x z : Int32} (hlk : Cond.methodLink y.cls idx Lib.Math.max.name ∈ tblG) (hd : 1 ≤ d) (dg : decode cc pc = .ok (.invokestatic idx, 3)) (hrest : (st.map fun v => v.category).sum ≤ 8) (hc1 : ce ≤ mc) (hc2 : sl ≤ ms) (K : VV l G y cc nL ret d mc ms av w0 post ce sl ws (pc + 3) lv (.int (if x < z then z else x) :: st)) : VV l G y cc nL ret d mc ms av w0 post ce sl ws pc lv (.int z :: .int x :: st) := fun p e s m below meth c C H locs ls hP hD hS hl => va_mmax C.1.1 C.1.2.1 (C.1.2.2.1.trans hl.1.symm) C.1.2.2.2.1 (C.1.2.2.2.2 _ hlk) (C.1.2.2.2.2 _ mx_s) (C.1.2.2.2.2 _ mx_i) (C.1.2.2.2.2 _ mx_c) (by show 1 ≤ d; exact hd) (by show _ + 13 ≤ 60 * d; omega) hc1 hc2 dg (K p e s m below meth c C H locs ls hP hD hS hl)
theorem V_copyAll {idx a0 a1 N : Nat} {f g : Nat → Int32} {n : Int32} (hlk : Cond.methodLink y.cls idx arraycopyName ∈ tblG) (dg : decode cc pc = .ok (.invokestatic idx, 3)) (q0 : Nat) (h0 : ws[q0]? = some (a0, .inl (G.2.1, N, .inl f))) (q1 : Nat) (h1 : ws[q1]? = some (a1, .inl (G.2.1, N, .inl g))) (hn : ¬ n < 0) (hN : n.toNatClampNeg = N) (hd : 1 ≤ d) (hrest : (st.map fun v => v.category).sum ≤ 8) (ws1 : va_W) (hw : ws.set q1 (a1, .inl (G.2.1, N, .inl f)) = ws1) (K : VV l G y cc nL ret d mc ms av w0 post ce sl ws1 (pc + 3) lv st) : VV l G y cc nL ret d mc ms av w0 post ce sl ws pc lv (.int n :: .int 0 :: .ref a1 :: .int 0 :: .ref a0 :: st) := by
  intro p e s m below meth c C H locs ls hP hD hS hl
  have z0 : (0 : Int32).toNatClampNeg = 0 := by decide
  have hnw : nativeFrameWords "java/lang/System" "arraycopy" 5 = 7 := by decide
  have hq1 : q1 < ws.length := (List.getElem?_eq_some_iff.mp h1).1
  refine va_copyi C.1.1 C.1.2.1 (C.1.2.2.1.trans hl.1.symm) C.1.2.2.2.1 (C.1.2.2.2.2 _ hlk) (C.1.2.2.2.2 _ ac_n) (C.1.2.2.2.2 _ ac_s) (C.1.2.2.2.2 _ ac_i) C.2.1.1 hP hD hS q0 q1 0 0 h0 h1 rfl rfl rfl (by decide) (by decide) hn (by rw [z0, hN]; omega) (by rw [z0, hN]; omega) (fun i _ => rfl) (by show 1 ≤ d; exact hd) (by rw [hnw]; show _ + (7 + 11) ≤ 60 * d; omega) dg (fun H1 locs1 hP1 hD1 hS1 => ?_)
  subst hw
  refine K p e s m below meth c C H1 locs1 ls (va_ext hq1 (fun j hj => ?_) hP1) (va_D_any hq1 hD1) hS1 hl
  rw [z0, hN]
  simp only [va_cpy]
  rw [if_pos ⟨Nat.zero_le _, by omega⟩]
  congr 1
  omega
theorem V_aaload {a n : Nat} {f : Nat → Option Nat} {i : Int32} (dg : decode cc pc = .ok (.aaload, 1)) (q : Nat) (he : ws[q]? = some (a, .inl (G.2.2.1, n, .inr (.inr (.inr (.inr f)))))) (hi : vp_in i n) (K : VV l G y cc nL ret d mc ms av w0 post ce sl ws (pc + 1) lv (va_rf (f i.toNatClampNeg) :: st)) : VV l G y cc nL ret d mc ms av w0 post ce sl ws pc lv (.int i :: .ref a :: st) := fun p e s m below meth c C H locs ls hP hD hS hl => va_aldq (D := G.1) C.1.1 C.1.2.1 C.2.1.1 hP q 1 he rfl hi dg (K p e s m below meth c C H locs ls hP hD hS hl)
theorem V_aastore {a n v ci : Nat} {vs : List Value} {f : Nat → Option Nat} {i : Int32} (dg : decode cc pc = .ok (.aastore, 1)) (q : Nat) (he : ws[q]? = some (a, .inl (G.2.2.1, n, .inr (.inr (.inr (.inr f)))))) (hi : vp_in i n) (qk : Nat) (hv : ws[qk]? = some (v, .inr (ci, vs))) (hci : ci = 5) (ws1 : va_W) (h1 : ws.set q (a, .inl (G.2.2.1, n, .inr (.inr (.inr (.inr (va_up f i.toNatClampNeg (some v))))))) = ws1) (K : VV l G y cc nL ret d mc ms av w0 post ce sl ws1 (pc + 1) lv st) : VV l G y cc nL ret d mc ms av w0 post ce sl ws pc lv (.ref v :: .int i :: .ref a :: st) := fun p e s m below meth c C H locs ls hP hD hS hl => va_astq (D := G.1) (r := (RX7, TX7, 6)) C.1.1 C.1.2.1 C.2.1.1 hP hD hS q 1 qk ci he rfl hv (by rw [hci]; rfl) hi dg (fun H1 locs1 hP1 hD1 hS1 => K p e s m below meth c C H1 locs1 ls (h1 ▸ hP1) (h1 ▸ hD1) hS1 hl)
theorem V_ifnonnull {x : Nat} {off : Int} (tgt : Nat) (dg : decode cc pc = .ok (.ifnonnull off, 3)) (ht : (pc : Int) + off = (tgt : Int)) (K : VV l G y cc nL ret d mc ms av w0 post ce sl ws tgt lv st) : VV l G y cc nL ret d mc ms av w0 post ce sl ws pc lv (.ref x :: st) := fun p e s m below meth c C H locs ls hP hD hS hl => lv_ifnonnull C.1.1 C.1.2.1 dg ht (K p e s m below meth c C H locs ls hP hD hS hl)
theorem V_ifnonnullN {off : Int} (dg : decode cc pc = .ok (.ifnonnull off, 3)) (K : VV l G y cc nL ret d mc ms av w0 post ce sl ws (pc + 3) lv st) : VV l G y cc nL ret d mc ms av w0 post ce sl ws pc lv (.null :: st) := fun p e s m below meth c C H locs ls hP hD hS hl => lv_ifnonnullN C.1.1 C.1.2.1 dg (K p e s m below meth c C H locs ls hP hD hS hl)
theorem V_ifnull {x : Nat} {off : Int} (dg : decode cc pc = .ok (.ifnull off, 3)) (K : VV l G y cc nL ret d mc ms av w0 post ce sl ws (pc + 3) lv st) : VV l G y cc nL ret d mc ms av w0 post ce sl ws pc lv (.ref x :: st) := fun p e s m below meth c C H locs ls hP hD hS hl => lv_ifnull C.1.1 C.1.2.1 dg (K p e s m below meth c C H locs ls hP hD hS hl)
theorem V_aload_nN {j : Fin 4} {i : Nat} (k : Nat) (h : lv[k]? = some (i, .null)) (dg : decode cc pc = .ok (.aload_n j, 1)) (hi : (j : Nat) = i) (K : VV l G y cc nL ret d mc ms av w0 post ce sl ws (pc + 1) lv (.null :: st)) : VV l G y cc nL ret d mc ms av w0 post ce sl ws pc lv st := fun p e s m below meth c C H locs ls hP hD hS hl => lv_aload_nN C.1.1 C.1.2.1 dg hi (lv_at hl k h) (K p e s m below meth c C H locs ls hP hD hS hl)
theorem V_astore_nN {j : Fin 4} {i : Nat} (lv1 : List (Nat × Value)) (ks : List Nat) (dg : decode cc pc = .ok (.astore_n j, 1)) (hi : (j : Nat) = i) (hn : i < nL) (h1 : lv_pick ((i, Value.null) :: lv.filter (fun q => !(q.1 == i) && !(q.1 + 1 == i && q.2.category == 2))) ks = lv1) (K : VV l G y cc nL ret d mc ms av w0 post ce sl ws (pc + 1) lv1 st) : VV l G y cc nL ret d mc ms av w0 post ce sl ws pc lv (.null :: st) := fun p e s m below meth c C H locs ls hP hD hS hl => lv_astore_nN C.1.1 C.1.2.1 dg hi hl hn rfl (fun ls1 hl1 => K p e s m below meth c C H locs ls1 hP hD hS (lv_sub hl1 ks h1))
theorem V_new {ci : Nat} {C1 : String} {T : u_T} {N : Nat} {ty : Nat → FieldType} {idx : Nat} (fs : List Value) (hc : RC ci C1 T N ty) (hcl : Cond.classLink y.cls idx C1 ∈ tblG) (hin : Cond.instantiable C1 N ∈ tblG) (hini : Cond.initialized C1 ∈ tblG) (hfs : ∀ j, j < N → defaultValue (ty j) = vp_V fs j) (hc1 : ce + 1 ≤ mc) (hc2 : sl + N ≤ ms) (dg : decode cc pc = .ok (.new idx, 3)) (K : ∀ q : Nat, VV l G y cc nL ret d mc ms av w0 post (ce + 1) (sl + N) (ws ++ [(q, .inr (ci, fs))]) (pc + 3) lv (.ref q :: st)) : VV l G y cc nL ret d mc ms av w0 post ce sl ws pc lv st := fun p e s m below meth c C H locs ls hP hD hS hl => va_new (D := G.1) C.1.1 C.1.2.1 C.1.2.2.2.2 hc.2.1 ty hc.2.2.1 C.1.2.2.2.1 (C.1.2.2.2.2 _ hcl) (C.1.2.2.2.2 _ hin) (C.1.2.2.2.2 _ hini) C.2.1.1 hP hD hS (fun q h => Or.inr h) hc.1 hfs hc1 hc2 dg (fun q H1 hP1 hD1 hS1 => K q p e s m below meth c C H1 locs ls hP1 hD1 hS1 hl)
theorem V_newI {n : Int32} {N : Nat} (hai : Cond.arrayClass .int ∈ tblG) (hn : ¬ n < 0) (hN : n.toNatClampNeg = N) (hb : N ≤ 134217728) (hc1 : ce + 1 ≤ mc) (hc2 : sl + N ≤ ms) (dg : decode cc pc = .ok (.newarray .int, 2)) (K : ∀ q : Nat, VV l G y cc nL ret d mc ms av w0 post (ce + 1) (sl + N) (ws ++ [(q, .inl (G.2.1, N, .inl (fun _ => 0)))]) (pc + 2) lv (.ref q :: st)) : VV l G y cc nL ret d mc ms av w0 post ce sl ws pc lv (.int n :: st) := fun p ev s m below meth c C H locs ls hP hD hS hl => va_newa (atype := .int) (ty := .int) (D := G.1) (a0 := (N, .inl (fun _ => 0))) C.1.1 C.1.2.1 (C.1.2.2.2.2 _ hai) rfl C.2.1.1 hP hD hS (fun q h => Or.inr h) (fun cA => rfl) hn hN (by show N * 4 ≤ 536870912; omega) hc1 hc2 dg (fun q cA H1 hK1 hP1 hD1 hS1 => by
  have e1 := (hK1.2 0 _ rfl).2
  have e2 := (hK1.2 3 _ rfl).2
  have e : cA = G.2.1 := Option.some.inj ((show s.vm.findClass ("[" ++ FieldType.int.toString) = some cA from e2).symm.trans (show s.vm.findClass ("[" ++ FieldType.int.toString) = some G.2.1 from e1))
  subst e
  exact K q p ev s m below meth c C H1 locs ls hP1 hD1 hS1 hl)
theorem V_newT {n : Int32} {N idx : Nat} (hcl : Cond.classLink y.cls idx RX7 ∈ tblG) (hn : ¬ n < 0) (hN : n.toNatClampNeg = N) (hb : N ≤ 134217728) (hc1 : ce + 1 ≤ mc) (hc2 : sl + N ≤ ms) (dg : decode cc pc = .ok (.anewarray idx, 3)) (K : ∀ q : Nat, VV l G y cc nL ret d mc ms av w0 post (ce + 1) (sl + N) (ws ++ [(q, .inl (G.2.2.1, N, .inr (.inr (.inr (.inr (fun _ => none))))))]) (pc + 3) lv (.ref q :: st)) : VV l G y cc nL ret d mc ms av w0 post ce sl ws pc lv (.int n :: st) := fun p ev s m below meth c C H locs ls hP hD hS hl => va_newq (C := RX7) (D := G.1) C.1.1 C.1.2.1 C.1.2.2.2.1 (C.1.2.2.2.2 _ hcl) (C.2.1.2 _ (by decide +kernel)) C.2.1.1 hP hD hS (fun q h => Or.inr h) hn hN (by omega) hc1 hc2 dg (fun q cA H1 hK1 hP1 hD1 hS1 => by
  obtain ⟨-, -, -, -, -, e1⟩ := (hK1.2 1 _ rfl).2
  obtain ⟨-, -, -, -, -, e2⟩ := (hK1.2 3 _ rfl).2
  have e : cA = G.2.2.1 := Option.some.inj (e2.symm.trans e1)
  subst e
  exact K q p ev s m below meth c C H1 locs ls hP1 hD1 hS1 hl)
theorem V_objInit {idx a : Nat} (hlk : Cond.methodLink y.cls idx objectInit ∈ tblG) (hin : Cond.instanceMethod objectInit ∈ tblG) (hco : Cond.code objectInit ⟨#[0xb1]⟩ 1 none ∈ tblG) (hd : 1 ≤ d) (hrest : (st.map fun v => v.category).sum ≤ 8) (dg : decode cc pc = .ok (.invokespecial idx, 3)) (K : VV l G y cc nL ret d mc ms av w0 post ce sl ws (pc + 3) lv st) : VV l G y cc nL ret d mc ms av w0 post ce sl ws pc lv (.ref a :: st) := fun p e s m below meth c C H locs ls hP hD hS hl => W.objInit C.1.1 C.1.2.1 C.1.2.2.2.1 (C.1.2.2.2.2 _ hlk) (C.1.2.2.2.2 _ hin) (C.1.2.2.2.2 _ hco) rfl (hl.1.trans C.1.2.2.1.symm) rfl dg (by show 1 ≤ d; exact hd) (by show 2 * 0 + _ + 12 ≤ 60 * d; omega) (K p e s m below meth c C H locs ls hP hD hS hl)
theorem V_perm {ws1 : va_W} (is : List Nat) (hn : va_nd is = true) (hs : va_perm ws is ws1) (K : VV l G y cc nL ret d mc ms av w0 post ce sl ws1 pc lv st) : VV l G y cc nL ret d mc ms av w0 post ce sl ws pc lv st := fun p e s m below meth c C H locs ls hP hD hS hl => K p e s m below meth c C H locs ls (hP.sub is (va_sub_eq hs)) (hD.sub is hn hs) hS hl
end VE
theorem oi_m : Cond.instanceMethod objectInit ∈ tblG := tin 27 (by decide +kernel) (by decide +kernel)
theorem oi_c : Cond.code objectInit ⟨#[0xb1]⟩ 1 none ∈ tblG := tin 28 (by decide +kernel) (by decide +kernel)
theorem ai_m : Cond.arrayClass .int ∈ tblG := tin 48 (by decide +kernel) (by decide +kernel)
/-- a table: the cells 1 .. 10 of the class -/
def wT (G : Gv) (ad : Nat → Nat) (σ : St) : va_W := [(ad 1, .inr (5, [.ref (ad 2), .ref (ad 4), .ref (ad 7), .ref (ad 8), .ref (ad 9), .ref (ad 10)])),
  (ad 2, .inr (1, [.ref (ad 3), .int (gi σ 1)])),
  (ad 3, .inl (G.2.1, 30, .inl (ga σ 0))),
  (ad 4, .inr (0, [.ref (ad 5), .ref (ad 6), .long (gl σ 0)])),
  (ad 5, .inl (G.2.1, 64, .inl (ga σ 1))),
  (ad 6, .inl (G.2.1, 64, .inl (ga σ 2))),
  (ad 7, .inl (G.2.1, 8, .inl (ga σ 3))),
  (ad 8, .inl (G.2.1, 8, .inl (ga σ 4))),
  (ad 9, .inl (G.2.1, 2, .inl (ga σ 5))),
  (ad 10, .inl (G.2.1, 2, .inl (ga σ 6)))]
abbrev Tb : Type := (Nat → Nat) × St
def wTs (G : Gv) : List Tb → va_W
  | [] => []
  | q :: r => wT G q.1 q.2 ++ wTs G r
def hF (ts : List Tb) : Nat → Option Nat := fun i => (ts[i]?).map (fun q => q.1 1)
/-- the saved states: the history's cell, its array, the tables made so far -/
def wH (G : Gv) (ad : Nat → Nat) (o c : Int32) (ts : List Tb) : va_W := [(ad 13, .inr (3, [.ref (ad 14), .int o, .int c])), (ad 14, .inl (G.2.2.1, 4, .inr (.inr (.inr (.inr (hF ts))))))] ++ wTs G ts
/-! ===== copies of tables, the endgame ===== -/
