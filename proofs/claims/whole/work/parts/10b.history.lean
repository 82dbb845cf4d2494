theorem LB_X3_placeOf : LB yX3_placeOf cX3_placeOf 2 (some .int) 1 := ⟨tin 481 (by decide +kernel) (by decide +kernel), tin 7 (by decide +kernel) (by decide +kernel), by decide, by decide, by decide, by decide +kernel⟩
theorem lk_X3_22 : Cond.methodLink RX3 22 yX3_placeOf ∈ tblG ∧ Cond.instanceMethod yX3_placeOf ∈ tblG ∧ Cond.selects yX3_placeOf.cls yX3_placeOf yX3_placeOf ∈ tblG := ⟨tin 478 (by decide +kernel) (by decide +kernel), tin 480 (by decide +kernel) (by decide +kernel), tsel (q := (yX3_placeOf, 3)) (List.mem_of_getElem? (i := 10) (by decide +kernel))⟩
theorem LB_X7_copyFrom : LB yX7_copyFrom cX7_copyFrom 2 none 1 := ⟨tin 486 (by decide +kernel) (by decide +kernel), tin 2 (by decide +kernel) (by decide +kernel), by decide, by decide, by decide, by decide +kernel⟩
theorem lk_X3_27 : Cond.methodLink RX3 27 yX7_copyFrom ∈ tblG ∧ Cond.instanceMethod yX7_copyFrom ∈ tblG ∧ Cond.selects yX7_copyFrom.cls yX7_copyFrom yX7_copyFrom ∈ tblG := ⟨tin 483 (by decide +kernel) (by decide +kernel), tin 484 (by decide +kernel) (by decide +kernel), tin 485 (by decide +kernel) (by decide +kernel)⟩
theorem lk_X3_26 : Cond.methodLink RX3 26 yX7_init ∈ tblG ∧ Cond.instanceMethod yX7_init ∈ tblG ∧ yX7_init.name = "<init>" := ⟨tin 482 (by decide +kernel) (by decide +kernel), tin 32 (by decide +kernel) (by decide +kernel), rfl⟩
/-! ===== the history ===== -/
theorem vaD_pw {A : Nat → Prop} {ws : va_W} : va_D A ws ↔ ws.Pairwise (fun p q => p.1 ≠ q.1) ∧ ∀ q ∈ ws, A q.1 := by
  constructor
  · intro h
    refine ⟨List.pairwise_iff_getElem.mpr fun i j hi hj hij e => ?_, fun q hq => ?_⟩
    · have h1 := h.1 i j _ _ (List.getElem?_eq_getElem hi) (List.getElem?_eq_getElem hj) e
      omega
    · obtain ⟨k, hk⟩ := List.getElem?_of_mem hq
      exact h.2 k q hk
  · intro h
    refine ⟨fun i j p q hi hj e => ?_, fun k q hk => h.2 q (List.mem_of_getElem? hk)⟩
    obtain ⟨hi1, hi2⟩ := List.getElem?_eq_some_iff.mp hi
    obtain ⟨hj1, hj2⟩ := List.getElem?_eq_some_iff.mp hj
    subst hi2
    subst hj2
    rcases Nat.lt_or_ge i j with hlt | hge
    · exact absurd e (List.pairwise_iff_getElem.mp h.1 i j hi1 hj1 hlt)
    · rcases Nat.lt_or_ge j i with hlt | hge2
      · exact absurd e.symm (List.pairwise_iff_getElem.mp h.1 j i hj1 hi1 hlt)
      · omega
theorem vaP_perm {D : va_G} {cl : List vw_C} {a b : va_W} {H : Heap} (h : List.Perm a b) (hP : va_P D cl a H) : va_P D cl b H := fun k q hk => by
  obtain ⟨j, hj⟩ := List.getElem?_of_mem (h.mem_iff.mpr (List.mem_of_getElem? hk))
  exact hP j q hj
theorem vaD_perm {A : Nat → Prop} {a b : va_W} (h : List.Perm a b) (hD : va_D A a) : va_D A b := by
  obtain ⟨h1, h2⟩ := vaD_pw.mp hD
  exact vaD_pw.mpr ⟨h.pairwise h1 (fun h e => h e.symm), fun q hq => h2 q (h.mem_iff.mpr hq)⟩
theorem perm7 {α : Type} (A M B H T Q S : List α) : List.Perm ((A ++ (M ++ B)) ++ (H ++ (T ++ (Q ++ S)))) ((Q ++ M) ++ (A ++ (B ++ (H ++ (T ++ S))))) := by
  have h1 : List.Perm (A ++ (M ++ B)) (M ++ (A ++ B)) := List.perm_append_comm_assoc A M B
  have h2 : List.Perm (T ++ (Q ++ S)) (Q ++ (T ++ S)) := List.perm_append_comm_assoc T Q S
  have h3 : List.Perm (H ++ (T ++ (Q ++ S))) (Q ++ (H ++ (T ++ S))) := (h2.append_left H).trans (List.perm_append_comm_assoc H Q (T ++ S))
  have h4 := (h1.append h3).trans (List.perm_append_comm_assoc (M ++ (A ++ B)) Q (H ++ (T ++ S)))
  simpa only [List.append_assoc] using h4
theorem perm7b {α : Type} (A M B H T Q S : List α) : List.Perm ((A ++ (M ++ B)) ++ (H ++ (T ++ (Q ++ S)))) ((M ++ Q) ++ (A ++ (B ++ (H ++ (T ++ S))))) := (perm7 A M B H T Q S).trans (List.Perm.append_right _ List.perm_append_comm)
theorem wTs_app (G : Gv) : ∀ (a b : List Tb), wTs G (a ++ b) = wTs G a ++ wTs G b
  | [], b => rfl
  | q :: a, b => by
    show wT G q.1 q.2 ++ wTs G (a ++ b) = (wT G q.1 q.2 ++ wTs G a) ++ wTs G b
    rw [wTs_app G a b, List.append_assoc]
/-- the class's cells about its table, and the history's, one saved table apart -/
def w0A (ad : Nat → Nat) (σ : St) : va_W := [(ad 0, .inr (6, [.int (gi σ 0), .ref (ad 1), .ref (ad 11), .ref (ad 12), .ref (ad 13)]))]
def wBB (ad : Nat → Nat) (σ : St) : va_W := [(ad 11, .inr (4, [.ref (ad 1)])), (ad 12, .inr (2, [.ref (ad 1), .ref (ad 11), .int (gi σ 2)]))]
def wHH (G : Gv) (ad : Nat → Nat) (o c : Int32) (ts : List Tb) : va_W := [(ad 13, .inr (3, [.ref (ad 14), .int o, .int c])), (ad 14, .inl (G.2.2.1, 4, .inr (.inr (.inr (.inr (hF ts))))))]
theorem wA_split (G : Gv) (ad : Nat → Nat) (σ : S2) (t1 t2 : List Tb) (q : Tb) : wA G ad σ (t1 ++ q :: t2) = (w0A ad σ.1 ++ (wT G ad σ.1 ++ wBB ad σ.1)) ++ (wHH G ad σ.2.1 σ.2.2.1 (t1 ++ q :: t2) ++ (wTs G t1 ++ (wT G q.1 q.2 ++ wTs G t2))) := by
  show wC G ad σ.1 ++ (wHH G ad σ.2.1 σ.2.2.1 (t1 ++ q :: t2) ++ wTs G (t1 ++ q :: t2)) = _
  rw [wTs_app]
  rfl
def restA (G : Gv) (ad : Nat → Nat) (σ : S2) (t1 t2 : List Tb) (q : Tb) : va_W := w0A ad σ.1 ++ (wBB ad σ.1 ++ (wHH G ad σ.2.1 σ.2.2.1 (t1 ++ q :: t2) ++ (wTs G t1 ++ wTs G t2)))
theorem wA_p1 (G : Gv) (ad : Nat → Nat) (σ : S2) (t1 t2 : List Tb) (q : Tb) : List.Perm (wA G ad σ (t1 ++ q :: t2)) ((wT G q.1 q.2 ++ wT G ad σ.1) ++ restA G ad σ t1 t2 q) := by
  rw [wA_split]
  exact perm7 _ _ _ _ _ _ _
theorem wA_p2 (G : Gv) (ad : Nat → Nat) (σ : S2) (t1 t2 : List Tb) (q : Tb) : List.Perm (wA G ad σ (t1 ++ q :: t2)) ((wT G ad σ.1 ++ wT G q.1 q.2) ++ restA G ad σ t1 t2 q) := by
  rw [wA_split]
  exact perm7b _ _ _ _ _ _ _
theorem hF_set (t1 t2 : List Tb) (q q2 : Tb) (e : q.1 = q2.1) : hF (t1 ++ q :: t2) = hF (t1 ++ q2 :: t2) := by
  funext i
  unfold hF
  rcases Nat.lt_or_ge i t1.length with h | h
  · rw [List.getElem?_append_left h, List.getElem?_append_left h]
  · rw [List.getElem?_append_right h, List.getElem?_append_right h]
    cases hi : i - t1.length with
    | zero => simp [e]
    | succ k => simp
theorem restA_set (G : Gv) (ad : Nat → Nat) (σ : S2) (t1 t2 : List Tb) (q q2 : Tb) (e : q.1 = q2.1) : restA G ad σ t1 t2 q = restA G ad σ t1 t2 q2 := by
  unfold restA wHH
  rw [hF_set t1 t2 q q2 e]
section VHi
variable {l : Launch} {G : Gv} {y : MethodName} {cc : ByteArray} {nL : Nat} {ret : Option FieldType} {d mc ms : Nat} {av : List Value} {w0 : va_W} {post : Option Value → va_W → Prop} {ce sl : Nat} {ws ws1 : va_W} {pc : Nat} {lv : List (Nat × Value)} {st : List Value}
theorem V_lperm (h : List.Perm ws ws1) (K : VV l G y cc nL ret d mc ms av w0 post ce sl ws1 pc lv st) : VV l G y cc nL ret d mc ms av w0 post ce sl ws pc lv st := fun p e s m below meth c C H locs ls hP hD hS hl => K p e s m below meth c C H locs ls (vaP_perm h hP) (vaD_perm h hD) hS hl
theorem V_ifnullN {off : Int} (tgt : Nat) (dg : decode cc pc = .ok (.ifnull off, 3)) (ht : (pc : Int) + off = (tgt : Int)) (K : VV l G y cc nL ret d mc ms av w0 post ce sl ws tgt lv st) : VV l G y cc nL ret d mc ms av w0 post ce sl ws pc lv (.null :: st) := fun p e s m below meth c C H locs ls hP hD hS hl => lv_ifnullN C.1.1 C.1.2.1 dg ht (K p e s m below meth c C H locs ls hP hD hS hl)
end VHi
def f_X3_size (σ : S2) : Option Int32 := some σ.2.2.1
def f_X3_placeOf (σ : S2) (x1 : Int32) : Option Int32 := some ((σ.2.1 + x1) - (σ.2.1 + x1) / 4 * 4)
set_option maxHeartbeats 4000000 in
set_option maxRecDepth 100000 in
theorem k_X3_size {l : Launch} {G : Gv} {ad : Nat → Nat} {d : Nat} {σ : S2} {ts : List Tb} {q : Int32} (hd : 0 ≤ d) (hf : f_X3_size σ = some q) : K l G yX3_size cX3_size 1 (some .int) d 0 0 [.ref (ad 13)] (wA G ad σ ts) (pD (some (.int q)) (wA G ad σ ts)) := K_intro (by decide) (Nat.le_of_ble_eq_true rfl) (by
  cases hf
  refine V_aload_n 0 rfl dX3_size_0 rfl ?_
  refine V_get (k := 2) RC_X3 fl_X3_19 rfl (by decide) dX3_size_1 13 rfl rfl ?_
  exact V_iret rfl dX3_size_4 ⟨rfl, rfl⟩)
set_option maxHeartbeats 4000000 in
set_option maxRecDepth 100000 in
theorem k_X3_placeOf {l : Launch} {G : Gv} {ad : Nat → Nat} {d : Nat} {σ : S2} {ts : List Tb} {q x1 : Int32} (hd : 0 ≤ d) (hf : f_X3_placeOf σ x1 = some q) : K l G yX3_placeOf cX3_placeOf 2 (some .int) d 0 0 [.ref (ad 13), .int x1] (wA G ad σ ts) (pD (some (.int q)) (wA G ad σ ts)) := K_intro (by decide) (Nat.le_of_ble_eq_true rfl) (by
  cases hf
  refine V_aload_n 0 rfl dX3_placeOf_0 rfl ?_
  refine V_get (k := 1) RC_X3 fl_X3_15 rfl (by decide) dX3_placeOf_1 13 rfl rfl ?_
  refine V_iload_n 1 rfl dX3_placeOf_4 rfl ?_
  refine V_iadd dX3_placeOf_5 ?_
  refine V_iconst 4 dX3_placeOf_6 (by decide) ?_
  refine V_irem dX3_placeOf_7 (by decide) ?_
  exact V_iret rfl dX3_placeOf_8 ⟨rfl, rfl⟩)
def hset (τs : List St) (j : Nat) (s : St) : Option (List St) := if j < τs.length then some (τs.set j s) else if j = τs.length then some (τs ++ [s]) else none
def f_save2 (σ : S2) (τs : List St) : Option S2 := if 4 ≤ σ.2.2.1 then bno (f_X3_placeOf σ 1) fun p2 => some (σ.1, (p2, (σ.2.2.1, τs))) else some (σ.1, (σ.2.1, (σ.2.2.1 + 1, τs)))
def f_X3_save (σ : S2) : Option S2 := bno (f_X3_placeOf σ σ.2.2.1) fun p => ixo p 4 (bno f_X7_ones fun _ => bno (hset σ.2.2.2 p.toNatClampNeg σ.1) fun τs => f_save2 σ τs)
def f_X3_restore (σ : S2) : Option S2 := if 0 < σ.2.2.1 then bno (f_X3_placeOf σ (σ.2.2.1 - 1)) fun p => ixo p 4 (match σ.2.2.2[p.toNatClampNeg]? with
  | none => some (σ.1, (σ.2.1, (σ.2.2.1 - 1, σ.2.2.2)))
  | some τ => bno (f_X7_copyFrom σ.1 τ) fun s => some (s, (σ.2.1, (σ.2.2.1 - 1, σ.2.2.2)))) else some σ
set_option maxHeartbeats 4000000 in
set_option maxRecDepth 100000 in
theorem v_X3_save_35 {l : Launch} {G : Gv} {ad : Nat → Nat} {d : Nat} {av0 : List Value} {w1 : va_W} {σ q : S2} {t1 t2 : List Tb} {tq : Tb} {x2 : Int32} (hd : 3 ≤ d) (hf : f_save2 σ ((t1 ++ (tq.1, σ.1) :: t2).map (fun q => q.2)) = some q) : VV l G yX3_save cX3_save 4 none d 10 189 av0 w1 (fun ro w => ro = none ∧ ∃ ts1 : List Tb, ts1.map (fun q => q.2) = q.2.2.2 ∧ w = wA G ad q ts1) 10 189 (wA G ad σ (t1 ++ tq :: t2)) 35 [(0, .ref (ad 13)), (1, .ref (ad 1)), (2, .int x2), (3, .ref (tq.1 1))] [] := by
  refine V_aload_n 3 rfl dX3_save_35 rfl ?_
  refine V_aload_n 1 rfl dX3_save_36 rfl ?_
  refine V_lperm (wA_p1 G ad σ t1 t2 tq) ?_
  refine V_cVf (As := [.ref (ad 1)]) (rest := []) (k_X7_copyFrom (a := tq.1) (b := ad) (d := 2) (Nat.le_refl _) rfl) LB_X7_copyFrom lk_X3_27 (by omega) dX3_save_37 rfl rfl (Nat.le_of_ble_eq_true rfl) (by decide) (by decide) 0 rfl ⟨rfl, rfl⟩ [] rfl ?_
  refine V_ws (ws1 := (wT G tq.1 σ.1 ++ wT G ad σ.1) ++ restA G ad σ t1 t2 (tq.1, σ.1)) (by rw [restA_set G ad σ t1 t2 tq (tq.1, σ.1) rfl]; rfl) ?_
  refine V_lperm (wA_p1 G ad σ t1 t2 (tq.1, σ.1)).symm ?_
  refine V_aload_n 0 rfl dX3_save_40 rfl ?_
  refine V_get (k := 2) RC_X3 fl_X3_19 rfl (by decide) dX3_save_41 13 rfl rfl ?_
  refine V_iconst 4 dX3_save_44 (by decide) ?_
  refine V_icmp_ge 61 dX3_save_45 (by decide) (fun c1 => ?_) (fun c1 => ?_)
  · replace hf := (if_pos c1).symm.trans hf
    obtain ⟨p2, hp2, hf⟩ := bno_some hf
    refine V_aload_n 0 rfl dX3_save_61 rfl ?_
    refine V_aload_n 0 rfl dX3_save_62 rfl ?_
    refine V_iconst 1 dX3_save_63 (by decide) ?_
    refine V_cV (As := [.int 1]) (rest := [.ref (ad 13)]) (k_X3_placeOf (d := 0) (Nat.le_refl _) hp2) LB_X3_placeOf lk_X3_22 (by omega) dX3_save_64 rfl rfl (Nat.le_of_ble_eq_true rfl) (by decide) (by decide) 13 rfl ⟨rfl, rfl⟩ [.int p2, .ref (ad 13)] rfl ?_
    cases hf
    refine V_put (k := 1) RC_X3 fl_X3_15 rfl (by decide) rfl dX3_save_67 13 rfl (Nat.le_of_ble_eq_true rfl) rfl rfl (wA G ad (σ.1, (p2, (σ.2.2.1, (t1 ++ (tq.1, σ.1) :: t2).map (fun q => q.2)))) (t1 ++ (tq.1, σ.1) :: t2)) rfl ?_
    exact V_vret rfl dX3_save_70 ⟨rfl, _, rfl, rfl⟩
  · replace hf := (if_neg c1).symm.trans hf
    cases hf
    refine V_aload_n 0 rfl dX3_save_48 rfl ?_
    refine V_dup rfl dX3_save_49 ?_
    refine V_get (k := 2) RC_X3 fl_X3_19 rfl (by decide) dX3_save_50 13 rfl rfl ?_
    refine V_iconst 1 dX3_save_53 (by decide) ?_
    refine V_iadd dX3_save_54 ?_
    refine V_put (k := 2) RC_X3 fl_X3_19 rfl (by decide) rfl dX3_save_55 13 rfl (Nat.le_of_ble_eq_true rfl) rfl rfl (wA G ad (σ.1, (σ.2.1, (σ.2.2.1 + 1, (t1 ++ (tq.1, σ.1) :: t2).map (fun q => q.2)))) (t1 ++ (tq.1, σ.1) :: t2)) rfl ?_
    refine V_goto 70 dX3_save_58 (by decide) ?_
    exact V_vret rfl dX3_save_70 ⟨rfl, _, rfl, rfl⟩
theorem ts_split {ts : List Tb} {j : Nat} {q : Tb} (h : ts[j]? = some q) : ∃ t1 t2 : List Tb, ts = t1 ++ q :: t2 ∧ t1.length = j := by
  obtain ⟨hj, e⟩ := List.getElem?_eq_some_iff.mp h
  refine ⟨ts.take j, ts.drop (j + 1), ?_, by simp; omega⟩
  rw [← e, ← List.drop_eq_getElem_cons hj, List.take_append_drop]
theorem set_mid {t1 t2 : List Tb} {q q2 : Tb} {j : Nat} (h : t1.length = j) : ((t1 ++ q :: t2).map (fun q => q.2)).set j q2.2 = (t1 ++ q2 :: t2).map (fun q => q.2) := by
  subst h
  rw [List.map_append, List.map_append, List.map_cons, List.map_cons, List.set_append_right _ _ (by simp)]
  simp
def ad10 (l : List Nat) : Nat → Nat := fun i => l.getD i 0
def τ1 (q : Nat → Int32) : St := (fun _ => 0, (fun k => if k = 3 then q else (fun _ => 0), fun _ => 0))
theorem hF_some {ts : List Tb} {j : Nat} {q : Tb} (h : ts[j]? = some q) : va_rf (hF ts j) = .ref (q.1 1) := by
  unfold hF
  rw [h]
  rfl
theorem hF_none {ts : List Tb} {j : Nat} (h : ts[j]? = none) : va_rf (hF ts j) = .null := by
  unfold hF
  rw [h]
  rfl
theorem hF_push (ts : List Tb) (q : Tb) : va_up (hF ts) ts.length (some (q.1 1)) = hF (ts ++ [q]) := by
  funext i
  unfold hF va_up
  by_cases h : i = ts.length
  · subst h
    simp
  · rw [if_neg h]
    show (ts[i]?).map (fun q => q.1 1) = ((ts ++ [q])[i]?).map (fun q => q.1 1)
    rcases Nat.lt_or_ge i ts.length with h1 | h1
    · rw [List.getElem?_append_left h1]
    · rw [List.getElem?_eq_none h1, List.getElem?_eq_none (by simp; omega)]
theorem perm_new {α : Type} (A X Y : List α) : List.Perm ((A ++ X) ++ Y) (A ++ (X ++ Y)) := by rw [List.append_assoc]
theorem wT_new (G : Gv) (a b b1 c c1 c2 v lv0 rk pt : Nat) (q : Nat → Int32) : wT G (ad10 [0, a, b, b1, c, c1, c2, v, lv0, rk, pt]) (τ1 q) = [(a, .inr (5, [.ref b, .ref c, .ref v, .ref lv0, .ref rk, .ref pt])), (b, .inr (1, [.ref b1, .int 0])), (b1, .inl (G.2.1, 30, .inl (fun _ => 0))), (c, .inr (0, [.ref c1, .ref c2, .long 0])), (c1, .inl (G.2.1, 64, .inl (fun _ => 0))), (c2, .inl (G.2.1, 64, .inl (fun _ => 0))), (v, .inl (G.2.1, 8, .inl q)), (lv0, .inl (G.2.1, 8, .inl (fun _ => 0))), (rk, .inl (G.2.1, 2, .inl (fun _ => 0))), (pt, .inl (G.2.1, 2, .inl (fun _ => 0)))] := rfl
set_option maxHeartbeats 4000000 in
set_option maxRecDepth 100000 in
theorem k_X3_save {l : Launch} {G : Gv} {ad : Nat → Nat} {d : Nat} {σ q : S2} {ts : List Tb} (hd : 3 ≤ d) (hts : ts.map (fun q => q.2) = σ.2.2.2) (hf : f_X3_save σ = some q) : K l G yX3_save cX3_save 4 none d 10 189 [.ref (ad 13), .ref (ad 1)] (wA G ad σ ts) (fun ro w => ro = none ∧ ∃ ts1 : List Tb, ts1.map (fun q => q.2) = q.2.2.2 ∧ w = wA G ad q ts1) := K_intro (by decide) (Nat.le_of_ble_eq_true rfl) (by
  obtain ⟨p, hp, hf⟩ := bno_some hf
  obtain ⟨hi, hf⟩ := ixo_some hf
  obtain ⟨on, hon, hf⟩ := bno_some hf
  obtain ⟨τs, hτ, hf⟩ := bno_some hf
  refine V_aload_n 0 rfl dX3_save_0 rfl ?_
  refine V_aload_n 0 rfl dX3_save_1 rfl ?_
  refine V_get (k := 2) RC_X3 fl_X3_19 rfl (by decide) dX3_save_2 13 rfl rfl ?_
  refine V_cV (As := [.int σ.2.2.1]) (rest := []) (k_X3_placeOf (d := 0) (Nat.le_refl _) hp) LB_X3_placeOf lk_X3_22 (by omega) dX3_save_5 rfl rfl (Nat.le_of_ble_eq_true rfl) (by decide) (by decide) 13 rfl ⟨rfl, rfl⟩ [.int p] rfl ?_
  refine V_istore_n [(0, .ref (ad 13)), (1, .ref (ad 1)), (2, .int p)] [1, 2, 0] dX3_save_8 rfl (by decide) rfl ?_
  refine V_aload_n 0 rfl dX3_save_9 rfl ?_
  refine V_get (k := 0) RC_X3 fl_X3_11 rfl (by decide) dX3_save_10 13 rfl rfl ?_
  refine V_iload_n 2 rfl dX3_save_13 rfl ?_
  refine V_aaload dX3_save_14 14 rfl hi ?_
  cases hj : ts[p.toNatClampNeg]? with
  | some tq =>
    obtain ⟨t1, t2, rfl, hlen⟩ := ts_split hj
    refine V_st (st1 := [.ref (tq.1 1)]) (by rw [hF_some hj]) ?_
    refine V_astore_n [(0, .ref (ad 13)), (1, .ref (ad 1)), (2, .int p), (3, .ref (tq.1 1))] [1, 2, 3, 0] dX3_save_15 rfl (by decide) rfl ?_
    refine V_aload_n 3 rfl dX3_save_16 rfl ?_
    refine V_ifnonnull 35 dX3_save_17 (by decide) ?_
    refine V_widen (ce1 := 10) (sl1 := 189) (Nat.zero_le _) (Nat.zero_le _) ?_
    refine v_X3_save_35 hd ?_
    have hlt : p.toNatClampNeg < σ.2.2.2.length := by rw [← hts, List.length_map]; exact (List.getElem?_eq_some_iff.mp hj).1
    have e : some τs = some (σ.2.2.2.set p.toNatClampNeg σ.1) := hτ.symm.trans (if_pos hlt)
    rw [← set_mid (q := tq) (q2 := (tq.1, σ.1)) hlen, hts]
    cases e
    exact hf
  | none =>
    refine V_st (st1 := [.null]) (by rw [hF_none hj]) ?_
    refine V_astore_nN [(0, .ref (ad 13)), (1, .ref (ad 1)), (2, .int p), (3, .null)] [1, 2, 3, 0] dX3_save_15 rfl (by decide) rfl ?_
    refine V_aload_nN 3 rfl dX3_save_16 rfl ?_
    refine V_ifnonnullN dX3_save_17 ?_
    have hge : ts.length ≤ p.toNatClampNeg := List.getElem?_eq_none_iff.mp hj
    have hlen : p.toNatClampNeg = ts.length := by
      have h1 : σ.2.2.2.length = ts.length := by rw [← hts, List.length_map]
      have h2 : ¬ p.toNatClampNeg < σ.2.2.2.length := by omega
      have h3 := (if_neg h2).symm.trans hτ
      by_cases h4 : p.toNatClampNeg = σ.2.2.2.length
      · omega
      · cases (if_neg h4).symm.trans h3
    refine V_new [.null, .null, .null, .null, .null, .null] RC_X7 cl_X3_9 in_X7 ii_X7 df_X7 (by decide) (by decide) dX3_save_20 (fun a => ?_)
    refine V_dup rfl dX3_save_23 ?_
    refine V_callI (As := []) (rest := [.ref a]) (wc := [(a, .inr (5, [.null, .null, .null, .null, .null, .null]))]) (wr := wA G ad σ ts) (k_X7_init (d := 2) (Nat.le_refl _) hon) LB_X7_init lk_X3_26 (by omega) dX3_save_24 rfl rfl (Nat.le_of_ble_eq_true rfl) ⟨by decide, by decide⟩ (shf (wA G ad σ ts).length [(a, (.inr (5, [.null, .null, .null, .null, .null, .null]) : va_E))].length) (List.range (wA G ad σ ts).length) (perm_r _ _) (perm_l _ _) (nd_of (shf_nodup _ _)) (nd_range _) (fun i h1 h2 => dis_l _ _ i h2 h1) (fun ro w1 hp => ?_)
    obtain ⟨rfl, b, b1, c, c1, c2, v, lv0, rk, pt, rfl⟩ := hp
    refine V_ws (ws1 := wA G ad σ ts ++ wT G (ad10 [0, a, b, b1, c, c1, c2, v, lv0, rk, pt]) (τ1 on)) rfl ?_
    refine V_st (st1 := [.ref a]) rfl ?_
    refine V_astore_n [(0, .ref (ad 13)), (1, .ref (ad 1)), (2, .int p), (3, .ref a)] [1, 2, 3, 0] dX3_save_27 rfl (by decide) rfl ?_
    refine V_aload_n 0 rfl dX3_save_28 rfl ?_
    refine V_get (k := 0) RC_X3 fl_X3_11 rfl (by decide) dX3_save_29 13 rfl rfl ?_
    refine V_iload_n 2 rfl dX3_save_32 rfl ?_
    refine V_aload_n 3 rfl dX3_save_33 rfl ?_
    have hpl : (wA G ad σ ts ++ wT G (ad10 [0, a, b, b1, c, c1, c2, v, lv0, rk, pt]) (τ1 on))[(wA G ad σ ts).length]? = some (a, .inr (5, [.ref b, .ref c, .ref v, .ref lv0, .ref rk, .ref pt])) := by
      rw [List.getElem?_append_right (Nat.le_refl _), Nat.sub_self]
      rfl
    refine V_aastore dX3_save_34 14 rfl hi (wA G ad σ ts).length hpl rfl (wA G ad σ (ts ++ [(ad10 [0, a, b, b1, c, c1, c2, v, lv0, rk, pt], τ1 on)])) ?_ ?_
    · rw [hlen]
      show ((wC G ad σ.1 ++ ([(ad 13, _), (ad 14, .inl (G.2.2.1, 4, .inr (.inr (.inr (.inr (va_up (hF ts) ts.length (some ((ad10 [0, a, b, b1, c, c1, c2, v, lv0, rk, pt]) 1))))))))] ++ wTs G ts)) ++ wT G _ _ : va_W) = _
      rw [hF_push ts (ad10 [0, a, b, b1, c, c1, c2, v, lv0, rk, pt], τ1 on)]
      unfold wA wH
      rw [wTs_app]
      simp only [wTs, List.append_assoc, List.append_nil]
    · refine v_X3_save_35 (t1 := ts) (t2 := []) (tq := (ad10 [0, a, b, b1, c, c1, c2, v, lv0, rk, pt], τ1 on)) hd ?_
      have h1 : ¬ p.toNatClampNeg < σ.2.2.2.length := by rw [← hts, List.length_map]; omega
      have h2 : p.toNatClampNeg = σ.2.2.2.length := by rw [← hts, List.length_map]; exact hlen
      have e : some τs = some (σ.2.2.2 ++ [σ.1]) := hτ.symm.trans ((if_neg h1).trans (if_pos h2))
      cases e
      rw [List.map_append, hts]
      exact hf)
set_option maxHeartbeats 4000000 in
set_option maxRecDepth 100000 in
theorem k_X3_restore {l : Launch} {G : Gv} {ad : Nat → Nat} {d : Nat} {σ q : S2} {ts : List Tb} (hd : 3 ≤ d) (hts : ts.map (fun q => q.2) = σ.2.2.2) (hf : f_X3_restore σ = some q) : K l G yX3_restore cX3_restore 3 none d 0 0 [.ref (ad 13), .ref (ad 1)] (wA G ad σ ts) (fun ro w => ro = none ∧ ∃ ts1 : List Tb, ts1.map (fun q => q.2) = q.2.2.2 ∧ w = wA G ad q ts1) := K_intro (by decide) (Nat.le_of_ble_eq_true rfl) (by
  refine V_aload_n 0 rfl dX3_restore_0 rfl ?_
  refine V_get (k := 2) RC_X3 fl_X3_19 rfl (by decide) dX3_restore_1 13 rfl rfl ?_
  refine V_if_gt 8 dX3_restore_4 (by decide) (fun c1 => ?_) (fun c1 => ?_)
  · replace hf := (if_pos c1).symm.trans hf
    obtain ⟨p, hp, hf⟩ := bno_some hf
    obtain ⟨hi, hf⟩ := ixo_some hf
    refine V_aload_n 0 rfl dX3_restore_8 rfl ?_
    refine V_dup rfl dX3_restore_9 ?_
    refine V_get (k := 2) RC_X3 fl_X3_19 rfl (by decide) dX3_restore_10 13 rfl rfl ?_
    refine V_iconst 1 dX3_restore_13 (by decide) ?_
    refine V_isub dX3_restore_14 ?_
    refine V_put (k := 2) RC_X3 fl_X3_19 rfl (by decide) rfl dX3_restore_15 13 rfl (Nat.le_of_ble_eq_true rfl) rfl rfl (wA G ad (σ.1, (σ.2.1, (σ.2.2.1 - 1, σ.2.2.2))) ts) rfl ?_
    refine V_aload_n 0 rfl dX3_restore_18 rfl ?_
    refine V_get (k := 0) RC_X3 fl_X3_11 rfl (by decide) dX3_restore_19 13 rfl rfl ?_
    refine V_aload_n 0 rfl dX3_restore_22 rfl ?_
    refine V_aload_n 0 rfl dX3_restore_23 rfl ?_
    refine V_get (k := 2) RC_X3 fl_X3_19 rfl (by decide) dX3_restore_24 13 rfl rfl ?_
    refine V_cV (As := [.int (σ.2.2.1 - 1)]) (rest := [.ref (ad 14)]) (k_X3_placeOf (σ := (σ.1, (σ.2.1, (σ.2.2.1 - 1, σ.2.2.2)))) (d := 0) (Nat.le_refl _) hp) LB_X3_placeOf lk_X3_22 (by omega) dX3_restore_27 rfl rfl (Nat.le_of_ble_eq_true rfl) (by decide) (by decide) 13 rfl ⟨rfl, rfl⟩ [.int p, .ref (ad 14)] rfl ?_
    refine V_aaload dX3_restore_30 14 rfl hi ?_
    cases hj : ts[p.toNatClampNeg]? with
    | none =>
      have hn : σ.2.2.2[p.toNatClampNeg]? = none := by rw [← hts, List.getElem?_map, hj]; rfl
      rw [hn] at hf
      refine V_st (st1 := [.null]) (by rw [hF_none hj]) ?_
      refine V_astore_nN [(0, .ref (ad 13)), (1, .ref (ad 1)), (2, .null)] [1, 2, 0] dX3_restore_31 rfl (by decide) rfl ?_
      refine V_aload_nN 2 rfl dX3_restore_32 rfl ?_
      refine V_ifnullN 41 dX3_restore_33 (by decide) ?_
      cases hf
      exact V_vret rfl dX3_restore_41 ⟨rfl, ts, hts, rfl⟩
    | some tq =>
      have hn : σ.2.2.2[p.toNatClampNeg]? = some tq.2 := by rw [← hts, List.getElem?_map, hj]; rfl
      rw [hn] at hf
      obtain ⟨s2, hs2, hf⟩ := bno_some hf
      obtain ⟨t1, t2, rfl, hlen⟩ := ts_split hj
      refine V_st (st1 := [.ref (tq.1 1)]) (by rw [hF_some hj]) ?_
      refine V_astore_n [(0, .ref (ad 13)), (1, .ref (ad 1)), (2, .ref (tq.1 1))] [1, 2, 0] dX3_restore_31 rfl (by decide) rfl ?_
      refine V_aload_n 2 rfl dX3_restore_32 rfl ?_
      refine V_ifnull dX3_restore_33 ?_
      refine V_aload_n 1 rfl dX3_restore_36 rfl ?_
      refine V_aload_n 2 rfl dX3_restore_37 rfl ?_
      refine V_lperm (wA_p2 G ad (σ.1, (σ.2.1, (σ.2.2.1 - 1, σ.2.2.2))) t1 t2 tq) ?_
      refine V_cVf (As := [.ref (tq.1 1)]) (rest := []) (k_X7_copyFrom (a := ad) (b := tq.1) (σ := σ.1) (τ := tq.2) (d := 2) (Nat.le_refl _) hs2) LB_X7_copyFrom lk_X3_27 (by omega) dX3_restore_38 rfl rfl (Nat.le_of_ble_eq_true rfl) (by decide) (by decide) 0 rfl ⟨rfl, rfl⟩ [] rfl ?_
      cases hs2
      cases hf
      refine V_ws (ws1 := (wT G ad (sa (sa (sa (sa (sl (sa (sa (si (sa σ.1 0 (ga tq.2 0)) 1 (gi tq.2 1)) 1 (ga tq.2 1)) 2 (ga tq.2 2)) 0 (gl tq.2 0)) 3 (ga tq.2 3)) 4 (ga tq.2 4)) 5 (ga tq.2 5)) 6 (ga tq.2 6)) ++ wT G tq.1 tq.2) ++ restA G ad ((sa (sa (sa (sa (sl (sa (sa (si (sa σ.1 0 (ga tq.2 0)) 1 (gi tq.2 1)) 1 (ga tq.2 1)) 2 (ga tq.2 2)) 0 (gl tq.2 0)) 3 (ga tq.2 3)) 4 (ga tq.2 4)) 5 (ga tq.2 5)) 6 (ga tq.2 6)), (σ.2.1, (σ.2.2.1 - 1, σ.2.2.2))) t1 t2 tq) rfl ?_
      refine V_lperm (wA_p2 G ad ((sa (sa (sa (sa (sl (sa (sa (si (sa σ.1 0 (ga tq.2 0)) 1 (gi tq.2 1)) 1 (ga tq.2 1)) 2 (ga tq.2 2)) 0 (gl tq.2 0)) 3 (ga tq.2 3)) 4 (ga tq.2 4)) 5 (ga tq.2 5)) 6 (ga tq.2 6)), (σ.2.1, (σ.2.2.1 - 1, σ.2.2.2))) t1 t2 tq).symm ?_
      exact V_vret rfl dX3_restore_41 ⟨rfl, _, hts, rfl⟩
  · replace hf := (if_neg c1).symm.trans hf
    cases hf
    exact V_vret rfl dX3_restore_7 ⟨rfl, ts, hts, rfl⟩)
