/-! nodes: trees with addresses; what a heap holds of them; rows for reading, testing and making nodes -/
abbrev rZ : Room := { frames := 0, cells := 0, slots := 0, locals := 0 }
abbrev pG (ws : List va_E) (N : Heap → Prop) (r : Option Value) : Option Value → List va_E → Heap → Prop := fun v ws' H => (v = r ∧ ws' = ws) ∧ N H
def mixF (h x : Int64) : Int64 := ((((h ^^^ x) * (-7046029254386353131)) ^^^ (((h ^^^ x) * (-7046029254386353131)).toUInt64 >>> ((29 : Int32).toInt64.toUInt64 &&& Int64.toUInt64 63)).toInt64) * (-4658895280553007687)) ^^^ ((((((h ^^^ x) * (-7046029254386353131)) ^^^ (((h ^^^ x) * (-7046029254386353131)).toUInt64 >>> ((29 : Int32).toInt64.toUInt64 &&& Int64.toUInt64 63)).toInt64) * (-4658895280553007687))).toUInt64 >>> ((32 : Int32).toInt64.toUInt64 &&& Int64.toUInt64 63)).toInt64
def emptyF : Int64 := mixF 0 3
def leafF (P : Nat) (v : Int64) : Int64 := mixF (mixF (mixF 0 1) (nI P).toInt64) v
def forkF (B S : Nat) (x y : Int64) : Int64 := mixF (mixF (mixF (mixF (mixF 0 2) (nI B).toInt64) (nI S).toInt64) x) y
/-- trees: a node's address, and what it is -/
abbrev tE (q : Nat) : Term := .add (.arg q) .null
abbrev tH (q : Nat) (d : Int64) : Term := .add (.arg q) (.long d)
abbrev tL (q P : Nat) (v : Int64) : Term := .add (.arg q) (.elem (.arg P) (.long v))
abbrev tF (q B S : Nat) (x y : Term) : Term := .add (.arg q) (.sub (.elem (.arg B) (.arg S)) (.mul x y))
def isT : Term → Prop
  | .add (.arg _) .null => True
  | .add (.arg _) (.long _) => True
  | .add (.arg _) (.elem (.arg _) (.long _)) => True
  | .add (.arg _) (.sub (.elem (.arg _) (.arg _)) (.mul x y)) => isT x ∧ isT y
  | _ => False
theorem tr_ind {P : Term → Prop} (hE : ∀ q, P (tE q)) (hH : ∀ q d, P (tH q d)) (hL : ∀ q p v, P (tL q p v)) (hF : ∀ q B S x y, isT x → isT y → P x → P y → P (tF q B S x y)) : ∀ T, isT T → P T := by
  intro T
  induction T using isT.induct with
  | case1 q => intro _; exact hE q
  | case2 q d => intro _; exact hH q d
  | case3 q p v => intro _; exact hL q p v
  | case4 q B S x y i1 i2 => intro h; exact hF q B S x y h.1 h.2 (i1 h.1) (i2 h.2)
  | case5 T h1 h2 h3 h4 => intro h; exfalso; unfold isT at h; split at h <;> first | exact h | (simp_all; done) | (rename_i e; exact h4 _ _ _ _ _ rfl)
def adr : Term → Nat
  | .add (.arg q) _ => q
  | _ => 0
def dig : Term → Int64
  | .add (.arg _) .null => emptyF
  | .add (.arg _) (.long d) => d
  | .add (.arg _) (.elem (.arg P) (.long v)) => leafF P v
  | .add (.arg _) (.sub (.elem (.arg B) (.arg S)) (.mul x y)) => forkF B S (dig x) (dig y)
  | _ => 0
def nodeAt (D : va_G) (H : Heap) : Term → Prop
  | .add (.arg q) .null => va_at D vwCl (q, .inr (0, [.long emptyF])) H
  | .add (.arg q) (.long d) => va_at D vwCl (q, .inr (2, [.long d])) H
  | .add (.arg q) (.elem (.arg P) (.long v)) => va_at D vwCl (q, .inr (3, [.long (leafF P v), .int (nI P), .long v])) H
  | .add (.arg q) (.sub (.elem (.arg B) (.arg S)) (.mul x y)) => va_at D vwCl (q, .inr (1, [.long (forkF B S (dig x) (dig y)), .int (nI B), .int (nI S), .ref (adr x), .ref (adr y)])) H ∧ nodeAt D H x ∧ nodeAt D H y
  | _ => False
def isNd (D : va_G) (cell : Cell) : Prop := cell.cls = D.1 0 ∨ cell.cls = D.1 1 ∨ cell.cls = D.1 2 ∨ cell.cls = D.1 3
/-- all nodes of H are in H', as they were -/
def Snap (D : va_G) (H H' : Heap) : Prop := H.size ≤ H'.size ∧ ∀ (q : Nat) (cell : Cell), H[q]? = some cell → isNd D cell → H'[q]? = some cell
/-- a picture of nodes alone -/
def NS (D : va_G) (N : Heap → Prop) : Prop := ∀ H H' : Heap, N H → Snap D H H' → N H'
theorem Snap.rf {D : va_G} {H : Heap} : Snap D H H := ⟨Nat.le_refl _, fun _ _ h _ => h⟩
theorem Snap.tr {D : va_G} {H H1 H2 : Heap} (h1 : Snap D H H1) (h2 : Snap D H1 H2) : Snap D H H2 := ⟨Nat.le_trans h1.1 h2.1, fun q cell a b => h2.2 q cell (h1.2 q cell a b) b⟩
theorem Snap.ns {D : va_G} {H0 : Heap} : NS D (Snap D H0) := fun _ _ h1 h2 => h1.tr h2
theorem NS.tt {D : va_G} : NS D (fun _ => True) := fun _ _ _ _ => trivial
theorem NS.and {D : va_G} {N1 N2 : Heap → Prop} (h1 : NS D N1) (h2 : NS D N2) : NS D (fun H => N1 H ∧ N2 H) := fun H H' h hs => ⟨h1 H H' h.1 hs, h2 H H' h.2 hs⟩
theorem at_nd {D : va_G} {q ci : Nat} {fs : List Value} {H : Heap} (hci : ci < 4) (h : va_at D vwCl (q, .inr (ci, fs)) H) : ∃ cell : Cell, H[q]? = some cell ∧ isNd D cell := by
  obtain ⟨r, -, cell, h2, h3, -⟩ := h
  refine ⟨cell, h2, ?_⟩
  have h3 : cell.cls = D.1 ci := h3
  rcases (show ci = 0 ∨ ci = 1 ∨ ci = 2 ∨ ci = 3 by omega) with rfl | rfl | rfl | rfl
  · exact Or.inl h3
  · exact Or.inr (Or.inl h3)
  · exact Or.inr (Or.inr (Or.inl h3))
  · exact Or.inr (Or.inr (Or.inr h3))
theorem at_snap {D : va_G} {q ci : Nat} {fs : List Value} {H H' : Heap} (hci : ci < 4) (h : va_at D vwCl (q, .inr (ci, fs)) H) (hs : Snap D H H') : va_at D vwCl (q, .inr (ci, fs)) H' := by
  obtain ⟨cell, h1, h2⟩ := at_nd hci h
  exact h.kept ((hs.2 q cell h1 h2).trans h1.symm)
theorem nodeAt.T {D : va_G} {H : Heap} : ∀ T, nodeAt D H T → isT T := by
  intro T
  induction T using nodeAt.induct with
  | case1 q => intro _; exact trivial
  | case2 q d => intro _; exact trivial
  | case3 q p v => intro _; exact trivial
  | case4 q B S x y i1 i2 => intro h; exact ⟨i1 h.2.1, i2 h.2.2⟩
  | case5 T h1 h2 h3 h4 => intro h; exfalso; unfold nodeAt at h; split at h <;> first | exact h | (simp_all; done) | (exact h4 _ _ _ _ _ rfl)
theorem nodeAt.ns {D : va_G} (T : Term) : NS D (fun H => nodeAt D H T) := by
  intro H H' h hs
  have hT := nodeAt.T T h
  revert h
  refine tr_ind (P := fun T => nodeAt D H T → nodeAt D H' T) ?_ ?_ ?_ ?_ T hT
  · exact fun q h => at_snap (by decide) h hs
  · exact fun q d h => at_snap (by decide) h hs
  · exact fun q p v h => at_snap (by decide) h hs
  · exact fun q B S x y _ _ i1 i2 h => ⟨at_snap (by decide) h.1 hs, i1 h.2.1, i2 h.2.2⟩
theorem fc_inj {U : State} {a b : String} {c : ClassId} (h1 : U.vm.findClass a = some c) (h2 : U.vm.findClass b = some c) : a = b := by
  obtain ⟨k1, e1, n1⟩ := Vm.findClass_spec h1
  obtain ⟨k2, e2, n2⟩ := Vm.findClass_spec h2
  rw [e1] at e2
  cases e2
  exact n1.symm.trans n2
theorem KS.ne {D : va_G} {ca : Nat → ClassId} {U : State} (h : KS D ca U) {i j : Nat} {r1 r2 : vw_C} (h1 : vwCl[i]? = some r1) (h2 : vwCl[j]? = some r2) (hn : r1.1 ≠ r2.1) : D.1 i ≠ D.1 j := by
  intro hq
  have a1 := (h.1.1 i r1 h1).2.1
  have a2 := (h.1.1 j r2 h2).2.1
  rw [hq] at a1
  exact hn (fc_inj a1 a2)
theorem KS.arr {D : va_G} {ca : Nat → ClassId} {U : State} (h : KS D ca U) {i j : Nat} {r1 : vw_C} (h1 : vwCl[i]? = some r1) (hj : j ≤ 2) : D.1 i ≠ ca j := by
  intro hq
  obtain ⟨kC, a1, a2⟩ := (h.1.1 i r1 h1).2.2
  have key : ∀ ty : FieldType, ArrOfT U (ca j) ty → False := by
    intro ty ha
    obtain ⟨-, k, b1, comp, b2⟩ := ha 0 (fun _ => .null)
    have b1 : U.vm.classes[ca j]? = some k := b1
    rw [← hq, a1] at b1
    cases b1
    rw [a2] at b2
    cases b2
  rcases (show j = 0 ∨ j = 1 ∨ j = 2 by omega) with rfl | rfl | rfl
  · exact key _ (h.1.2 0 _ rfl).1
  · exact key _ (h.1.2 1 _ rfl).1
  · exact key _ (h.1.2 2 _ rfl).1
theorem nd_big {D : va_G} {ca : Nat → ClassId} {U : State} (h : KS D ca U) {ci : Nat} {r : vw_C} (h1 : vwCl[ci]? = some r) (hci : 4 ≤ ci) {cell : Cell} (hc : cell.cls = D.1 ci) : ¬ isNd D cell := by
  have key : ∀ (i : Nat) (r1 : vw_C), vwCl[i]? = some r1 → r.1 ≠ r1.1 → ¬ cell.cls = D.1 i := fun i r1 a1 a2 a3 => h.ne h1 a1 a2 (hc.symm.trans a3)
  have hr : r.1 ≠ RX0 ∧ r.1 ≠ RX1 ∧ r.1 ≠ RX2 ∧ r.1 ≠ RX3 := by
    have hlt : ci < 9 := by
      have := (List.getElem?_eq_some_iff.mp h1).1
      simpa [vwCl] using this
    rcases (show ci = 4 ∨ ci = 5 ∨ ci = 6 ∨ ci = 7 ∨ ci = 8 by omega) with rfl | rfl | rfl | rfl | rfl <;> (cases h1; decide +kernel)
  rintro (q | q | q | q)
  · exact key 0 _ rfl hr.1 q
  · exact key 1 _ rfl hr.2.1 q
  · exact key 2 _ rfl hr.2.2.1 q
  · exact key 3 _ rfl hr.2.2.2 q
theorem nd_arr {D : va_G} {ca : Nat → ClassId} {U : State} (h : KS D ca U) {j : Nat} (hj : j ≤ 2) {cell : Cell} (hc : cell.cls = ca j) : ¬ isNd D cell := by
  rintro (q | q | q | q)
  · exact h.arr (i := 0) rfl hj (q.symm.trans hc)
  · exact h.arr (i := 1) rfl hj (q.symm.trans hc)
  · exact h.arr (i := 2) rfl hj (q.symm.trans hc)
  · exact h.arr (i := 3) rfl hj (q.symm.trans hc)
theorem vp_cls (cA : ClassId) (a : vp_A) : (vp_cell cA a).cls = cA := by
  obtain ⟨n, f | f | f | f | f⟩ := a <;> rfl
/-- a named cell is no node -/
theorem nm_nd {D : va_G} {ca : Nat → ClassId} {U : State} (h : KS D ca U) {ad : Nat → Nat} {t : Nat} {x : va_E} {H : Heap} (hx : nno x = true) (ha : va_at D vwCl (ad t, ce ad ca x) H) {cell : Cell} (hc : H[ad t]? = some cell) : ¬ isNd D cell := by
  cases x with
  | inl y =>
    have ha : H[ad t]? = some (vp_cell (ca y.1) y.2) := ha
    rw [hc] at ha
    cases ha
    exact nd_arr h (Nat.le_of_ble_eq_true hx) (vp_cls _ _)
  | inr o =>
    obtain ⟨r, g1, cell2, g2, g3, -⟩ := ha
    have g2 : H[ad t]? = some cell2 := g2
    rw [hc] at g2
    cases g2
    exact nd_big h g1 (Nat.le_of_ble_eq_true hx) g3
theorem ns_write {D : va_G} {ca : Nat → ClassId} {U : State} (h : KS D ca U) {ad : Nat → Nat} {N : Heap → Prop} (hN : NS D N) : NSt D ca ad N := by
  intro H H' t x hx ha hz ho hH
  refine hN H H' hH ⟨by rw [hz]; exact Nat.le_refl _, fun q cell hq hnd => ?_⟩
  by_cases e : q = ad t
  · subst e
    exact absurd hnd (nm_nd h hx ha hq)
  · rw [ho q e]; exact hq
section
variable {p : Program} {l : Launch} {e : Env} {R : Room} {s : State} {m : MethodId} {args : Array Value} {below : List Frame} {meth : Method} {c : Code} {cells slots : Nat} {Q : State → Prop}
variable {cc : ByteArray} {nL n : Nat} {own : String} {D : va_G} {ca : Nat → ClassId} {ad : Nat → Nat} {A : Nat → Prop} {N N2 : Heap → Prop}
theorem Cx.to (C : Cx p s m args c cc nL own D ca ad A N n) (h : NS D N2) : Cx p s m args c cc nL own D ca ad A N2 n := ⟨C.1, C.2.1, ns_write C.2.1 h, C.2.2.2⟩
theorem cv_raw (C : Cx p s m args c cc nL own D ca ad A N n) (q : Nat) : cv ad (.ref (q + 100)) = .ref q := by rw [cv, C.2.2.2.1.2]
/-- a node's field -/
theorem ng (C : Cx p s m args c cc nL own D ca ad A N n) {q ci k idx pc : Nat} {fs : List Value} {r : vw_C} {v : Value} {lv : List (Nat × Value)} {st : List Value} {ws : List va_E} (hat : ∀ H, N H → va_at D vwCl (q, .inr (ci, fs)) H) (hc : vwCl[ci]? = some r) (hk : k < r.2.2) (hfl : Cond.fieldLink own idx (r.2.1 k).1 (r.2.1 k).2.1 (r.2.1 k).2.2.1 ∈ tb) (hv : fs[k]? = some (cv ad v)) (hdg : decode cc pc = .ok (.getfield idx, 3))
    (kk : Wa p l e R s m args below meth c cells slots Q D ca ad A nL N (lv, v :: st, ws) (pc + 3)) : Wa p l e R s m args below meth c cells slots Q D ca ad A nL N (lv, .ref (q + 100) :: st, ws) pc := by
  intro H locs ls h1 h2 h3 h4
  obtain ⟨C9, T9, N9⟩ := r
  show W p l e R s m args below meth c H locs cells slots Q (F0 m pc ls (cv ad (.ref (q + 100)) :: st.map (cv ad)))
  rw [cv_raw C]
  exact va_get (D := D) (cl := vwCl) (ci := ci) (C := C9) (T := T9) (N := N9) (ws := [(q, .inr (ci, fs))]) (fs := fs) (v := cv ad v) C.1.1 C.1.2.1 C.1.2.2.2.2 (clsOk ci _ hc).1 C.1.2.2.2.1 C.2.1.1 (fun k x hx => by
    have hz : k < 1 := (List.getElem?_eq_some_iff.mp hx).1
    rw [show k = 0 by omega] at hx
    cases hx
    exact hat H h4) 0 rfl hc k hk (C.1.2.2.2.2 _ hfl) (fun _ h9 => h9) hv hdg (kk H locs ls h1 h2 h3 h4)
/-- a node as a receiver -/
theorem nrc (C : Cx p s m args c cc nL own D ca ad A N n) {q ci : Nat} {fs : List Value} {r : vw_C} {ws : List va_E} (hat : ∀ H, N H → va_at D vwCl (q, .inr (ci, fs)) H) (hc : vwCl[ci]? = some r) : ∀ H, va_P D vwCl (cw ad ca 0 ws) H → N H → ∃ cell : Cell, H[ad (q + 100)]? = some cell ∧ cell.vm.isStatics = false ∧ s.vm.findClass r.1 = some cell.cls := by
  intro H _ h4
  rw [C.2.2.2.1.2]
  obtain ⟨r2, g1, cell, g2, g3, g4, -⟩ := hat H h4
  exact ⟨cell, g2, by rw [g4]; rfl, by rw [g3]; exact (C.2.1.1.1 ci r hc).2.1⟩
theorem ni_y (C : Cx p s m args c cc nL own D ca ad A N n) {q ci idx pc : Nat} {nm : String} {fs : List Value} {r : vw_C} {lv : List (Nat × Value)} {st : List Value} {ws : List va_E} (hat : ∀ H, N H → va_at D vwCl (q, .inr (ci, fs)) H) (hc : vwCl[ci]? = some r) (hkl : Cond.classLink own idx nm ∈ tb) (hca : (r.1, nm) ∈ castL) (hdg : decode cc pc = .ok (.instanceof idx, 3))
    (kk : Wa p l e R s m args below meth c cells slots Q D ca ad A nL N (lv, .int 1 :: st, ws) (pc + 3)) : Wa p l e R s m args below meth c cells slots Q D ca ad A nL N (lv, .ref (q + 100) :: st, ws) pc := fun H locs ls h1 h2 h3 h4 => va_instY C.1.1 C.1.2.1 C.1.2.2.2.1 (C.1.2.2.2.2 _ hkl) (C.2.1.2.2.1 _ hca) (nrc C hat hc H h2 h4) hdg (kk H locs ls h1 h2 h3 h4)
theorem ni_n (C : Cx p s m args c cc nL own D ca ad A N n) {q ci idx pc : Nat} {nm : String} {fs : List Value} {r : vw_C} {lv : List (Nat × Value)} {st : List Value} {ws : List va_E} (hat : ∀ H, N H → va_at D vwCl (q, .inr (ci, fs)) H) (hc : vwCl[ci]? = some r) (hkl : Cond.classLink own idx nm ∈ tb) (hca : (r.1, nm) ∈ notL) (hdg : decode cc pc = .ok (.instanceof idx, 3))
    (kk : Wa p l e R s m args below meth c cells slots Q D ca ad A nL N (lv, .int 0 :: st, ws) (pc + 3)) : Wa p l e R s m args below meth c cells slots Q D ca ad A nL N (lv, .ref (q + 100) :: st, ws) pc := fun H locs ls h1 h2 h3 h4 => va_instNo C.1.1 C.1.2.1 C.1.2.2.2.1 (C.1.2.2.2.2 _ hkl) (C.2.1.2.2.2.1 _ hca) (nrc C hat hc H h2 h4) hdg (kk H locs ls h1 h2 h3 h4)
theorem nc_y (C : Cx p s m args c cc nL own D ca ad A N n) {q ci idx pc : Nat} {nm : String} {fs : List Value} {r : vw_C} {lv : List (Nat × Value)} {st : List Value} {ws : List va_E} (hat : ∀ H, N H → va_at D vwCl (q, .inr (ci, fs)) H) (hc : vwCl[ci]? = some r) (hkl : Cond.classLink own idx nm ∈ tb) (hca : (r.1, nm) ∈ castL) (hdg : decode cc pc = .ok (.checkcast idx, 3))
    (kk : Wa p l e R s m args below meth c cells slots Q D ca ad A nL N (lv, .ref (q + 100) :: st, ws) (pc + 3)) : Wa p l e R s m args below meth c cells slots Q D ca ad A nL N (lv, .ref (q + 100) :: st, ws) pc := fun H locs ls h1 h2 h3 h4 => va_castY C.1.1 C.1.2.1 C.1.2.2.2.1 (C.1.2.2.2.2 _ hkl) (C.2.1.2.2.1 _ hca) (nrc C hat hc H h2 h4) hdg (kk H locs ls h1 h2 h3 h4)
theorem ni_0 (C : Cx p s m args c cc nL own D ca ad A N n) {idx pc : Nat} {lv : List (Nat × Value)} {st : List Value} {ws : List va_E} (hdg : decode cc pc = .ok (.instanceof idx, 3))
    (kk : Wa p l e R s m args below meth c cells slots Q D ca ad A nL N (lv, .int 0 :: st, ws) (pc + 3)) : Wa p l e R s m args below meth c cells slots Q D ca ad A nL N (lv, .null :: st, ws) pc := fun H locs ls h1 h2 h3 h4 => lv_instN C.1.1 C.1.2.1 hdg (kk H locs ls h1 h2 h3 h4)
/-- Object() -/
theorem oi (C : Cx p s m args c cc nL own D ca ad A N n) {idx pc t : Nat} {lv : List (Nat × Value)} {st : List Value} {ws : List va_E} (hlk : Cond.methodLink own idx objectInit ∈ tb) (hfr : 1 ≤ R.frames) (hlo : (st.map fun v => v.category).sum + 12 ≤ R.locals) (hdg : decode cc pc = .ok (.invokespecial idx, 3))
    (kk : Wa p l e R s m args below meth c cells slots Q D ca ad A nL N (lv, st, ws) (pc + 3)) : Wa p l e R s m args below meth c cells slots Q D ca ad A nL N (lv, .ref t :: st, ws) pc := by
  intro H locs ls h1 h2 h3 h4
  have hts := C.1.2.2.2.2
  exact W.objInit C.1.1 C.1.2.1 C.1.2.2.2.1 (hts _ hlk) (hts _ im_objectInit) (hts _ cd_objectInit) rfl (h1.1.trans C.1.2.2.1.symm) rfl hdg hfr (by
    have e1 : 2 * (F0 m pc ls ((Value.ref t :: st).map (cv ad))).monitorRoom = 0 := rfl
    rw [cat_map]
    exact (by rw [e1]; omega)) (kk H locs ls h1 h2 h3 h4)
/-- a node that is being made: what was there before, and its own cell -/
def BN (D : va_G) (H0 : Heap) (q ci : Nat) (fs : List Value) : Heap → Prop := fun H => (H0.size ≤ q ∧ ci < 4) ∧ Snap D H0 H ∧ va_at D vwCl (q, .inr (ci, fs)) H
theorem BN.ns {H0 : Heap} {q ci : Nat} {fs : List Value} : NS D (BN D H0 q ci fs) := fun _ _ h hs => ⟨h.1, h.2.1.tr hs, at_snap h.1.2 h.2.2 hs⟩
/-- new, of a node -/
theorem nw (C : Cx p s m args c cc nL own D ca ad A N n) (hN : NS D N) {ci idx pc : Nat} {r : vw_C} {fs : List Value} {lv : List (Nat × Value)} {st : List Value} {ws : List va_E} (hc : vwCl[ci]? = some r) (hci : ci < 4) (hkl : Cond.classLink own idx r.1 ∈ tb) (his : Cond.instantiable r.1 r.2.2 ∈ tb) (hin : Cond.initialized r.1 ∈ tb) (ty : Nat → FieldType) (hty : ∀ k, k < r.2.2 → parseFieldDescriptor (r.2.1 k).2.2.1 = some (ty k)) (hfs : ∀ j, j < r.2.2 → defaultValue (ty j) = vp_V fs j) (hR : cells + 1 ≤ R.cells ∧ slots + r.2.2 ≤ R.slots) (hdg : decode cc pc = .ok (.new idx, 3))
    (kk : ∀ (H0 : Heap) (q : Nat), N H0 → s.heap.size ≤ q → Wa p l e R s m args below meth c (cells + 1) (slots + r.2.2) Q D ca ad A nL (BN D H0 q ci fs) (lv, .ref (q + 100) :: st, ws) (pc + 3)) : Wa p l e R s m args below meth c cells slots Q D ca ad A nL N (lv, st, ws) pc := by
  intro H locs ls h1 h2 h3 h4
  have hts := C.1.2.2.2.2
  have hKn := C.2.1.1.1 ci _ hc
  obtain ⟨C9, T9, N9⟩ := r
  refine W.newcK C.1.1 C.1.2.1 C.1.2.2.2.1 (hts _ hkl) (hts _ his) (hts _ hin) rfl hdg hR.1 hR.2 hKn.2.1 rfl fun H1 kC hkC e1 z1 o1 => ?_
  have hs : Snap D H H1 := ⟨by omega, fun q cell hq _ => by rw [o1 q (Array.getElem?_eq_some_iff.mp hq).1]; exact hq⟩
  have h9 := kk H H.size h4 h3.1 H1 locs ls h1 (h2.kept fun k x hx => o1 x.1 ((h2 k x hx).lt)) ⟨Nat.le_trans h3.1 (by omega), fun x a1 a2 => (o1 x (Nat.lt_of_lt_of_le a1 h3.1)).trans (h3.2.1 x a1 a2), h3.2.2⟩ ⟨⟨Nat.le_refl _, hci⟩, hs, ⟨_, hc, (u_born ty hts (clsOk ci _ hc).1 hKn hkC e1 hty).to hfs⟩⟩
  show W p l e R s m args below meth c H1 locs (cells + 1) (slots + N9) Q (F0 m (pc + 3) ls (.ref H.size :: st.map (cv ad)))
  rw [← cv_raw C H.size]
  exact h9
/-- a final field of a node that is being made -/
theorem np (C : Cx p s m args c cc nL own D ca ad A N n) {H0 : Heap} {q ci k idx pc : Nat} {fs : List Value} {r : vw_C} {v : Value} {ty : FieldType} {lv : List (Nat × Value)} {st : List Value} {ws : List va_E} (hN : ∀ H, N H → BN D H0 q ci fs H) (hww : ws.all nno = true) (hc : vwCl[ci]? = some r) (hk : k < r.2.2) (hfl : Cond.fieldLink own idx (r.2.1 k).1 (r.2.1 k).2.1 (r.2.1 k).2.2.1 ∈ tb) (hfin : (r.2.1 k).2.2.2 = true) (hin : meth.name = "<init>") (hdecl : (r.2.1 k).1 = own) (hd : parseFieldDescriptor (r.2.1 k).2.2.1 = some ty) (hn : narrow ty (cv ad v) = cv ad v) (hfit : fits ty (cv ad v) = true) (hl : k < fs.length) (hAq : A q) (hdg : decode cc pc = .ok (.putfield idx, 3))
    (kk : Wa p l e R s m args below meth c cells slots Q D ca ad A nL (BN D H0 q ci (fs.set k (cv ad v))) (lv, st, ws) (pc + 3)) : Wa p l e R s m args below meth c cells slots Q D ca ad A nL N (lv, v :: .ref (q + 100) :: st, ws) pc := by
  intro H locs ls h1 h2 h3 h4
  have hts := C.1.2.2.2.2
  have hK := C.2.1.1
  obtain ⟨⟨hq0, hci⟩, hsn, hat⟩ := hN H h4
  obtain ⟨hin9, ty0, hty, hnm⟩ := clsOk ci r hc
  obtain ⟨C9, T9, N9⟩ := r
  have hap := va_apart (own := own) hts hin9 ty0 hty hnm hK hc
  have hnd := at_nd hci hat
  obtain ⟨r, g1, cell, q1, q2, q3, q4⟩ := hat
  have hr : r = (C9, T9, N9) := Option.some.inj (g1.symm.trans hc)
  subst hr
  obtain ⟨hS, hfc, kC, hkC, hkind⟩ := hK.1 ci _ hc
  obtain ⟨cf, kf, fi, f, hi, hsl⟩ := hS k hk
  have hlay := hts _ (hin9 _ (u_in_lay hk))
  unfold u_lay at hlay
  rw [if_pos hfin] at hlay
  have hst := (u_facts hfc hkC (u_lays hts hin9 hk) hi).1
  have hcf : m.cls = cf := by
    obtain ⟨_, _, c', _, _, _, -, -, hf', -, -, -, hown2, -⟩ := Cond.laysFinal_spec hlay
    have e1 : c' = cf := by have := hi.symm.trans hf'; simp at this; exact this.1.symm
    rw [hdecl] at hown2
    rw [← e1]; exact Option.some.inj (C.1.2.2.2.1.symm.trans hown2)
  have h6 := u_fits hfc hkC hkind (Or.inr hlay) hi hd hn hfit
  show W p l e R s m args below meth c H locs cells slots Q (F0 m pc ls (cv ad v :: cv ad (.ref (q + 100)) :: st.map (cv ad)))
  rw [cv_raw C]
  refine W.putFinK C.1.1 C.1.2.1 C.1.2.2.2.1 (hts _ hfl) hi hst hcf hin (by rw [q2]; exact h6) q1 q3 (by rw [hsl]; exact k2_hasslot (q4 k hk)) rfl rfl hdg fun H' e1 e2 e3 => ?_
  rw [hsl] at e1 ⊢
  have hsn2 : Snap D H0 H' := ⟨by rw [e2]; exact hsn.1, fun x cl2 a1 a2 => by
    have hx : x < H0.size := (Array.getElem?_eq_some_iff.mp a1).1
    rw [e3 x (Nat.ne_of_lt (Nat.lt_of_lt_of_le hx hq0))]
    exact hsn.2 x cl2 a1 a2⟩
  refine kk H' _ ls h1 (h2.kept fun j x hx => e3 x.1 fun hxe => ?_) (h3.put e2 e3 hAq) ⟨⟨hq0, hci⟩, hsn2, _, hc, t_OB.to (V := updV (vp_V fs) k (cv ad v)) ⟨_, e1, q2, q3, t_set q4 hap hk (cv ad v)⟩ (fun j _ => vp_updV_set hl (cv ad v) j)⟩
  obtain ⟨y, w1, rfl, -⟩ := cw_some hx
  have hny : nno y = true := List.all_eq_true.mp hww y (List.mem_of_getElem? w1)
  obtain ⟨c9, n1, n2⟩ := hnd
  have hxe : ad j = q := hxe
  exact nm_nd C.2.1 hny (h2 j _ hx) (by rw [hxe]; exact n1) n2
end
