/-! cells that are made: the names grow -/
def upA (ad : Nat → Nat) (n q : Nat) : Nat → Nat := fun k => if k = n then q else ad k
/-- two namings say the same of the names below n, and of addresses -/
def Ag (n : Nat) (ad ad' : Nat → Nat) : Prop := ∀ k : Nat, k < n ∨ 100 ≤ k → ad' k = ad k
theorem Ag.rf {n : Nat} {ad : Nat → Nat} : Ag n ad ad := fun _ _ => rfl
theorem Ag.tr {n n' : Nat} {ad ad1 ad2 : Nat → Nat} (hn : n ≤ n') (h1 : Ag n ad ad1) (h2 : Ag n' ad1 ad2) : Ag n ad ad2 := fun k hk => (h2 k (hk.elim (fun h => Or.inl (Nat.lt_of_lt_of_le h hn)) Or.inr)).trans (h1 k hk)
theorem Ag.up {n q : Nat} {ad : Nat → Nat} (hn : n < 100) : Ag n ad (upA ad n q) := fun k hk => if_neg (by omega)
def okv (n : Nat) : Value → Bool
  | .ref k => Nat.blt k n || Nat.ble 100 k
  | _ => true
def oke (n : Nat) : va_E → Bool
  | .inl _ => true
  | .inr o => o.2.all (okv n)
theorem cv_ag {n : Nat} {ad ad' : Nat → Nat} (h : Ag n ad ad') {v : Value} (hv : okv n v = true) : cv ad' v = cv ad v := by
  cases v with
  | ref k =>
    have h1 : (Nat.blt k n || Nat.ble 100 k) = true := hv
    rw [Bool.or_eq_true] at h1
    have h2 : ad' k = ad k := h k (h1.elim (fun a => Or.inl (Nat.le_of_ble_eq_true a)) (fun a => Or.inr (Nat.le_of_ble_eq_true a)))
    simp only [cv, h2]
  | _ => rfl
theorem cvs_ag {n : Nat} {ad ad' : Nat → Nat} (h : Ag n ad ad') {st : List Value} (hv : st.all (okv n) = true) : st.map (cv ad') = st.map (cv ad) := List.map_congr_left fun v hm => cv_ag h (List.all_eq_true.mp hv v hm)
theorem cl_ag {n : Nat} {ad ad' : Nat → Nat} (h : Ag n ad ad') {lv : List (Nat × Value)} (hv : lv.all (fun q => okv n q.2) = true) : cl ad' lv = cl ad lv := List.map_congr_left fun q hm => by rw [cv_ag h (List.all_eq_true.mp hv q hm)]
theorem ce_ag {n : Nat} {ad ad' : Nat → Nat} {ca : Nat → ClassId} (h : Ag n ad ad') {e : va_E} (hv : oke n e = true) : ce ad' ca e = ce ad ca e := by
  cases e with
  | inl x => rfl
  | inr o => simp only [ce]; rw [cvs_ag h hv]
theorem cw_ag {n : Nat} {ad ad' : Nat → Nat} {ca : Nat → ClassId} (h : Ag n ad ad') : ∀ (ws : List va_E) (j : Nat), ws.all (oke n) = true → j + ws.length ≤ n → cw ad' ca j ws = cw ad ca j ws := by
  intro ws
  induction ws with
  | nil => intro j _ _; rfl
  | cons e r ih =>
    intro j hv hl
    simp only [List.all_cons, Bool.and_eq_true] at hv
    simp only [List.length_cons] at hl
    simp only [cw]
    rw [ih (j + 1) hv.2 (by omega), ce_ag h hv.1, h j (Or.inl (by omega))]
theorem cw_app (ad : Nat → Nat) (ca : Nat → ClassId) : ∀ (w1 w2 : List va_E) (j : Nat), cw ad ca j (w1 ++ w2) = cw ad ca j w1 ++ cw ad ca (j + w1.length) w2 := by
  intro w1
  induction w1 with
  | nil => intro w2 j; rfl
  | cons e r ih =>
    intro w2 j
    simp only [List.cons_append, cw, List.length_cons]
    rw [ih, show j + 1 + r.length = j + (r.length + 1) by omega]
theorem AD.up {ad : Nat → Nat} {n q : Nat} (h : AD ad n) (hn : n < 100) (hq : ∀ k, k < n → ad k < q) : AD (upA ad n q) (n + 1) := by
  refine ⟨fun i j hi hj e => ?_, fun k => ?_⟩
  · unfold upA at e
    by_cases h1 : i = n
    · by_cases h2 : j = n
      · omega
      · rw [if_pos h1, if_neg h2] at e
        have := hq j (by omega)
        omega
    · by_cases h2 : j = n
      · rw [if_neg h1, if_pos h2] at e
        have := hq i (by omega)
        omega
      · rw [if_neg h1, if_neg h2] at e
        exact h.1 i j (by omega) (by omega) e
  · rw [upA, if_neg (by omega)]
    exact h.2 k
section
variable {p : Program} {l : Launch} {e : Env} {R : Room} {s : State} {m : MethodId} {args : Array Value} {below : List Frame} {meth : Method} {c : Code} {cells slots : Nat} {Q : State → Prop}
variable {cc : ByteArray} {nL n : Nat} {own : String} {D : va_G} {ca : Nat → ClassId} {ad : Nat → Nat} {A : Nat → Prop} {N : Heap → Prop}
theorem Cx.up {ad' : Nat → Nat} {n' : Nat} {N2 : Heap → Prop} (C : Cx p s m args c cc nL own D ca ad A N n) (hN : NS D N2) (hg : Ag n ad ad') (hAD : AD ad' n') (hf : ∀ k, n ≤ k → k < n' → s.heap.size ≤ ad' k) : Cx p s m args c cc nL own D ca ad' A N2 n' := ⟨C.1, C.2.1, ns_write C.2.1 hN, hAD, fun k hk => by
  by_cases h : k < n
  · rw [hg k (Or.inl h)]; exact C.2.2.2.2.1 k h
  · exact C.2.2.2.2.2 _ (hf k (by omega) hk), C.2.2.2.2.2⟩
theorem cw_lt {ws : List va_E} {H : Heap} (h : va_P D vwCl (cw ad ca 0 ws) H) {k : Nat} (hk : k < ws.length) : ad k < H.size := by
  have h1 : ws[k]? = some ws[k] := List.getElem?_eq_getElem hk
  have h2 : (cw ad ca 0 ws)[k]? = some (ad k, ce ad ca ws[k]) := by rw [cw_at, h1]; simp
  exact (h k _ h2).lt
/-- the world with one cell more -/
theorem cw_grow {ws : List va_E} {H H1 : Heap} {x : va_E} (hlen : ws.length = n) (hn : n < 100) (hws : ws.all (oke n) = true) (hP : va_P D vwCl (cw ad ca 0 ws) H) (o1 : ∀ q, q < H.size → H1[q]? = H[q]?) (hx : va_at D vwCl (H.size, ce (upA ad n H.size) ca x) H1) : va_P D vwCl (cw (upA ad n H.size) ca 0 (ws ++ [x])) H1 := by
  rw [cw_app]
  refine va_P.app ?_ ?_
  · rw [cw_ag (Ag.up hn) ws 0 hws (by omega)]
    exact hP.kept fun k x hx => o1 x.1 ((hP k x hx).lt)
  · intro k y hy
    have hz : k < 1 := (List.getElem?_eq_some_iff.mp hy).1
    rw [show k = 0 by omega] at hy
    simp only [cw, List.getElem?_cons_zero, Option.some.injEq] at hy
    subst hy
    rw [Nat.zero_add, hlen, show upA ad n H.size n = H.size from if_pos rfl]
    exact hx
/-- new, of an object that gets a name -/
theorem gN (C : Cx p s m args c cc nL own D ca ad A N n) (hN : NS D N) (hn : n < 100) {ci idx pc : Nat} {r : vw_C} {fs : List Value} {lv : List (Nat × Value)} {st : List Value} {ws : List va_E} (hlen : ws.length = n) (hc : vwCl[ci]? = some r) (hkl : Cond.classLink own idx r.1 ∈ tb) (his : Cond.instantiable r.1 r.2.2 ∈ tb) (hin : Cond.initialized r.1 ∈ tb) (ty : Nat → FieldType) (hty : ∀ k, k < r.2.2 → parseFieldDescriptor (r.2.1 k).2.2.1 = some (ty k)) (hfs : ∀ j, j < r.2.2 → defaultValue (ty j) = vp_V fs j) (hfs0 : ∀ a : Nat → Nat, fs.map (cv a) = fs) (hR : cells + 1 ≤ R.cells ∧ slots + r.2.2 ≤ R.slots) (hlv : lv.all (fun q => okv n q.2) = true) (hst : st.all (okv n) = true) (hws : ws.all (oke n) = true) (hdg : decode cc pc = .ok (.new idx, 3))
    (kk : ∀ ad2 : Nat → Nat, Ag n ad ad2 → s.heap.size ≤ ad2 n → AD ad2 (n + 1) → Cx p s m args c cc nL own D ca ad2 A N (n + 1) → Wa p l e R s m args below meth c (cells + 1) (slots + r.2.2) Q D ca ad2 A nL N (lv, .ref n :: st, ws ++ [.inr (ci, fs)]) (pc + 3)) : Wa p l e R s m args below meth c cells slots Q D ca ad A nL N (lv, st, ws) pc := by
  intro H locs ls h1 h2 h3 h4
  have hts := C.1.2.2.2.2
  have hKn := C.2.1.1.1 ci _ hc
  obtain ⟨C9, T9, N9⟩ := r
  refine W.newcK C.1.1 C.1.2.1 C.1.2.2.2.1 (hts _ hkl) (hts _ his) (hts _ hin) rfl hdg hR.1 hR.2 hKn.2.1 rfl fun H1 kC hkC e1 z1 o1 => ?_
  have hs : Snap D H H1 := ⟨by omega, fun q cell hq _ => by rw [o1 q (Array.getElem?_eq_some_iff.mp hq).1]; exact hq⟩
  have hup : upA ad n H.size n = H.size := if_pos rfl
  have hAD : AD (upA ad n H.size) (n + 1) := C.2.2.2.1.up hn (fun k hk => cw_lt (ws := ws) h2 (by omega))
  have hfr : s.heap.size ≤ upA ad n H.size n := by rw [hup]; exact h3.1
  have h9 := kk (upA ad n H.size) (Ag.up hn) hfr hAD (C.up hN (Ag.up hn) hAD (fun k a1 a2 => by rw [show k = n by omega]; exact hfr)) H1 locs ls (by rw [cl_ag (Ag.up hn) hlv]; exact h1) (cw_grow hlen hn hws h2 o1 (by
      simp only [ce]
      rw [hfs0]
      exact ⟨_, hc, (u_born ty hts (clsOk ci _ hc).1 hKn hkC e1 hty).to hfs⟩)) ⟨Nat.le_trans h3.1 (by omega), fun x a1 a2 => (o1 x (Nat.lt_of_lt_of_le a1 h3.1)).trans (h3.2.1 x a1 a2), h3.2.2⟩ (hN _ _ h4 hs)
  have e9 : ((Value.ref n :: st).map (cv (upA ad n H.size))) = .ref H.size :: st.map (cv ad) := by
    rw [List.map_cons, cvs_ag (Ag.up hn) hst]
    simp only [cv, hup]
  rw [show ((lv, Value.ref n :: st, ws ++ [.inr (ci, fs)]) : AS).2.1 = .ref n :: st from rfl, e9] at h9
  exact h9
/-- newarray -/
theorem gA (C : Cx p s m args c cc nL own D ca ad A N n) (hN : NS D N) (hn : n < 100) {j pc N' : Nat} {atype : ArrayType} {a0 : vp_A} {x : Int32} {lv : List (Nat × Value)} {st : List Value} {ws : List va_E} (hlen : ws.length = n) (harr : Cond.arrayClass (newarray.typeOf atype) ∈ tb) (hca : ∀ cA, ArrOfT s cA (newarray.typeOf atype) → s.vm.findClass ("[" ++ (newarray.typeOf atype).toString) = some cA → cA = ca j) (ha : ∀ cA : ClassId, vp_cell cA a0 = arrV cA N' (fun _ => defaultValue (newarray.typeOf atype))) (hx0 : ¬ x < 0) (hxN : x.toNatClampNeg = N') (hbytes : N' * componentBytes (newarray.typeOf atype) ≤ 536870912) (hR : cells + 1 ≤ R.cells ∧ slots + N' ≤ R.slots) (hlv : lv.all (fun q => okv n q.2) = true) (hst : st.all (okv n) = true) (hws : ws.all (oke n) = true) (hdg : decode cc pc = .ok (.newarray atype, 2))
    (kk : ∀ ad2 : Nat → Nat, Ag n ad ad2 → s.heap.size ≤ ad2 n → AD ad2 (n + 1) → Cx p s m args c cc nL own D ca ad2 A N (n + 1) → Wa p l e R s m args below meth c (cells + 1) (slots + N') Q D ca ad2 A nL N (lv, .ref n :: st, ws ++ [.inl (j, a0)]) (pc + 2)) : Wa p l e R s m args below meth c cells slots Q D ca ad A nL N (lv, .int x :: st, ws) pc := by
  intro H locs ls h1 h2 h3 h4
  have hts := C.1.2.2.2.2
  refine va_newaK C.1.1 C.1.2.1 (hts _ harr) rfl hdg rfl hx0 hxN hbytes hR.1 hR.2 rfl fun H1 cA e1 z1 o1 hAr hNm => ?_
  have hcA := hca cA hAr hNm
  subst hcA
  have hs : Snap D H H1 := ⟨by omega, fun q cell hq _ => by rw [o1 q (Array.getElem?_eq_some_iff.mp hq).1]; exact hq⟩
  have hup : upA ad n H.size n = H.size := if_pos rfl
  have hAD : AD (upA ad n H.size) (n + 1) := C.2.2.2.1.up hn (fun k hk => cw_lt (ws := ws) h2 (by omega))
  have hfr : s.heap.size ≤ upA ad n H.size n := by rw [hup]; exact h3.1
  have h9 := kk (upA ad n H.size) (Ag.up hn) hfr hAD (C.up hN (Ag.up hn) hAD (fun k a1 a2 => by rw [show k = n by omega]; exact hfr)) H1 locs ls (by rw [cl_ag (Ag.up hn) hlv]; exact h1) (cw_grow hlen hn hws h2 o1 (by
      show H1[H.size]? = some (vp_cell (ca j) a0)
      rw [ha]
      exact e1)) ⟨Nat.le_trans h3.1 (by omega), fun x a1 a2 => (o1 x (Nat.lt_of_lt_of_le a1 h3.1)).trans (h3.2.1 x a1 a2), h3.2.2⟩ (hN _ _ h4 hs)
  have e9 : ((Value.ref n :: st).map (cv (upA ad n H.size))) = .ref H.size :: st.map (cv ad) := by
    rw [List.map_cons, cvs_ag (Ag.up hn) hst]
    simp only [cv, hup]
  rw [show ((lv, Value.ref n :: st, ws ++ [.inl (j, a0)]) : AS).2.1 = .ref n :: st from rfl, e9] at h9
  exact h9
theorem ca_int (C : Cx p s m args c cc nL own D ca ad A N n) : ∀ cA, ArrOfT s cA (newarray.typeOf .int) → s.vm.findClass ("[" ++ (newarray.typeOf .int).toString) = some cA → cA = ca 0 := fun cA _ h => Option.some.inj ((va_nm_int (s := s) (cA := cA) h).symm.trans (va_nm_int (C.2.1.1.2 0 _ rfl).2))
theorem ca_long (C : Cx p s m args c cc nL own D ca ad A N n) : ∀ cA, ArrOfT s cA (newarray.typeOf .long) → s.vm.findClass ("[" ++ (newarray.typeOf .long).toString) = some cA → cA = ca 1 := fun cA _ h => Option.some.inj ((va_nm_long (s := s) (cA := cA) h).symm.trans (va_nm_long (C.2.1.1.2 1 _ rfl).2))
/-- anewarray, of nodes -/
theorem gQ (C : Cx p s m args c cc nL own D ca ad A N n) (hN : NS D N) (hn : n < 100) {idx pc N' : Nat} {x : Int32} {lv : List (Nat × Value)} {st : List Value} {ws : List va_E} (hlen : ws.length = n) (hkl : Cond.classLink own idx "PathProofs$Node" ∈ tb) (hx0 : ¬ x < 0) (hxN : x.toNatClampNeg = N') (hbytes : N' * 4 ≤ 536870912) (hR : cells + 1 ≤ R.cells ∧ slots + N' ≤ R.slots) (hlv : lv.all (fun q => okv n q.2) = true) (hst : st.all (okv n) = true) (hws : ws.all (oke n) = true) (hdg : decode cc pc = .ok (.anewarray idx, 3))
    (kk : ∀ ad2 : Nat → Nat, Ag n ad ad2 → s.heap.size ≤ ad2 n → AD ad2 (n + 1) → Cx p s m args c cc nL own D ca ad2 A N (n + 1) → Wa p l e R s m args below meth c (cells + 1) (slots + N') Q D ca ad2 A nL N (lv, .ref n :: st, ws ++ [.inl (2, N', .inr (.inr (.inr (.inr (fun _ => none)))))]) (pc + 3)) : Wa p l e R s m args below meth c cells slots Q D ca ad A nL N (lv, .int x :: st, ws) pc := by
  intro H locs ls h1 h2 h3 h4
  have hts := C.1.2.2.2.2
  subst hxN
  refine W.anew C.1.1 C.1.2.1 C.1.2.2.2.1 (hts _ hkl) (va_AO.use C.2.1.2.2.2.2) rfl hdg rfl hx0 hbytes hR.1 hR.2 fun cA kA comp f1 f2 f3 f4 => ?_
  obtain ⟨kA9, comp9, -, -, -, k4⟩ := (C.2.1.1.2 2 _ rfl).2
  have hcA : cA = ca 2 := Option.some.inj (f1.symm.trans k4)
  subst hcA
  generalize hH1 : H.push ({ cls := ca 2, slots := Array.replicate x.toNatClampNeg .null, vm := .none } : Cell) = H1
  have z1 : H1.size = H.size + 1 := by rw [← hH1, Array.size_push]
  have e1 : H1[H.size]? = some (arrV (ca 2) x.toNatClampNeg (fun _ => .null)) := by rw [← hH1, Array.getElem?_push_size, ← arrV_new]
  have o1 : ∀ q : Nat, q < H.size → H1[q]? = H[q]? := fun q hq => by rw [← hH1, Array.getElem?_push, if_neg (Nat.ne_of_lt hq)]
  have hs : Snap D H H1 := ⟨by omega, fun q cell hq _ => by rw [o1 q (Array.getElem?_eq_some_iff.mp hq).1]; exact hq⟩
  have hup : upA ad n H.size n = H.size := if_pos rfl
  have hAD : AD (upA ad n H.size) (n + 1) := C.2.2.2.1.up hn (fun k hk => cw_lt (ws := ws) h2 (by omega))
  have hfr : s.heap.size ≤ upA ad n H.size n := by rw [hup]; exact h3.1
  have h9 := kk (upA ad n H.size) (Ag.up hn) hfr hAD (C.up hN (Ag.up hn) hAD (fun k a1 a2 => by rw [show k = n by omega]; exact hfr)) H1 locs ls (by rw [cl_ag (Ag.up hn) hlv]; exact h1) (cw_grow hlen hn hws h2 o1 (by
      show H1[H.size]? = some (vp_cell (ca 2) _)
      rw [vp_cell_q]
      exact e1)) ⟨Nat.le_trans h3.1 (by omega), fun x a1 a2 => (o1 x (Nat.lt_of_lt_of_le a1 h3.1)).trans (h3.2.1 x a1 a2), h3.2.2⟩ (hN _ _ h4 hs)
  have e9 : ((Value.ref n :: st).map (cv (upA ad n H.size))) = .ref H.size :: st.map (cv ad) := by
    rw [List.map_cons, cvs_ag (Ag.up hn) hst]
    simp only [cv, hup]
  rw [show ((lv, Value.ref n :: st, ws ++ [.inl (2, x.toNatClampNeg, .inr (.inr (.inr (.inr (fun _ => none)))))]) : AS).2.1 = .ref n :: st from rfl, e9] at h9
  exact h9
/-- a final field of a named object that is being made -/
theorem pF (C : Cx p s m args c cc nL own D ca ad A N n) {t ci k idx pc : Nat} {fs : List Value} {r : vw_C} {v : Value} {ty : FieldType} {lv : List (Nat × Value)} {st : List Value} {ws ws2 : List va_E} (hlen : ws.length = n) (ht : nth ws t = some (.inr (ci, fs))) (hno : 4 ≤ ci) (hc : vwCl[ci]? = some r) (hk : k < r.2.2) (hfl : Cond.fieldLink own idx (r.2.1 k).1 (r.2.1 k).2.1 (r.2.1 k).2.2.1 ∈ tb) (hfin : (r.2.1 k).2.2.2 = true) (hin : meth.name = "<init>") (hdecl : (r.2.1 k).1 = own) (hd : parseFieldDescriptor (r.2.1 k).2.2.1 = some ty) (hn : narrow ty (cv ad v) = cv ad v) (hfit : fits ty (cv ad v) = true) (hl : k < fs.length) (hw2 : ws2 = ws.set t (.inr (ci, fs.set k v))) (hdg : decode cc pc = .ok (.putfield idx, 3))
    (kk : Wa p l e R s m args below meth c cells slots Q D ca ad A nL N (lv, st, ws2) (pc + 3)) : Wa p l e R s m args below meth c cells slots Q D ca ad A nL N (lv, v :: .ref t :: st, ws) pc := by
  intro H locs ls h1 h2 h3 h4
  have hts := C.1.2.2.2.2
  have hK := C.2.1.1
  have hDD : va_D A (cw ad ca 0 ws) := cw_D hlen C.2.2.2.1 C.2.2.2.2.1
  obtain ⟨hin9, ty0, hty, hnm⟩ := clsOk ci r hc
  obtain ⟨C9, T9, N9⟩ := r
  have hap := va_apart (own := own) hts hin9 ty0 hty hnm hK hc
  rw [nth_eq] at ht
  have hat : (cw ad ca 0 ws)[t]? = some (ad t, .inr (ci, fs.map (cv ad))) := by rw [cw_at, ht]; simp [ce]
  have hat2 := h2 t _ hat
  obtain ⟨r, g1, cell, q1, q2, q3, q4⟩ := h2 t _ hat
  have hr : r = (C9, T9, N9) := Option.some.inj (g1.symm.trans hc)
  subst hr
  obtain ⟨hS, hfc, kC, hkC, hkind⟩ := hK.1 ci _ hc
  obtain ⟨cf, kf, fi, f, hi, hsl⟩ := hS k hk
  have hlay := hts _ (hin9 _ (u_in_lay hk))
  unfold u_lay at hlay
  rw [if_pos hfin] at hlay
  have hst := (u_facts hfc hkC (u_lays hts hin9 hk) hi).1
  have hcf : m.cls = cf := by
    obtain ⟨_, _, c', _, _, _, -, -, hf', -, -, -, hown2, -⟩ := Cond.laysFinal_spec hlay
    have e1 : c' = cf := by have := hi.symm.trans hf'; simp at this; exact this.1.symm
    rw [hdecl] at hown2
    rw [← e1]; exact Option.some.inj (C.1.2.2.2.1.symm.trans hown2)
  have h6 := u_fits hfc hkC hkind (Or.inr hlay) hi hd hn hfit
  show W p l e R s m args below meth c H locs cells slots Q (F0 m pc ls (cv ad v :: .ref (ad t) :: st.map (cv ad)))
  refine W.putFinK C.1.1 C.1.2.1 C.1.2.2.2.1 (hts _ hfl) hi hst hcf hin (by rw [q2]; exact h6) q1 q3 (by rw [hsl]; exact k2_hasslot (q4 k hk)) rfl rfl hdg fun H' e1 e2 e3 => ?_
  rw [hsl] at e1 ⊢
  have hP2 : va_P D vwCl ((cw ad ca 0 ws).set t (ad t, .inr (ci, (fs.map (cv ad)).set k (cv ad v)))) H' := h2.set hDD hat ⟨_, hc, t_OB.to (V := updV (vp_V (fs.map (cv ad))) k (cv ad v)) ⟨_, e1, q2, q3, t_set q4 hap hk (cv ad v)⟩ (fun j _ => vp_updV_set (by simpa using hl) (cv ad v) j)⟩ e3
  refine kk H' _ ls h1 ?_ (h3.put e2 e3 (hDD.2 t _ hat)) (C.2.2.1 H H' t (.inr (ci, fs)) (by rw [nno]; exact Nat.ble_eq_true_of_le hno) (by simpa [ce] using hat2) e2 e3 h4)
  show va_P D vwCl (cw ad ca 0 ws2) H'
  rw [hw2, cw_set, Nat.zero_add]
  simpa [ce, List.map_set] using hP2
end
theorem fr_app {sz n n1 n2 : Nat} {ad1 ad2 : Nat → Nat} (hf : ∀ k, n ≤ k → k < n1 → sz ≤ ad1 k) (hg : Ag n1 ad1 ad2) (hf2 : ∀ k, n1 ≤ k → k < n2 → sz ≤ ad2 k) : ∀ k, n ≤ k → k < n2 → sz ≤ ad2 k := fun k a b => by
  by_cases h : k < n1
  · rw [hg k (Or.inl h)]; exact hf k a h
  · exact hf2 k (by omega) b
theorem fr_one {sz n : Nat} {ad2 : Nat → Nat} (h : sz ≤ ad2 n) : ∀ k, n ≤ k → k < n + 1 → sz ≤ ad2 k := fun k a b => by rw [show k = n by omega]; exact h
theorem fr_0 {sz n : Nat} {ad2 : Nat → Nat} : ∀ k, n ≤ k → k < n → sz ≤ ad2 k := fun k a b => absurd b (by omega)
/-- what a constructor leaves, that names cells of its own -/
def CQn (D : va_G) (ca : Nat → ClassId) (n : Nat) (ad : Nat → Nat) (sz : Nat) (G : List va_E → Heap → Prop) (A : Nat → Prop) : Array Value → State → Outcome → State → Prop := fun _ st oc t => (∃ (ad' : Nat → Nat) (ws' : List va_E), Ag n ad ad' ∧ AD ad' ws'.length ∧ (∀ k, n ≤ k → k < ws'.length → sz ≤ ad' k) ∧ oc = .returned none ∧ va_P D vwCl (cw ad' ca 0 ws') t.heap ∧ G ws' t.heap) ∧ va_F A st t
def CtN (l : Launch) (y : MethodName) (bytes : ByteArray) (maxL : Nat) (rm : Room) (D : va_G) (ca : Nat → ClassId) (ad : Nat → Nat) (ws : List va_E) (n : Nat) (av : List Value) (N : Heap → Prop) (G : List va_E → Heap → Prop) : Prop :=
  ∀ sz : Nat, Met l y (Cond.code y bytes maxL none :: tb) rm (CPre D ca ad ws sz av N) (CQn D ca n ad sz G (Fr ad n sz)) rm.cells rm.slots (Fr ad n sz)
theorem enterN {l : Launch} {y : MethodName} {cc : ByteArray} {maxL n : Nat} {rm : Room} {D : va_G} {ca : Nat → ClassId} {ad : Nat → Nat} {ws : List va_E} {av : List Value} {N : Heap → Prop} {G : List va_E → Heap → Prop} {lv : List (Nat × Value)} (hy : plainName y.cls = true) (hlen : (lg_sl (av.map (cv ad))).length ≤ maxL) (hlv : lv_args 0 av = lv) (hAD : AD ad n) (hNS : ∀ U, KS D ca U → NSt D ca ad N)
    (body : ∀ (p : Program) (e : Env) (s : State) (m : MethodId) (below : List Frame) (meth : Method) (c : Code) (A : Nat → Prop) (args : Array Value), A = Fr ad n s.heap.size → Cx p s m args c cc maxL y.cls D ca ad A N n → meth.sig.returnType = none → meth.locks = false → meth.name = y.name → Wa p l e rm s m args below meth c 0 0 (MQ below (CQn D ca n ad s.heap.size G A) args s rm.cells rm.slots A) D ca ad A maxL N (lv, [], ws) 0) : CtN l y cc maxL rm D ca ad ws n av N G := by
  intro sz
  refine Met.ofW (cc := cc) (maxL := maxL) (ret := none) hy rfl ?_
  intro p e s m args below meth c s₁ B hml hv
  obtain ⟨rfl, hsz, hP, hK, hN⟩ := hv
  have hts := atoms_spec (ws := Cond.code y cc maxL none :: tb) B.pre
  have hown : s.vm.findClass y.cls = some m.cls := findClass_of_methodNamed B.named
  subst hsz
  have hl := lv_entry (av.map (cv ad)) (n := maxL) hlen
  rw [lg_entry_eq]
  generalize (lg_sl (av.map (cv ad)) ++ List.replicate (maxL - (lg_sl (av.map (cv ad))).length) Slot.unset).toArray = ls at hl ⊢
  rw [lv_args_cl, hlv] at hl
  exact body p e s m below meth c (Fr ad n s.heap.size) _ rfl ⟨⟨B.exec, B.bytes, hml, hown, fun w hw => hts w (List.mem_cons_of_mem _ hw)⟩, hK, hNS s hK, hAD, fun k hk => Or.inl ⟨k, hk, rfl⟩, fun q hq => Or.inr hq⟩ B.returns B.notSynchronized (name_of_methodNamed B.named B.method).1 s.heap [] ls hl hP va_S.rf hN
section
variable {p : Program} {l : Launch} {e : Env} {R : Room} {s : State} {m : MethodId} {args : Array Value} {below : List Frame} {meth : Method} {c : Code} {cells slots : Nat} {Q : State → Prop}
variable {cc : ByteArray} {nL n n1 : Nat} {own : String} {D : va_G} {ca : Nat → ClassId} {ad ad1 : Nat → Nat} {A : Nat → Prop} {N : Heap → Prop}
theorem rt_N (C : Cx p s m args c cc nL own D ca ad1 A N n1) (hg : Ag n ad ad1) (hf : ∀ k, n ≤ k → k < n1 → s.heap.size ≤ ad1 k) {G : List va_E → Heap → Prop} {pc : Nat} {lv : List (Nat × Value)} {ws : List va_E} (hlen : ws.length = n1) (hr : meth.sig.returnType = none) (hlocks : meth.locks = false) (hdg : decode cc pc = .ok (.return_, 1)) (hq : ∀ H, N H → G ws H) : Wa p l e R s m args below meth c cells slots (MQ below (CQn D ca n ad s.heap.size G A) args s cells slots A) D ca ad1 A nL N (lv, [], ws) pc := fun H locs ls _ h2 h3 h4 => W.vret C.1.1 C.1.2.1 hr (fun t ht _ => ⟨⟨ad1, ws, hg, by rw [hlen]; exact C.2.2.2.1, by rw [hlen]; exact hf, rfl, by rw [ht]; exact h2, by rw [ht]; exact hq H h4⟩, h3.F ht⟩) h3.2.2 hdg
/-- an int, from a method that had cells of its own -/
theorem rt_iX (C : Cx p s m args c cc nL own D ca ad1 A N n1) (hg : Ag n ad ad1) {G : Option Value → List va_E → Heap → Prop} {v : Int32} {pc : Nat} {lv : List (Nat × Value)} {ws ex : List va_E} (hlen : ws.length = n) (hws : ws.all (oke n) = true) (hr : meth.sig.returnType = some .int) (hlocks : meth.locks = false) (hdg : decode cc pc = .ok (.ireturn, 1)) (hq : ∀ H, N H → G (some (.int v)) ws H) : Wa p l e R s m args below meth c cells slots (MQ below (CQ D ca ad G A) args s cells slots A) D ca ad1 A nL N (lv, [.int v], ws ++ ex) pc := fun H locs ls _ h2 h3 h4 => W.iret C.1.1 C.1.2.1 hr (fun t ht _ => ⟨⟨some (.int v), ws, rfl, by
    rw [ht, ← cw_ag hg ws 0 hws (by omega)]
    have h2 : va_P D vwCl (cw ad1 ca 0 (ws ++ ex)) H := h2
    rw [cw_app] at h2
    intro k q hk
    exact h2 k q (by rw [List.getElem?_append_left (List.getElem?_eq_some_iff.mp hk).1]; exact hk), by rw [ht]; exact hq H h4⟩, h3.F ht⟩) h3.2.2 hdg
theorem gcallN (C : Cx p s m args c cc nL own D ca ad A N n) {pc mc ms : Nat} {ls : Array Slot} {H : Heap} {locs : List Loc} {st0 rest : List Value} {a : Array Value} {G : List va_E → Heap → Prop} {lv : List (Nat × Value)} (hr : va_Run p l e R s m args below meth c H locs cells slots mc ms (F0 m pc ls st0) (rest.map (cv ad)) (CQn D ca n ad H.size G (Fr ad n H.size) a) (Fr ad n H.size)) (hl : lv_has ls nL (cl ad lv)) (hS : va_S A s.heap H locs) (hlv : lv.all (fun q => okv n q.2) = true) (hst : rest.all (okv n) = true)
    (kk : ∀ (ad' : Nat → Nat) (ws' : List va_E), Ag n ad ad' → AD ad' ws'.length → (∀ k, n ≤ k → k < ws'.length → s.heap.size ≤ ad' k) → Wa p l e R s m args below meth c (cells + mc) (slots + ms) Q D ca ad' A nL (G ws') (lv, rest, ws') (pc + 3)) : W p l e R s m args below meth c H locs cells slots Q (F0 m pc ls st0) := by
  intro T hT X
  obtain ⟨v, st₀, t, T', L, h0, X', hL, e1, e2, ⟨⟨ad', ws2, hg, hAD, hf, hv, hp, hgg⟩, hz, hk⟩, st⟩ := hr T hT X
  cases hv
  rw [h0] at hz hk
  have hA : ∀ q, Fr ad n H.size q → A q := fun q h => h.elim (fun ⟨k, h1, h2⟩ => by rw [h2]; exact C.2.2.2.2.1 k h1) (fun h => C.2.2.2.2.2 q (Nat.le_trans hS.1 h))
  have hS1 : va_S A s.heap T'.heap (locs ++ L) := ⟨Nat.le_trans hS.1 (by rw [e1]; exact hz), fun q h1 h2 => by rw [e1, hk q (Nat.lt_of_lt_of_le h1 hS.1) (fun z => h2 (hA q z))]; exact hS.2.1 q h1 h2, fun q hq => by
      rcases List.mem_append.mp hq with h | h
      · exact hS.2.2 q h
      · exact hA _ (hL q h)⟩
  obtain ⟨t2, a1, b1⟩ := kk ad' ws2 hg hAD (fun k x1 x2 => Nat.le_trans hS.1 (hf k x1 x2)) T'.heap (locs ++ L) ls (by rw [cl_ag hg hlv]; exact hl) (by rw [e1]; exact hp) hS1 (by rw [e1]; exact hgg) T' rfl X'
  have hst2 : rest.map (cv ad') = rest.map (cv ad) := cvs_ag hg hst
  rw [show ((lv, rest, ws2) : AS).2.1 = rest from rfl, hst2] at a1
  exact ⟨t2, st t2 a1, b1⟩
/-- a constructor of a named object -/
theorem cl_iN (C : Cx p s m args c cc nL own D ca ad A N n) {y : MethodName} {bytes : ByteArray} {maxL k idx pc t : Nat} {rm : Room} {ws : List va_E} {av rest st : List Value} {lv : List (Nat × Value)} {G : List va_E → Heap → Prop} (hM : CtN l y bytes maxL rm D ca ad ws n (.ref t :: av) N G) (hcd : Cond.code y bytes maxL none ∈ tb) (hini : Cond.initialized y.cls ∈ tb) (hlk : Cond.methodLink own idx y ∈ tb) (him : Cond.instanceMethod y ∈ tb) (hnm : y.name = "<init>")
    (hd : y.cls ≠ "java/lang/invoke/MethodHandle" ∧ y.cls ≠ "java/lang/invoke/VarHandle" ∧ (parseMethodDescriptor y.desc).map (fun d => d.parameters.length) = some k) (hk : av.length = k) (hst : av.reverse ++ .ref t :: rest = st) (hR : rm.frames + 1 ≤ R.frames ∧ 8 + (maxL + 11) + rm.locals ≤ R.locals) (hR2 : cells + rm.cells ≤ R.cells ∧ slots + rm.slots ≤ R.slots) (hcat : (rest.map fun v => v.category).sum ≤ 8) (hlv : lv.all (fun q => okv n q.2) = true) (hst2 : rest.all (okv n) = true) (hdg : decode cc pc = .ok (.invokespecial idx, 3))
    (kk : ∀ (ad' : Nat → Nat) (ws' : List va_E), Ag n ad ad' → AD ad' ws'.length → (∀ k, n ≤ k → k < ws'.length → s.heap.size ≤ ad' k) → Wa p l e R s m args below meth c (cells + rm.cells) (slots + rm.slots) Q D ca ad' A nL (G ws') (lv, rest, ws') (pc + 3)) : Wa p l e R s m args below meth c cells slots Q D ca ad A nL N (lv, st, ws) pc := by
  intro H locs ls h1 h2 h3 h4
  subst hst
  have hts := C.1.2.2.2.2
  refine gcallN C (a := (Value.ref (ad t) :: av.map (cv ad)).toArray) (va_runI (As := av.map (cv ad)) (b := ad t) (n := k) C.1 (hM H.size) ⟨callB_of k hts (tb_gi hcd) rfl rfl rfl (hts _ hini) (hts _ hlk) hd hR, hnm, hts _ him⟩ ⟨CPre_blind, fun U hU hW => ⟨rfl, by rw [hU], by rw [hU]; exact h2, C.2.1.warm hW, by rw [hU]; exact h4⟩⟩ rfl (by simpa using hk) h1.1 (by rw [show (.ref (ad t) : Value) = cv ad (.ref t) from rfl]; simp) (lv_room (by rw [cat_map]; exact hcat)) hdg hR2) h1 h3 hlv hst2 kk
/-- the same, of a nest mate -/
theorem cl_iNN (C : Cx p s m args c cc nL own D ca ad A N n) {y : MethodName} {bytes : ByteArray} {maxL k idx pc t : Nat} {rm : Room} {ws : List va_E} {av rest st : List Value} {lv : List (Nat × Value)} {G : List va_E → Heap → Prop} (hM : CtN l y bytes maxL rm D ca ad ws n (.ref t :: av) N G) (hcd : Cond.code y bytes maxL none ∈ tb) (hini : Cond.initialized y.cls ∈ tb) (hlk : (own, idx, y) ∈ nestL) (him : Cond.instanceMethod y ∈ tb) (hnm : y.name = "<init>")
    (hd : y.cls ≠ "java/lang/invoke/MethodHandle" ∧ y.cls ≠ "java/lang/invoke/VarHandle" ∧ (parseMethodDescriptor y.desc).map (fun d => d.parameters.length) = some k) (hk : av.length = k) (hst : av.reverse ++ .ref t :: rest = st) (hR : rm.frames + 1 ≤ R.frames ∧ 8 + (maxL + 11) + rm.locals ≤ R.locals) (hR2 : cells + rm.cells ≤ R.cells ∧ slots + rm.slots ≤ R.slots) (hcat : (rest.map fun v => v.category).sum ≤ 8) (hlv : lv.all (fun q => okv n q.2) = true) (hst2 : rest.all (okv n) = true) (hdg : decode cc pc = .ok (.invokespecial idx, 3))
    (kk : ∀ (ad' : Nat → Nat) (ws' : List va_E), Ag n ad ad' → AD ad' ws'.length → (∀ k, n ≤ k → k < ws'.length → s.heap.size ≤ ad' k) → Wa p l e R s m args below meth c (cells + rm.cells) (slots + rm.slots) Q D ca ad' A nL (G ws') (lv, rest, ws') (pc + 3)) : Wa p l e R s m args below meth c cells slots Q D ca ad A nL N (lv, st, ws) pc := by
  intro H locs ls h1 h2 h3 h4
  subst hst
  have hts := C.1.2.2.2.2
  refine gcallN C (a := (Value.ref (ad t) :: av.map (cv ad)).toArray) (va_runIN (As := av.map (cv ad)) (b := ad t) (n := k) C.1 (hM H.size) ⟨va_cnB k hts (tb_gi hcd) rfl rfl rfl (C.2.1.2.1 _ hlk) (hts _ hini) hd hR, hnm, hts _ him⟩ ⟨CPre_blind, fun U hU hW => ⟨rfl, by rw [hU], by rw [hU]; exact h2, C.2.1.warm hW, by rw [hU]; exact h4⟩⟩ rfl (by simpa using hk) h1.1 (by rw [show (.ref (ad t) : Value) = cv ad (.ref t) from rfl]; simp) (lv_room (by rw [cat_map]; exact hcat)) hdg hR2) h1 h3 hlv hst2 kk
end
