/-! what the tables say and nobody changes; the judgement over named cells; soundness of the evaluator -/
def nestL : List (String × Nat × MethodName) := [(RX8, 17, yX5_init), (RX0, 1, yX8_emptyDigest), (RX8, 35, yX7_init), (RX1, 33, yX8_stemOf), (RX1, 37, yX8_isHigh), (RX3, 1, yX8_leafDigest), (RX1, 9, yX8_forkDigest), (RX6, 72, yX8_stemOf)]
def castL : List (String × String) := [("PathProofs$Fork", "PathProofs$Fork"), ("PathProofs$Leaf", "PathProofs$Leaf"), ("PathProofs$Hidden", "PathProofs$Hidden"), ("PathProofs$Empty", "PathProofs$Node"), ("PathProofs$Fork", "PathProofs$Node"), ("PathProofs$Hidden", "PathProofs$Node"), ("PathProofs$Leaf", "PathProofs$Node")]
def notL : List (String × String) := [("PathProofs$Empty", "PathProofs$Fork"), ("PathProofs$Leaf", "PathProofs$Fork"), ("PathProofs$Hidden", "PathProofs$Fork"), ("PathProofs$Empty", "PathProofs$Leaf"), ("PathProofs$Fork", "PathProofs$Leaf"), ("PathProofs$Hidden", "PathProofs$Leaf"), ("PathProofs$Empty", "PathProofs$Hidden"), ("PathProofs$Leaf", "PathProofs$Hidden"), ("PathProofs$Fork", "PathProofs$Hidden")]
def KS (D : va_G) (ca : Nat → ClassId) (U : State) : Prop := va_K D vwCl [(ca 0, .int), (ca 1, .long), (ca 2, .object "PathProofs$Node")] U ∧ (∀ q ∈ nestL, va_Nw (.methodLinkNest q.1 q.2.1 q.2.2 "PathProofs") U) ∧ (∀ q ∈ castL, va_Nw (.castable q.1 q.2) U) ∧ (∀ q ∈ notL, va_Nc q.1 q.2 U) ∧ va_AO "PathProofs$Node" U
theorem KS.warm {D : va_G} {ca : Nat → ClassId} {s U : State} (hW : s.WarmedH U.vm) (h : KS D ca s) : KS D ca U :=
  ⟨va_K.moved hW.alike h.1, fun q hq => va_Nw.warmM hW (h.2.1 q hq), fun q hq => va_Nw.warmC hW (h.2.2.1 q hq), fun q hq => va_Nc.moved hW.alike (h.2.2.2.1 q hq), va_AO.moved hW.alike h.2.2.2.2⟩
theorem KS.call {D : va_G} {ca : Nat → ClassId} {U : State} {g : JFrame} {mk : MethodId} {a : Array Value} (h : KS D ca U) : KS D ca (U.calling g mk a) := KS.warm (s := U) (U := U.calling g mk a) (State.WarmedH.refl U) h
def nno : va_E → Bool
  | .inl x => Nat.ble x.1 2
  | .inr o => Nat.ble 4 o.1
/-- a picture of the heap that no write into a cell that is no node changes -/
def NSt (D : va_G) (ca : Nat → ClassId) (ad : Nat → Nat) (N : Heap → Prop) : Prop := ∀ (H H' : Heap) (t : Nat) (x : va_E), nno x = true → va_at D vwCl (ad t, ce ad ca x) H → H'.size = H.size → (∀ q : Nat, q ≠ ad t → H'[q]? = H[q]?) → N H → N H'
theorem NSt.tt {D : va_G} {ca : Nat → ClassId} {ad : Nat → Nat} : NSt D ca ad (fun _ => True) := fun _ _ _ _ _ _ _ _ _ => trivial
theorem clsOk : ∀ (ci : Nat) (r : vw_C), vwCl[ci]? = some r → (∀ w ∈ u_ws r.1 r.2.1 r.2.2, w ∈ tb) ∧ ∃ ty0 : Nat → FieldType, (∀ k, k < r.2.2 → parseFieldDescriptor (r.2.1 k).2.2.1 = some (ty0 k)) ∧ ∀ a, a < r.2.2 → ∀ b, b < r.2.2 → a ≠ b → (r.2.1 a).2.1 ≠ (r.2.1 b).2.1
  | 0, _, h => by cases h; exact ⟨iw_X0, tyX0, tyX0_ok, nmX0⟩
  | 1, _, h => by cases h; exact ⟨iw_X1, tyX1, tyX1_ok, nmX1⟩
  | 2, _, h => by cases h; exact ⟨iw_X2, tyX2, tyX2_ok, nmX2⟩
  | 3, _, h => by cases h; exact ⟨iw_X3, tyX3, tyX3_ok, nmX3⟩
  | 4, _, h => by cases h; exact ⟨iw_X5, tyX5, tyX5_ok, nmX5⟩
  | 5, _, h => by cases h; exact ⟨iw_X6, tyX6, tyX6_ok, nmX6⟩
  | 6, _, h => by cases h; exact ⟨iw_X7, tyX7, tyX7_ok, nmX7⟩
  | 7, _, h => by cases h; exact ⟨iw_X8, tyX8, tyX8_ok, nmX8⟩
  | 8, _, h => by cases h; exact ⟨iw_X9, tyX9, tyX9_ok, nmX9⟩
  | k + 9, _, h => by simp [vwCl] at h
section
variable {p : Program} {l : Launch} {e : Env} {R : Room} {s : State} {m : MethodId} {args : Array Value} {below : List Frame} {meth : Method} {c : Code} {H : Heap} {locs : List Loc} {cells slots : Nat} {Q : State → Prop}
variable {cc : ByteArray} {pc : Nat} {ls : Array Slot} {rest : List Value} {D : va_G} {A : Nat → Prop} {a : Nat} {tys : List (ClassId × FieldType)} {ws : va_W} {H0 : Heap}
/-- putfield: as the kit's, and what the heap is outside the cell -/
theorem xput (hexec : p.tables.exec = Jvm.exec) (hb : c.code = cc) {own : String} {r : vw_C} {ci index : Nat} (hts : ∀ w ∈ tb, w.before args s = true) (hown : s.vm.findClass own = some m.cls) (hK : va_K D vwCl tys s) (hP : va_P D vwCl ws H) (hD : va_D A ws) (hS0 : va_S A H0 H locs) (q0 : Nat) {fs : List Value} (he : ws[q0]? = some (a, .inr (ci, fs))) (hc : vwCl[ci]? = some r) (k : Nat) (hk : k < r.2.2) (hlink : Cond.fieldLink own index (r.2.1 k).1 (r.2.1 k).2.1 (r.2.1 k).2.2.1 ∈ tb) (hfin : (r.2.1 k).2.2.2 = false) {ty : FieldType} {v : Value} (hd : parseFieldDescriptor (r.2.1 k).2.2.1 = some ty) (hn : narrow ty v = v) (hfit : fits ty v = true) (hl : k < fs.length)
    (hdg : decode cc pc = .ok (.putfield index, 3)) (kk : ∀ (H1 : Heap) (locs1 : List Loc), va_P D vwCl (ws.set q0 (a, .inr (ci, fs.set k v))) H1 → H1.size = H.size → (∀ q : Nat, q ≠ a → H1[q]? = H[q]?) → va_S A H0 H1 locs1 → W p l e R s m args below meth c H1 locs1 cells slots Q (F0 m (pc + 3) ls rest)) : W p l e R s m args below meth c H locs cells slots Q (F0 m pc ls (v :: .ref a :: rest)) := by
  obtain ⟨hin, ty0, hty, hnm⟩ := clsOk ci r hc
  obtain ⟨C, T, N⟩ := r
  have hap := va_apart (own := own) hts hin ty0 hty hnm hK hc
  obtain ⟨r, h1, cell, q1, q2, q3, q4⟩ := hP q0 _ he
  have hr : r = (C, T, N) := Option.some.inj (h1.symm.trans hc)
  subst hr
  obtain ⟨hS, hfc, kC, hkC, hkind⟩ := hK.1 ci _ hc
  obtain ⟨cf, kf, fi, f, hi, hsl⟩ := hS k hk
  have hlay := hts _ (hin _ (u_in_lay hk))
  unfold u_lay at hlay
  rw [if_neg (by rw [hfin]; decide)] at hlay
  have hst := (u_facts hfc hkC (u_lays hts hin hk) hi).1
  have h6 := u_store hfc hkC hkind hlay hi hd hn hfit
  refine W.putK hexec hb (f := f) ⟨hown, hts _ hlink, ⟨_, _, _, hi⟩, hst⟩ (by rw [q2]; exact h6) q1 q3 (by rw [hsl]; exact k2_hasslot (q4 k hk)) rfl rfl hdg fun H' e1 e2 e3 => ?_
  rw [hsl] at e1 ⊢
  exact kk H' _ (hP.set hD he ⟨_, hc, t_OB.to (V := updV (vp_V fs) k v) ⟨_, e1, q2, q3, t_set q4 hap hk v⟩ (fun j _ => vp_updV_set hl v j)⟩ e3) e2 e3 (hS0.put e2 e3 (hD.2 q0 _ he))
theorem xiast (hexec : p.tables.exec = Jvm.exec) (hb : c.code = cc) (hK : va_K D vwCl tys s) (hP : va_P D vwCl ws H) (hD : va_D A ws) (hS : va_S A H0 H locs) (q0 t0 : Nat) {cA : ClassId} {n : Nat} {f : Nat → Int32} (ha : ws[q0]? = some (a, .inl (cA, n, .inl f))) (ht : tys[t0]? = some (cA, .int)) {i : Int32} {x : Int32} (hin : vp_in i n) (hdg : decode cc pc = .ok (.iastore, 1))
    (kk : ∀ (H1 : Heap) (locs1 : List Loc), va_P D vwCl (ws.set q0 (a, .inl (cA, n, .inl (upd f i.toNatClampNeg x)))) H1 → H1.size = H.size → (∀ q : Nat, q ≠ a → H1[q]? = H[q]?) → va_S A H0 H1 locs1 → W p l e R s m args below meth c H1 locs1 cells slots Q (F0 m (pc + 1) ls rest)) : W p l e R s m args below meth c H locs cells slots Q (F0 m pc ls (.int x :: .int i :: .ref a :: rest)) := by
  refine W.iast hexec hb (hP q0 _ ha) ((hK.2 t0 _ ht).1 n (fun j => .int (f j))) (fun q => by cases q) (by show ¬ (i < 0 ∨ (arrV _ _ _).slots.size ≤ _); rw [arrV_size]; exact hin) rfl rfl hdg fun H1 e1 z oq => ?_
  refine kk H1 _ (hP.set hD ha ?_ oq) z oq (hS.put z oq (hD.2 q0 _ ha))
  show H1[a]? = some (vp_cell _ _)
  rw [e1, vp_cell_i, vp_cell_i, arrV_store]
  congr 2
  funext q
  by_cases hq : q = i.toNatClampNeg
  · subst hq
    simp [updV, upd]
  · simp [updV, upd, hq]
theorem xlast (hexec : p.tables.exec = Jvm.exec) (hb : c.code = cc) (hK : va_K D vwCl tys s) (hP : va_P D vwCl ws H) (hD : va_D A ws) (hS : va_S A H0 H locs) (q0 t0 : Nat) {cA : ClassId} {n : Nat} {f : Nat → Int64} (ha : ws[q0]? = some (a, .inl (cA, n, .inr (.inl f)))) (ht : tys[t0]? = some (cA, .long)) {i : Int32} {x : Int64} (hin : vp_in i n) (hdg : decode cc pc = .ok (.lastore, 1))
    (kk : ∀ (H1 : Heap) (locs1 : List Loc), va_P D vwCl (ws.set q0 (a, .inl (cA, n, .inr (.inl (vp_updL f i.toNatClampNeg x))))) H1 → H1.size = H.size → (∀ q : Nat, q ≠ a → H1[q]? = H[q]?) → va_S A H0 H1 locs1 → W p l e R s m args below meth c H1 locs1 cells slots Q (F0 m (pc + 1) ls rest)) : W p l e R s m args below meth c H locs cells slots Q (F0 m pc ls (.long x :: .int i :: .ref a :: rest)) := by
  refine W.last hexec hb (hP q0 _ ha) ((hK.2 t0 _ ht).1 n (fun j => .long (f j))) (fun q => by cases q) (by show ¬ (i < 0 ∨ (arrV _ _ _).slots.size ≤ _); rw [arrV_size]; exact hin) rfl rfl hdg fun H1 e1 z oq => ?_
  refine kk H1 _ (hP.set hD ha ?_ oq) z oq (hS.put z oq (hD.2 q0 _ ha))
  show H1[a]? = some (vp_cell _ _)
  rw [e1, vp_cell_l, vp_cell_l, arrV_store]
  congr 2
  funext q
  by_cases hq : q = i.toNatClampNeg
  · subst hq
    simp [updV, vp_updL]
  · simp [updV, vp_updL, hq]
end
/-- the machine at pc, with locals, stack and cells as named -/
def Wa (p : Program) (l : Launch) (e : Env) (R : Room) (s : State) (m : MethodId) (args : Array Value) (below : List Frame) (meth : Method) (c : Code) (cells slots : Nat) (Q : State → Prop) (D : va_G) (ca : Nat → ClassId) (ad : Nat → Nat) (A : Nat → Prop) (nL : Nat) (N : Heap → Prop) (S : AS) (pc : Nat) : Prop :=
  ∀ (H : Heap) (locs : List Loc) (ls : Array Slot), lv_has ls nL (cl ad S.1) → va_P D vwCl (cw ad ca 0 S.2.2) H → va_S A s.heap H locs → N H → W p l e R s m args below meth c H locs cells slots Q (F0 m pc ls (S.2.1.map (cv ad)))
/-- what stays over a walk -/
def Cx (p : Program) (s : State) (m : MethodId) (args : Array Value) (c : Code) (cc : ByteArray) (nL : Nat) (own : String) (D : va_G) (ca : Nat → ClassId) (ad : Nat → Nat) (A : Nat → Prop) (N : Heap → Prop) (n : Nat) : Prop :=
  CallFix p m c cc nL s args tb own ∧ KS D ca s ∧ NSt D ca ad N ∧ AD ad n ∧ (∀ k, k < n → A (ad k)) ∧ ∀ q : Nat, s.heap.size ≤ q → A q
section
variable {p : Program} {l : Launch} {e : Env} {R : Room} {s : State} {m : MethodId} {args : Array Value} {below : List Frame} {meth : Method} {c : Code} {cells slots : Nat} {Q : State → Prop}
variable {cc : ByteArray} {nL n : Nat} {own : String} {D : va_G} {ca : Nat → ClassId} {ad : Nat → Nat} {A : Nat → Prop} {N : Heap → Prop} {ft : List (Nat × Nat × Nat)} {ct : List (Nat × Value)}
set_option maxHeartbeats 4000000 in
theorem ev1_sound (C : Cx p s m args c cc nL own D ca ad A N n) (hft : FTo own ft) (hct : CTo own ct) {q : Nat} {i : Instr} {w : Value} {a b : Nat} (hdec : decode cc q = .ok (i, ilen i)) (hax : axo ft ct q i w a b = true) {lv : List (Nat × Value)} {st : List Value} {ws : List va_E} {S' : AS} {cnd cnd' : Prop} (hev : ev1 nL i w a b lv st ws cnd = some (S', cnd')) (hn : ws.length = n) (hc : cnd')
    (k : Wa p l e R s m args below meth c cells slots Q D ca ad A nL N S' (npc q i)) : cnd ∧ S'.2.2.length = n ∧ Wa p l e R s m args below meth c cells slots Q D ca ad A nL N (lv, st, ws) q := by
  obtain ⟨⟨hx, hb, hml, hown, hts⟩, ⟨hK, -⟩, hNS, hAD, hAa, -⟩ := C
  have hDD : va_D A (cw ad ca 0 ws) := cw_D hn hAD hAa
  cases i
  case iconst z =>
    cases hev
    have hw : w = .int (Int32.ofInt z) := by simpa [axo] using hax
    exact ⟨hc, hn, fun H locs ls h1 h2 h3 h4 => lv_iconst hx hb hdec rfl (by have := k H locs ls h1 h2 h3 h4; rw [hw] at this; exact this)⟩
  case bipush z =>
    cases hev
    have hw : w = .int (Int8.ofInt z).toInt32 := by simpa [axo] using hax
    exact ⟨hc, hn, fun H locs ls h1 h2 h3 h4 => lv_bipush hx hb hdec rfl (by have := k H locs ls h1 h2 h3 h4; rw [hw] at this; exact this)⟩
  case sipush z =>
    cases hev
    have hw : w = .int (Int16.ofInt z).toInt32 := by simpa [axo] using hax
    exact ⟨hc, hn, fun H locs ls h1 h2 h3 h4 => lv_sipush hx hb hdec rfl (by have := k H locs ls h1 h2 h3 h4; rw [hw] at this; exact this)⟩
  case lconst z =>
    cases hev
    have hw : w = .long (Int64.ofNat (z : Nat)) := by simpa [axo] using hax
    exact ⟨hc, hn, fun H locs ls h1 h2 h3 h4 => lv_lconst hx hb hdec rfl (by have := k H locs ls h1 h2 h3 h4; rw [hw] at this; exact this)⟩
  case ldc z =>
    cases hev
    cases w with
    | int v =>
      have h1 : (z, Value.int v) ∈ ct := by simpa [axo] using hax
      have h2 : Cond.constant own z v ∈ tb := hct _ h1
      exact ⟨hc, hn, fun H locs ls h3 h4 h5 h6 => lv_ldc hx hb hown (hts _ h2) hdec (k H locs ls h3 h4 h5 h6)⟩
    | _ => simp [axo] at hax
  case ldc2_w z =>
    cases hev
    cases w with
    | long v =>
      have h1 : (z, Value.long v) ∈ ct := by simpa [axo] using hax
      have h2 : Cond.constantLong own z v ∈ tb := hct _ h1
      exact ⟨hc, hn, fun H locs ls h3 h4 h5 h6 => lv_ldc2 hx hb hown (hts _ h2) hdec (k H locs ls h3 h4 h5 h6)⟩
    | _ => simp [axo] at hax
  case aconst_null =>
    cases hev
    exact ⟨hc, hn, fun H locs ls h1 h2 h3 h4 => lv_null hx hb hdec (k H locs ls h1 h2 h3 h4)⟩
  case iload z =>
    simp only [ev1] at hev
    split at hev
    next x hf =>
      cases hev
      exact ⟨hc, hn, fun H locs ls h1 h2 h3 h4 => lv_iload hx hb hdec (cl_fnd h1 hf) (k H locs ls h1 h2 h3 h4)⟩
    next => cases hev
  case iload_n z =>
    simp only [ev1] at hev
    split at hev
    next x hf =>
      cases hev
      exact ⟨hc, hn, fun H locs ls h1 h2 h3 h4 => lv_iload_n hx hb hdec rfl (cl_fnd h1 hf) (k H locs ls h1 h2 h3 h4)⟩
    next => cases hev
  case lload z =>
    simp only [ev1] at hev
    split at hev
    next x hf =>
      cases hev
      exact ⟨hc, hn, fun H locs ls h1 h2 h3 h4 => lv_lload hx hb hdec (cl_fnd h1 hf) (k H locs ls h1 h2 h3 h4)⟩
    next => cases hev
  case lload_n z =>
    simp only [ev1] at hev
    split at hev
    next x hf =>
      cases hev
      exact ⟨hc, hn, fun H locs ls h1 h2 h3 h4 => lv_lload_n hx hb hdec rfl (cl_fnd h1 hf) (k H locs ls h1 h2 h3 h4)⟩
    next => cases hev
  case aload z =>
    simp only [ev1] at hev
    split at hev
    next x hf =>
      cases hev
      exact ⟨hc, hn, fun H locs ls h1 h2 h3 h4 => lv_aload hx hb hdec (cl_fnd h1 hf) (k H locs ls h1 h2 h3 h4)⟩
    next hf =>
      cases hev
      exact ⟨hc, hn, fun H locs ls h1 h2 h3 h4 => lv_aloadN hx hb hdec (cl_fnd h1 hf) (k H locs ls h1 h2 h3 h4)⟩
    next => cases hev
  case aload_n z =>
    simp only [ev1] at hev
    split at hev
    next x hf =>
      cases hev
      exact ⟨hc, hn, fun H locs ls h1 h2 h3 h4 => lv_aload_n hx hb hdec rfl (cl_fnd h1 hf) (k H locs ls h1 h2 h3 h4)⟩
    next hf =>
      cases hev
      exact ⟨hc, hn, fun H locs ls h1 h2 h3 h4 => lv_aload_nN hx hb hdec rfl (cl_fnd h1 hf) (k H locs ls h1 h2 h3 h4)⟩
    next => cases hev
  case istore z =>
    simp only [ev1] at hev
    split at hev
    next x r =>
      split at hev
      next hz =>
        split at hev
        next lv2 h9 =>
          cases hev
          exact ⟨hc, hn, fun H locs ls h1 h2 h3 h4 => lv_istore hx hb hdec h1 (Nat.blt_eq.mp hz) rfl (fun ls' h' => k H locs ls' (so1_has h9 h') h2 h3 h4)⟩
        next => cases hev
      next => cases hev
    next => cases hev
  case istore_n z =>
    simp only [ev1] at hev
    split at hev
    next x r =>
      split at hev
      next hz =>
        split at hev
        next lv2 h9 =>
          cases hev
          exact ⟨hc, hn, fun H locs ls h1 h2 h3 h4 => lv_istore_n hx hb hdec rfl h1 (Nat.blt_eq.mp hz) rfl (fun ls' h' => k H locs ls' (so1_has h9 h') h2 h3 h4)⟩
        next => cases hev
      next => cases hev
    next => cases hev
  case lstore z =>
    simp only [ev1] at hev
    split at hev
    next x r =>
      split at hev
      next hz =>
        split at hev
        next lv2 h9 =>
          cases hev
          exact ⟨hc, hn, fun H locs ls h1 h2 h3 h4 => lv_lstore hx hb hdec h1 (Nat.blt_eq.mp hz) rfl (fun ls' h' => k H locs ls' (so2_has h9 h') h2 h3 h4)⟩
        next => cases hev
      next => cases hev
    next => cases hev
  case lstore_n z =>
    simp only [ev1] at hev
    split at hev
    next x r =>
      split at hev
      next hz =>
        split at hev
        next lv2 h9 =>
          cases hev
          exact ⟨hc, hn, fun H locs ls h1 h2 h3 h4 => lv_lstore_n hx hb hdec rfl h1 (Nat.blt_eq.mp hz) rfl (fun ls' h' => k H locs ls' (so2_has h9 h') h2 h3 h4)⟩
        next => cases hev
      next => cases hev
    next => cases hev
  case astore z =>
    simp only [ev1] at hev
    split at hev
    next x r =>
      split at hev
      next hz =>
        split at hev
        next lv2 h9 =>
          cases hev
          exact ⟨hc, hn, fun H locs ls h1 h2 h3 h4 => lv_astore hx hb hdec h1 (Nat.blt_eq.mp hz) rfl (fun ls' h' => k H locs ls' (so1_has h9 h') h2 h3 h4)⟩
        next => cases hev
      next => cases hev
    next r =>
      split at hev
      next hz =>
        split at hev
        next lv2 h9 =>
          cases hev
          exact ⟨hc, hn, fun H locs ls h1 h2 h3 h4 => lv_astoreN hx hb hdec h1 (Nat.blt_eq.mp hz) rfl (fun ls' h' => k H locs ls' (so1_has h9 h') h2 h3 h4)⟩
        next => cases hev
      next => cases hev
    next => cases hev
  case astore_n z =>
    simp only [ev1] at hev
    split at hev
    next x r =>
      split at hev
      next hz =>
        split at hev
        next lv2 h9 =>
          cases hev
          exact ⟨hc, hn, fun H locs ls h1 h2 h3 h4 => lv_astore_n hx hb hdec rfl h1 (Nat.blt_eq.mp hz) rfl (fun ls' h' => k H locs ls' (so1_has h9 h') h2 h3 h4)⟩
        next => cases hev
      next => cases hev
    next r =>
      split at hev
      next hz =>
        split at hev
        next lv2 h9 =>
          cases hev
          exact ⟨hc, hn, fun H locs ls h1 h2 h3 h4 => lv_astore_nN hx hb hdec rfl h1 (Nat.blt_eq.mp hz) rfl (fun ls' h' => k H locs ls' (so1_has h9 h') h2 h3 h4)⟩
        next => cases hev
      next => cases hev
    next => cases hev
  case iinc z d =>
    simp only [ev1] at hev
    split at hev
    next x hf =>
      split at hev
      next w d2 =>
        split at hev
        next hz =>
          split at hev
          next lv2 h9 =>
            cases hev
            have hw : d2 = Int32.ofInt d := by simpa [axo] using hax
            obtain ⟨kk, hkk⟩ := List.getElem?_of_mem (fnd_mem lv hf)
            refine ⟨hc, hn, fun H locs ls h1 h2 h3 h4 => lv_iinc (k := kk) (x := x) (v := x + d2) hx hb hdec h1 ?_ (by rw [hw]) (Nat.blt_eq.mp hz) rfl (fun ls' h' => k H locs ls' (so1_has h9 h') h2 h3 h4)⟩
            simp [cl, hkk, cv]
          next => cases hev
        next => cases hev
      next => cases hev
    next => cases hev
  case iadd =>
    simp only [ev1] at hev
    split at hev
    next x y r => cases hev; exact ⟨hc, hn, fun H locs ls h1 h2 h3 h4 => lv_iadd hx hb hdec (k H locs ls h1 h2 h3 h4)⟩
    next => cases hev
  case isub =>
    simp only [ev1] at hev
    split at hev
    next x y r => cases hev; exact ⟨hc, hn, fun H locs ls h1 h2 h3 h4 => lv_isub hx hb hdec (k H locs ls h1 h2 h3 h4)⟩
    next => cases hev
  case imul =>
    simp only [ev1] at hev
    split at hev
    next x y r => cases hev; exact ⟨hc, hn, fun H locs ls h1 h2 h3 h4 => lv_imul hx hb hdec (k H locs ls h1 h2 h3 h4)⟩
    next => cases hev
  case iand =>
    simp only [ev1] at hev
    split at hev
    next x y r => cases hev; exact ⟨hc, hn, fun H locs ls h1 h2 h3 h4 => lv_iand hx hb hdec (k H locs ls h1 h2 h3 h4)⟩
    next => cases hev
  case ixor =>
    simp only [ev1] at hev
    split at hev
    next x y r => cases hev; exact ⟨hc, hn, fun H locs ls h1 h2 h3 h4 => lv_ixor hx hb hdec (k H locs ls h1 h2 h3 h4)⟩
    next => cases hev
  case ishl =>
    simp only [ev1] at hev
    split at hev
    next x y r => cases hev; exact ⟨hc, hn, fun H locs ls h1 h2 h3 h4 => lv_ishl hx hb hdec (k H locs ls h1 h2 h3 h4)⟩
    next => cases hev
  case ishr =>
    simp only [ev1] at hev
    split at hev
    next x y r => cases hev; exact ⟨hc, hn, fun H locs ls h1 h2 h3 h4 => lv_ishr hx hb hdec (k H locs ls h1 h2 h3 h4)⟩
    next => cases hev
  case iushr =>
    simp only [ev1] at hev
    split at hev
    next x y r => cases hev; exact ⟨hc, hn, fun H locs ls h1 h2 h3 h4 => lv_iushr hx hb hdec rfl (k H locs ls h1 h2 h3 h4)⟩
    next => cases hev
  case i2l =>
    simp only [ev1] at hev
    split at hev
    next x r => cases hev; exact ⟨hc, hn, fun H locs ls h1 h2 h3 h4 => lv_i2l hx hb hdec rfl (k H locs ls h1 h2 h3 h4)⟩
    next => cases hev
  case l2i =>
    simp only [ev1] at hev
    split at hev
    next x r => cases hev; exact ⟨hc, hn, fun H locs ls h1 h2 h3 h4 => lv_l2i hx hb hdec rfl (k H locs ls h1 h2 h3 h4)⟩
    next => cases hev
  case lmul =>
    simp only [ev1] at hev
    split at hev
    next x y r => cases hev; exact ⟨hc, hn, fun H locs ls h1 h2 h3 h4 => lv_lmul hx hb hdec (k H locs ls h1 h2 h3 h4)⟩
    next => cases hev
  case land =>
    simp only [ev1] at hev
    split at hev
    next x y r => cases hev; exact ⟨hc, hn, fun H locs ls h1 h2 h3 h4 => lv_land hx hb hdec (k H locs ls h1 h2 h3 h4)⟩
    next => cases hev
  case lor =>
    simp only [ev1] at hev
    split at hev
    next x y r => cases hev; exact ⟨hc, hn, fun H locs ls h1 h2 h3 h4 => lv_lor hx hb hdec (k H locs ls h1 h2 h3 h4)⟩
    next => cases hev
  case lxor =>
    simp only [ev1] at hev
    split at hev
    next x y r => cases hev; exact ⟨hc, hn, fun H locs ls h1 h2 h3 h4 => lv_lxor hx hb hdec (k H locs ls h1 h2 h3 h4)⟩
    next => cases hev
  case lshl =>
    simp only [ev1] at hev
    split at hev
    next x y r => cases hev; exact ⟨hc, hn, fun H locs ls h1 h2 h3 h4 => lv_lshl hx hb hdec rfl (k H locs ls h1 h2 h3 h4)⟩
    next => cases hev
  case lshr =>
    simp only [ev1] at hev
    split at hev
    next x y r => cases hev; exact ⟨hc, hn, fun H locs ls h1 h2 h3 h4 => lv_lshr hx hb hdec rfl (k H locs ls h1 h2 h3 h4)⟩
    next => cases hev
  case lushr =>
    simp only [ev1] at hev
    split at hev
    next x y r => cases hev; exact ⟨hc, hn, fun H locs ls h1 h2 h3 h4 => lv_lushr hx hb hdec rfl (k H locs ls h1 h2 h3 h4)⟩
    next => cases hev
  case lcmp =>
    simp only [ev1] at hev
    split at hev
    next x y r => cases hev; exact ⟨hc, hn, fun H locs ls h1 h2 h3 h4 => W.lcmp hx hb hdec (k H locs ls h1 h2 h3 h4)⟩
    next => cases hev
  case dup =>
    simp only [ev1] at hev
    split at hev
    next x r => cases hev; exact ⟨hc, hn, fun H locs ls h1 h2 h3 h4 => lv_dup hx hb hdec rfl (k H locs ls h1 h2 h3 h4)⟩
    next x r => cases hev; exact ⟨hc, hn, fun H locs ls h1 h2 h3 h4 => lv_dup hx hb hdec rfl (k H locs ls h1 h2 h3 h4)⟩
    next => cases hev
  case dup2 =>
    simp only [ev1] at hev
    split at hev
    next x y r => cases hev; exact ⟨hc, hn, fun H locs ls h1 h2 h3 h4 => lv_dup2_11 hx hb hdec rfl rfl (k H locs ls h1 h2 h3 h4)⟩
    next => cases hev
  case pop =>
    simp only [ev1] at hev
    split at hev
    next x r => cases hev; exact ⟨hc, hn, fun H locs ls h1 h2 h3 h4 => lv_pop hx hb hdec rfl (k H locs ls h1 h2 h3 h4)⟩
    next x r => cases hev; exact ⟨hc, hn, fun H locs ls h1 h2 h3 h4 => lv_pop hx hb hdec rfl (k H locs ls h1 h2 h3 h4)⟩
    next r => cases hev; exact ⟨hc, hn, fun H locs ls h1 h2 h3 h4 => lv_pop hx hb hdec rfl (k H locs ls h1 h2 h3 h4)⟩
    next => cases hev
  case goto off =>
    cases hev
    have h9 : 0 ≤ (q : Int) + off := by simpa [axo] using hax
    exact ⟨hc, hn, fun H locs ls h1 h2 h3 h4 => lv_goto (tgt := ((q : Int) + off).toNat) hx hb hdec (Int.toNat_of_nonneg h9).symm (k H locs ls h1 h2 h3 h4)⟩
  case getfield z =>
    simp only [ev1] at hev
    split at hev
    next t r =>
      split at hev
      next o ho =>
        split at hev
        next hb2 =>
          split at hev
          next v hv =>
            cases hev
            have e1 := Nat.eq_of_beq_eq_true hb2
            have h1 : (z, a, b) ∈ ft := by simpa [axo] using hax
            obtain ⟨rr, g1, g2, g3⟩ := hft _ h1
            obtain ⟨C9, T9, N9⟩ := rr
            rw [nth_eq] at ho hv
            refine ⟨hc, hn, fun H locs ls h1 h2 h3 h4 => va_get (D := D) (ci := a) (C := C9) (T := T9) (N := N9) (fs := o.2.map (cv ad)) (v := cv ad v) hx hb hts (clsOk a _ g1).1 hown hK h2 t ?_ g1 b g2 (hts _ g3) (fun _ h9 => h9) ?_ hdec (k H locs ls h1 h2 h3 h4)⟩
            · rw [cw_at, ho, ← e1]; simp [ce]
            · simp [hv]
          next => cases hev
        next => cases hev
      next => cases hev
    next => cases hev
  case putfield z =>
    simp only [ev1] at hev
    split at hev
    next v t r =>
      split at hev
      next o ho =>
        split at hev
        next hb2 =>
          split at hev
          next hk9 =>
            split at hev
            next fs hfs =>
              split at hev
              next ws2 hws =>
                cases hev
                have e1 := Nat.eq_of_beq_eq_true hb2
                simp only [axo, Bool.and_eq_true] at hax
                obtain ⟨hx1, hx2, hx3⟩ := hax
                have h1 : (z, a, b) ∈ ft := by simpa using hx1
                obtain ⟨rr, g1, g2, g3⟩ := hft _ h1
                rw [g1] at hx3
                simp only [Bool.and_eq_true, Bool.not_eq_true'] at hx3
                obtain ⟨hx3, hx4⟩ := hx3
                rw [nth_eq] at ho
                obtain ⟨f1, f2⟩ := setl_eq _ _ _ _ hfs
                obtain ⟨w1, w2⟩ := setl_eq _ _ _ _ hws
                have hty : ∃ ty, parseFieldDescriptor (rr.2.1 b).2.2.1 = some ty ∧ narrow ty (cv ad v) = cv ad v ∧ fits ty (cv ad v) = true := by
                  split at hx4
                  next hp => split at hk9 <;> first | (cases hk9; done) | (refine ⟨_, hp, rfl, rfl⟩) | (simp at *)
                  next hp => split at hk9 <;> first | (cases hk9; done) | (refine ⟨_, hp, rfl, rfl⟩) | (simp at *)
                  next hp => split at hk9 <;> first | (cases hk9; done) | (refine ⟨_, hp, rfl, rfl⟩) | (simp at *)
                  next hp => split at hk9 <;> first | (cases hk9; done) | (refine ⟨_, hp, rfl, rfl⟩) | (simp at *)
                  next => cases hx4
                obtain ⟨ty, t1, t2, t3⟩ := hty
                have hat : (cw ad ca 0 ws)[t]? = some (ad t, .inr (a, o.2.map (cv ad))) := by rw [cw_at, ho, ← e1]; simp [ce]
                refine ⟨hc, by rw [w1]; simpa using hn, fun H locs ls h1 h2 h3 h4 => xput (D := D) (ci := a) (r := rr) (fs := o.2.map (cv ad)) hx hb hts hown hK h2 hDD h3 t hat g1 b g2 g3 hx3 t1 t2 t3 (by simpa using f2) hdec (fun H1 locs1 j1 j2 j3 j4 => k H1 locs1 ls h1 ?_ j4 ?_)⟩
                · rw [w1, cw_set]
                  rw [Nat.zero_add, f1, e1]
                  simpa [ce, List.map_set] using j1
                · exact hNS H H1 t (.inr o) (by rw [nno, e1]; exact hx2) (by have := h2 t _ hat; simpa [ce, e1] using this) j2 j3 h4
              next => cases hev
            next => cases hev
          next => cases hev
        next => cases hev
      next => cases hev
    next => cases hev
  case iaload =>
    simp only [ev1] at hev
    split at hev
    next x t r =>
      split at hev
      next nn f ho =>
        cases hev
        rw [nth_eq] at ho
        exact ⟨hc.2, hn, fun H locs ls h1 h2 h3 h4 => va_iald (D := D) (cA := ca 0) (n := nn) (f := f) hx hb hK h2 t 0 (by rw [cw_at, ho]; simp [ce]) rfl hc.1 hdec (k H locs ls h1 h2 h3 h4)⟩
      next => cases hev
    next => cases hev
  case laload =>
    simp only [ev1] at hev
    split at hev
    next x t r =>
      split at hev
      next nn f ho =>
        cases hev
        rw [nth_eq] at ho
        exact ⟨hc.2, hn, fun H locs ls h1 h2 h3 h4 => va_lald (D := D) (cA := ca 1) (n := nn) (f := f) hx hb hK h2 t 1 (by rw [cw_at, ho]; simp [ce]) rfl hc.1 hdec (k H locs ls h1 h2 h3 h4)⟩
      next => cases hev
    next => cases hev
  case iastore =>
    simp only [ev1] at hev
    split at hev
    next z x t r =>
      split at hev
      next nn f ho =>
        split at hev
        next ws2 hws =>
          cases hev
          rw [nth_eq] at ho
          obtain ⟨w1, w2⟩ := setl_eq _ _ _ _ hws
          have hat : (cw ad ca 0 ws)[t]? = some (ad t, .inl (ca 0, nn, .inl f)) := by rw [cw_at, ho]; simp [ce]
          refine ⟨hc.2, by rw [w1]; simpa using hn, fun H locs ls h1 h2 h3 h4 => xiast (D := D) (cA := ca 0) (n := nn) (f := f) hx hb hK h2 hDD h3 t 0 hat rfl hc.1 hdec (fun H1 locs1 j1 j2 j3 j4 => k H1 locs1 ls h1 ?_ j4 ?_)⟩
          · rw [w1, cw_set, Nat.zero_add]
            exact j1
          · exact hNS H H1 t (.inl (0, nn, .inl f)) rfl (h2 t _ hat) j2 j3 h4
        next => cases hev
      next => cases hev
    next => cases hev
  case lastore =>
    simp only [ev1] at hev
    split at hev
    next z x t r =>
      split at hev
      next nn f ho =>
        split at hev
        next ws2 hws =>
          cases hev
          rw [nth_eq] at ho
          obtain ⟨w1, w2⟩ := setl_eq _ _ _ _ hws
          have hat : (cw ad ca 0 ws)[t]? = some (ad t, .inl (ca 1, nn, .inr (.inl f))) := by rw [cw_at, ho]; simp [ce]
          refine ⟨hc.2, by rw [w1]; simpa using hn, fun H locs ls h1 h2 h3 h4 => xlast (D := D) (cA := ca 1) (n := nn) (f := f) hx hb hK h2 hDD h3 t 1 hat rfl hc.1 hdec (fun H1 locs1 j1 j2 j3 j4 => k H1 locs1 ls h1 ?_ j4 ?_)⟩
          · rw [w1, cw_set, Nat.zero_add]
            exact j1
          · exact hNS H H1 t (.inl (1, nn, .inr (.inl f))) rfl (h2 t _ hat) j2 j3 h4
        next => cases hev
      next => cases hev
    next => cases hev
  all_goals (exact absurd hev (by simp [ev1]))
end
