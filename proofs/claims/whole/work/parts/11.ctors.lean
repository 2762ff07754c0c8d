/-! constructors of nodes -/
def FrX (ad : Nat → Nat) (n sz q : Nat) : Nat → Prop := fun x => x = q ∨ Fr ad n sz x
/-- a constructor's contract: it may write into the cell q that it makes -/
def CtI (l : Launch) (y : MethodName) (bytes : ByteArray) (maxL : Nat) (rm : Room) (D : va_G) (ca : Nat → ClassId) (ad : Nat → Nat) (ws : List va_E) (n q : Nat) (av : List Value) (N : Heap → Prop) (G : Option Value → List va_E → Heap → Prop) : Prop :=
  ∀ sz : Nat, Met l y (Cond.code y bytes maxL none :: tb) rm (CPre D ca ad ws sz av N) (CQ D ca ad G (FrX ad n sz q)) rm.cells rm.slots (FrX ad n sz q)
theorem enterI {l : Launch} {y : MethodName} {cc : ByteArray} {maxL n q : Nat} {rm : Room} {D : va_G} {ca : Nat → ClassId} {ad : Nat → Nat} {ws : List va_E} {av : List Value} {N : Heap → Prop} {G : Option Value → List va_E → Heap → Prop} {lv : List (Nat × Value)} (hy : plainName y.cls = true) (hlen : (lg_sl (av.map (cv ad))).length ≤ maxL) (hlv : lv_args 0 av = lv) (hAD : AD ad n) (hNS : ∀ U, KS D ca U → NSt D ca ad N)
    (body : ∀ (p : Program) (e : Env) (s : State) (m : MethodId) (below : List Frame) (meth : Method) (c : Code) (A : Nat → Prop) (args : Array Value), A q → Cx p s m args c cc maxL y.cls D ca ad A N n → meth.sig.returnType = none → meth.locks = false → meth.name = y.name → Wa p l e rm s m args below meth c 0 0 (MQ below (CQ D ca ad G A) args s rm.cells rm.slots A) D ca ad A maxL N (lv, [], ws) 0) : CtI l y cc maxL rm D ca ad ws n q av N G := by
  intro sz
  refine Met.ofW (cc := cc) (maxL := maxL) (ret := none) hy rfl ?_
  intro p e s m args below meth c s₁ B hml hv
  obtain ⟨rfl, hsz, hP, hK, hN⟩ := hv
  have hts := atoms_spec (ws := Cond.code y cc maxL none :: tb) B.pre
  have hown : s.vm.findClass y.cls = some m.cls := findClass_of_methodNamed B.named
  subst hsz
  have hl := lv_entry (av.map (cv ad)) (n := maxL) hlen
  rw [lg_entry_eq]
  generalize (lg_sl (av.map (cv ad)) ++ List.replicate (maxL - (lg_sl (av.map (cv ad))).length) Slot.unset).toArray = ls at hl ⊢
  rw [lv_args_cl, hlv] at hl
  exact body p e s m below meth c (FrX ad n s.heap.size q) _ (Or.inl rfl) ⟨⟨B.exec, B.bytes, hml, hown, fun w hw => hts w (List.mem_cons_of_mem _ hw)⟩, hK, hNS s hK, hAD, fun k hk => Or.inr (Or.inl ⟨k, hk, rfl⟩), fun q hq => Or.inr (Or.inr hq)⟩ B.returns B.notSynchronized (name_of_methodNamed B.named B.method).1 s.heap [] ls hl hP va_S.rf hN
section
variable {p : Program} {l : Launch} {e : Env} {R : Room} {s : State} {m : MethodId} {args : Array Value} {below : List Frame} {meth : Method} {c : Code} {cells slots : Nat} {Q : State → Prop}
variable {cc : ByteArray} {nL n : Nat} {own : String} {D : va_G} {ca : Nat → ClassId} {ad : Nat → Nat} {A : Nat → Prop} {N : Heap → Prop}
theorem gcallX (C : Cx p s m args c cc nL own D ca ad A N n) {pc mc ms q0 : Nat} {ls : Array Slot} {H : Heap} {locs : List Loc} {st0 rest : List Value} {a : Array Value} {G : Option Value → List va_E → Heap → Prop} {lv : List (Nat × Value)} (hAq : A q0) (hr : va_Run p l e R s m args below meth c H locs cells slots mc ms (F0 m pc ls st0) (rest.map (cv ad)) (CQ D ca ad G (FrX ad n H.size q0) a) (FrX ad n H.size q0)) (hl : lv_has ls nL (cl ad lv)) (hS : va_S A s.heap H locs)
    (kk : ∀ (v : Option Value) (ws' : List va_E), Wa p l e R s m args below meth c (cells + mc) (slots + ms) Q D ca ad A nL (G v ws') (lv, v.toList ++ rest, ws') (pc + 3)) : W p l e R s m args below meth c H locs cells slots Q (F0 m pc ls st0) := by
  intro T hT X
  obtain ⟨v, st₀, t, T', L, h0, X', hL, e1, e2, ⟨⟨v2, ws2, hv, hp, hg⟩, hz, hk⟩, st⟩ := hr T hT X
  cases hv
  rw [h0] at hz hk
  have hA : ∀ q, FrX ad n H.size q0 q → A q := fun q h => h.elim (fun h1 => by rw [h1]; exact hAq) (fun h => h.elim (fun ⟨k, h1, h2⟩ => by rw [h2]; exact C.2.2.2.2.1 k h1) (fun h => C.2.2.2.2.2 q (Nat.le_trans hS.1 h)))
  have hS1 : va_S A s.heap T'.heap (locs ++ L) := ⟨Nat.le_trans hS.1 (by rw [e1]; exact hz), fun q h1 h2 => by rw [e1, hk q (Nat.lt_of_lt_of_le h1 hS.1) (fun z => h2 (hA q z))]; exact hS.2.1 q h1 h2, fun q hq => by
      rcases List.mem_append.mp hq with h | h
      · exact hS.2.2 q h
      · exact hA _ (hL q h)⟩
  obtain ⟨t2, a1, b1⟩ := kk v2 ws2 T'.heap (locs ++ L) ls hl (by rw [e1]; exact hp) hS1 (by rw [e1]; exact hg) T' rfl X'
  have hst : (v2.toList ++ rest).map (cv ad) = (v2.map (cv ad)).toList ++ rest.map (cv ad) := by cases v2 <;> simp
  rw [hst] at a1
  exact ⟨t2, st t2 a1, b1⟩
/-- a constructor, on a node that is being made -/
theorem cl_i (C : Cx p s m args c cc nL own D ca ad A N n) {y : MethodName} {bytes : ByteArray} {maxL k idx pc q : Nat} {rm : Room} {ws : List va_E} {av rest st : List Value} {lv : List (Nat × Value)} {G : Option Value → List va_E → Heap → Prop} (hM : CtI l y bytes maxL rm D ca ad ws n q (.ref (q + 100) :: av) N G) (hAq : A q) (hcd : Cond.code y bytes maxL none ∈ tb) (hini : Cond.initialized y.cls ∈ tb) (hlk : Cond.methodLink own idx y ∈ tb) (him : Cond.instanceMethod y ∈ tb) (hnm : y.name = "<init>")
    (hd : y.cls ≠ "java/lang/invoke/MethodHandle" ∧ y.cls ≠ "java/lang/invoke/VarHandle" ∧ (parseMethodDescriptor y.desc).map (fun d => d.parameters.length) = some k) (hk : av.length = k) (hst : av.reverse ++ .ref (q + 100) :: rest = st) (hR : rm.frames + 1 ≤ R.frames ∧ 8 + (maxL + 11) + rm.locals ≤ R.locals) (hR2 : cells + rm.cells ≤ R.cells ∧ slots + rm.slots ≤ R.slots) (hcat : (rest.map fun v => v.category).sum ≤ 8) (hdg : decode cc pc = .ok (.invokespecial idx, 3))
    (kk : ∀ (v : Option Value) (ws' : List va_E), Wa p l e R s m args below meth c (cells + rm.cells) (slots + rm.slots) Q D ca ad A nL (G v ws') (lv, v.toList ++ rest, ws') (pc + 3)) : Wa p l e R s m args below meth c cells slots Q D ca ad A nL N (lv, st, ws) pc := by
  intro H locs ls h1 h2 h3 h4
  subst hst
  have hts := C.1.2.2.2.2
  have hraw := C.2.2.2.1.2 q
  refine gcallX C (a := (Value.ref (ad (q + 100)) :: av.map (cv ad)).toArray) (q0 := q) hAq (va_runI (As := av.map (cv ad)) (b := ad (q + 100)) (n := k) C.1 (hM H.size) ⟨callB_of k hts (tb_gi hcd) rfl rfl rfl (hts _ hini) (hts _ hlk) hd hR, hnm, hts _ him⟩ ⟨CPre_blind, fun U hU hW => ⟨rfl, by rw [hU], by rw [hU]; exact h2, C.2.1.warm hW, by rw [hU]; exact h4⟩⟩ rfl (by simpa using hk) h1.1 (by rw [show (.ref (ad (q + 100)) : Value) = cv ad (.ref (q + 100)) from rfl]; simp) (lv_room (by rw [cat_map]; exact hcat)) hdg hR2) h1 h3 kk
end
/-- what a constructor of a node leaves -/
abbrev bG (D : va_G) (ws : List va_E) (H0 : Heap) (q ci : Nat) (fs : List Value) : Option Value → List va_E → Heap → Prop := fun v ws' H => (v = none ∧ ws' = ws) ∧ BN D H0 q ci fs H
section
variable {l : Launch} {D : va_G} {ca : Nat → ClassId} {ad : Nat → Nat} {ws : List va_E} {n q : Nat} {H0 : Heap}
set_option maxRecDepth 100000 in
set_option maxHeartbeats 4000000 in
theorem kX4_init (hAD : AD ad n) (hn : ws.length = n) (hww : ws.all nno = true) {ci : Nat} {r : vw_C} {fs : List Value} (hc : vwCl[ci]? = some r) (hk : 0 < r.2.2) (hl : 0 < fs.length) (h0 : r.2.1 0 = ("PathProofs$Node", "digest", "J", true)) (d : Int64) : CtI l yX4_init cX4_init 3 (rK 1 0 0) D ca ad ws n q [.ref (q + 100), .long d] (BN D H0 q ci fs) (bG D ws H0 q ci (fs.set 0 (.long d))) := by
  refine enterI (lv := [(0, .ref (q + 100)), (1, .long d)]) (by decide +kernel) (Nat.le_of_ble_eq_true rfl) rfl hAD (fun U hK => ns_write hK BN.ns) ?_
  intro p e s m below meth c A args hA C hr hlk hnm
  refine sg0 C foX4 coX4 oX4_init_0 rfl rfl hn ?_
  refine oi C ml_X4_1 (Nat.le_of_ble_eq_true rfl) (Nat.le_of_ble_eq_true rfl) jX4_init_1 ?_
  refine sg0 C foX4 coX4 oX4_init_4 rfl rfl hn ?_
  refine np (k := 0) (ty := .long) C (fun _ h => h) hww hc hk (by rw [h0]; exact fl_X4_7) (by rw [h0]) hnm (by rw [h0]; rfl) (by rw [h0]; decide +kernel) rfl rfl hl hA jX4_init_6 ?_
  have C := C.to (N2 := BN D H0 q ci (fs.set 0 (.long d))) BN.ns
  exact rt_v C hr hlk jX4_init_9 (fun H hN => ⟨⟨rfl, rfl⟩, hN⟩)
set_option maxRecDepth 100000 in
set_option maxHeartbeats 4000000 in
theorem kX2_init (hAD : AD ad n) (hn : ws.length = n) (hww : ws.all nno = true) (d : Int64) : CtI l yX2_init cX2_init 3 (rK 2 0 0) D ca ad ws n q [.ref (q + 100), .long d] (BN D H0 q 2 [.long 0]) (bG D ws H0 q 2 [.long d]) := by
  refine enterI (lv := [(0, .ref (q + 100)), (1, .long d)]) (by decide +kernel) (Nat.le_of_ble_eq_true rfl) rfl hAD (fun U hK => ns_write hK BN.ns) ?_
  intro p e s m below meth c A args hA C hr hlk hnm
  refine sg0 C foX2 coX2 oX2_init_0 rfl rfl hn ?_
  refine cl_i C (kX4_init hAD hn hww (ci := 2) rfl (by decide) (by simp) rfl d) hA cd_X4_init in_X4 ml_X2_1 im_X4_init rfl hd_X4_init rfl rfl ⟨Nat.le_of_ble_eq_true rfl, Nat.le_of_ble_eq_true rfl⟩ ⟨Nat.le_of_ble_eq_true rfl, Nat.le_of_ble_eq_true rfl⟩ (Nat.le_of_ble_eq_true rfl) jX2_init_2 (fun v ws' => Wa.and (fun hv => ?_))
  obtain ⟨rfl, rfl⟩ := hv
  have C := C.to (N2 := BN D H0 q 2 [.long d]) BN.ns
  exact rt_v C hr hlk jX2_init_5 (fun H hN => ⟨⟨rfl, rfl⟩, hN⟩)
set_option maxRecDepth 100000 in
set_option maxHeartbeats 4000000 in
theorem kX0_init (hAD : AD ad n) (hn : ws.length = n) (hww : ws.all nno = true) : CtI l yX0_init cX0_init 1 (rK 2 0 0) D ca ad ws n q [.ref (q + 100)] (BN D H0 q 0 [.long 0]) (bG D ws H0 q 0 [.long emptyF]) := by
  refine enterI (lv := [(0, .ref (q + 100))]) (by decide +kernel) (Nat.le_of_ble_eq_true rfl) rfl hAD (fun U hK => ns_write hK BN.ns) ?_
  intro p e s m below meth c A args hA C hr hlk hnm
  refine sg0 C foX0 coX0 oX0_init_0 rfl rfl hn ?_
  refine cl_sn C (kX8_emptyDigest hAD hn BN.ns) cd_X8_emptyDigest in_X8 (by decide) sm_X8_emptyDigest hd_X8_emptyDigest rfl rfl ⟨Nat.le_of_ble_eq_true rfl, Nat.le_of_ble_eq_true rfl⟩ ⟨Nat.le_of_ble_eq_true rfl, Nat.le_of_ble_eq_true rfl⟩ (Nat.le_of_ble_eq_true rfl) jX0_init_1 (fun v ws' => Wa.and (fun hv => ?_))
  obtain ⟨rfl, rfl⟩ := hv
  refine cl_i C (kX4_init hAD hn hww (ci := 0) rfl (by decide) (by simp) rfl emptyF) hA cd_X4_init in_X4 ml_X0_7 im_X4_init rfl hd_X4_init rfl rfl ⟨Nat.le_of_ble_eq_true rfl, Nat.le_of_ble_eq_true rfl⟩ ⟨Nat.le_of_ble_eq_true rfl, Nat.le_of_ble_eq_true rfl⟩ (Nat.le_of_ble_eq_true rfl) jX0_init_4 (fun v ws' => Wa.and (fun hv => ?_))
  obtain ⟨rfl, rfl⟩ := hv
  have C := C.to (N2 := BN D H0 q 0 [.long emptyF]) BN.ns
  exact rt_v C hr hlk jX0_init_7 (fun H hN => ⟨⟨rfl, rfl⟩, hN⟩)
set_option maxRecDepth 100000 in
set_option maxHeartbeats 4000000 in
theorem kX3_init (hAD : AD ad n) (hn : ws.length = n) (hww : ws.all nno = true) (P : Nat) (v : Int64) : CtI l yX3_init cX3_init 4 (rK 2 0 0) D ca ad ws n q [.ref (q + 100), .int (nI P), .long v] (BN D H0 q 3 [.long 0, .int 0, .long 0]) (bG D ws H0 q 3 [.long (leafF P v), .int (nI P), .long v]) := by
  refine enterI (lv := [(0, .ref (q + 100)), (1, .int (nI P)), (2, .long v)]) (by decide +kernel) (Nat.le_of_ble_eq_true rfl) rfl hAD (fun U hK => ns_write hK BN.ns) ?_
  intro p e s m below meth c A args hA C hr hlk hnm
  refine sg0 C foX3 coX3 oX3_init_0 rfl rfl hn ?_
  refine cl_sn C (kX8_leafDigest hAD hn BN.ns P v) cd_X8_leafDigest in_X8 (by decide) sm_X8_leafDigest hd_X8_leafDigest rfl rfl ⟨Nat.le_of_ble_eq_true rfl, Nat.le_of_ble_eq_true rfl⟩ ⟨Nat.le_of_ble_eq_true rfl, Nat.le_of_ble_eq_true rfl⟩ (Nat.le_of_ble_eq_true rfl) jX3_init_3 (fun v ws' => Wa.and (fun hv => ?_))
  obtain ⟨rfl, rfl⟩ := hv
  refine cl_i C (kX4_init hAD hn hww (ci := 3) rfl (by decide) (by simp) rfl (leafF P v)) hA cd_X4_init in_X4 ml_X3_7 im_X4_init rfl hd_X4_init rfl rfl ⟨Nat.le_of_ble_eq_true rfl, Nat.le_of_ble_eq_true rfl⟩ ⟨Nat.le_of_ble_eq_true rfl, Nat.le_of_ble_eq_true rfl⟩ (Nat.le_of_ble_eq_true rfl) jX3_init_6 (fun v ws' => Wa.and (fun hv => ?_))
  obtain ⟨rfl, rfl⟩ := hv
  have C := C.to (N2 := BN D H0 q 3 [.long (leafF P v), .int 0, .long 0]) BN.ns
  refine sg0 C foX3 coX3 oX3_init_9 rfl rfl hn ?_
  refine np (k := 1) (ty := .int) C (fun _ h => h) hww rfl (by decide) fl_X3_13 rfl hnm rfl (by decide +kernel) rfl rfl (by simp) hA jX3_init_11 ?_
  have C := C.to (N2 := BN D H0 q 3 [.long (leafF P v), .int (nI P), .long 0]) BN.ns
  refine sg0 C foX3 coX3 oX3_init_14 rfl rfl hn ?_
  refine np (k := 2) (ty := .long) C (fun _ h => h) hww rfl (by decide) fl_X3_19 rfl hnm rfl (by decide +kernel) rfl rfl (by simp) hA jX3_init_16 ?_
  have C := C.to (N2 := BN D H0 q 3 [.long (leafF P v), .int (nI P), .long v]) BN.ns
  exact rt_v C hr hlk jX3_init_19 (fun H hN => ⟨⟨rfl, rfl⟩, hN⟩)
end
/-- the digest of a node, by its cell -/
theorem dig_at {D : va_G} {H : Heap} {T : Term} (h : nodeAt D H T) : ∃ (ci : Nat) (r : vw_C) (fs : List Value), ci < 4 ∧ vwCl[ci]? = some r ∧ 0 < r.2.2 ∧ r.2.1 0 = ("PathProofs$Node", "digest", "J", true) ∧ va_at D vwCl (adr T, .inr (ci, fs)) H ∧ fs[0]? = some (.long (dig T)) := by
  have hT := nodeAt.T T h
  revert h
  refine tr_ind (P := fun T => nodeAt D H T → ∃ (ci : Nat) (r : vw_C) (fs : List Value), ci < 4 ∧ vwCl[ci]? = some r ∧ 0 < r.2.2 ∧ r.2.1 0 = ("PathProofs$Node", "digest", "J", true) ∧ va_at D vwCl (adr T, .inr (ci, fs)) H ∧ fs[0]? = some (.long (dig T))) ?_ ?_ ?_ ?_ T hT
  · exact fun q h => ⟨0, _, _, by decide, rfl, by decide, rfl, h, rfl⟩
  · exact fun q d h => ⟨2, _, _, by decide, rfl, by decide, rfl, h, rfl⟩
  · exact fun q p v h => ⟨3, _, _, by decide, rfl, by decide, rfl, h, rfl⟩
  · exact fun q B S x y _ _ _ _ h => ⟨1, _, _, by decide, rfl, by decide, rfl, h.1, rfl⟩
