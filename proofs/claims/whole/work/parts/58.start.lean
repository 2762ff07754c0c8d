/-! the law: its start -/
set_option maxRecDepth 100000 in
set_option maxHeartbeats 4000000 in
theorem ks_start {s : State} {b : Nat} (hts : ∀ w ∈ lw_tbl, w.before #[Value.ref b] s = true) (hgv : (Jvm.Cond.and given_1 narrow_1).before #[Value.ref b] s = true) : ∃ (D : va_G) (ca : Nat → ClassId), KS D ca s := by
  have htb : ∀ w ∈ tb, w.before #[Value.ref b] s = true := fun w hw => hts w (tb_in hw)
  have hk : ∀ c : Nat, ∃ y : ClassId × (Nat → Nat), ∀ q, vwCl[c]? = some q → u_Kn s q.1 q.2.1 q.2.2 y.1 y.2 := by
    intro c
    match c with
    | 0 =>
      obtain ⟨cC, iS, h⟩ := u_known htb (clsOk 0 _ rfl).1 (htb _ is_X0)
      exact ⟨(cC, iS), fun q hq => by cases hq; exact h⟩
    | 1 =>
      obtain ⟨cC, iS, h⟩ := u_known htb (clsOk 1 _ rfl).1 (htb _ is_X1)
      exact ⟨(cC, iS), fun q hq => by cases hq; exact h⟩
    | 2 =>
      obtain ⟨cC, iS, h⟩ := u_known htb (clsOk 2 _ rfl).1 (htb _ is_X2)
      exact ⟨(cC, iS), fun q hq => by cases hq; exact h⟩
    | 3 =>
      obtain ⟨cC, iS, h⟩ := u_known htb (clsOk 3 _ rfl).1 (htb _ is_X3)
      exact ⟨(cC, iS), fun q hq => by cases hq; exact h⟩
    | 4 =>
      obtain ⟨cC, iS, h⟩ := u_known htb (clsOk 4 _ rfl).1 (htb _ is_X5)
      exact ⟨(cC, iS), fun q hq => by cases hq; exact h⟩
    | 5 =>
      obtain ⟨cC, iS, h⟩ := u_known htb (clsOk 5 _ rfl).1 (htb _ is_X6)
      exact ⟨(cC, iS), fun q hq => by cases hq; exact h⟩
    | 6 =>
      obtain ⟨cC, iS, h⟩ := u_known htb (clsOk 6 _ rfl).1 (htb _ is_X7)
      exact ⟨(cC, iS), fun q hq => by cases hq; exact h⟩
    | 7 =>
      obtain ⟨cC, iS, h⟩ := u_known htb (clsOk 7 _ rfl).1 (htb _ is_X8)
      exact ⟨(cC, iS), fun q hq => by cases hq; exact h⟩
    | 8 =>
      obtain ⟨cC, iS, h⟩ := u_known htb (clsOk 8 _ rfl).1 (htb _ is_X9)
      exact ⟨(cC, iS), fun q hq => by cases hq; exact h⟩
    | c + 9 =>
      obtain ⟨cC, iS, h⟩ := u_known htb (clsOk 0 _ rfl).1 (htb _ is_X0)
      exact ⟨(cC, iS), fun q hq => by simp [vwCl] at hq⟩
  obtain ⟨f, hf⟩ := Classical.axiomOfChoice hk
  obtain ⟨c1, k1, m1, a1, a2, a3⟩ := Cond.arrayClass_spec (type := .int) (hts _ (List.mem_of_getElem? (i := 64) rfl))
  obtain ⟨c2, k2, m2, b1, b2, b3⟩ := Cond.arrayClass_spec (type := .long) (hts _ (List.mem_of_getElem? (i := 579) rfl))
  have hao : (Cond.arrayOver (.object "PathProofs$Node")).before #[Value.ref b] s = true := hts _ (List.mem_of_getElem? (i := 46) rfl)
  obtain ⟨m3, c3, k3, d1, d2, d3, d4, d5⟩ := Cond.arrayOver_spec hao
  have hs := flat_of_before _ hgv
  refine ⟨(fun k => (f k).1, fun k => (f k).2), fun k => if k = 0 then c1 else if k = 1 then c2 else c3, ⟨fun k q hq => hf k q hq, fun k q hq => ?_⟩, ?_, ?_, ?_, va_AO.of hao⟩
  · match k, hq with
    | 0, hq => cases hq; exact ⟨fun n z => ⟨fun k h => (by cases h), k1, a2, m1, a3⟩, a1⟩
    | 1, hq => cases hq; exact ⟨fun n z => ⟨fun k h => (by cases h), k2, b2, m2, b3⟩, b1⟩
    | 2, hq => cases hq; exact ⟨fun n z => ⟨fun k h => (by cases h), k3, d3, m3, d4⟩, k3, m3, d3, d4, d1, d5⟩
    | k + 3, hq => simp at hq
  · exact List.forall_mem_cons.mpr ⟨va_Nw.of rfl (hts _ (List.mem_of_getElem? (i := 49) rfl)), List.forall_mem_cons.mpr ⟨va_Nw.of rfl (hts _ (List.mem_of_getElem? (i := 70) rfl)), List.forall_mem_cons.mpr ⟨va_Nw.of rfl (hts _ (List.mem_of_getElem? (i := 92) rfl)), List.forall_mem_cons.mpr ⟨va_Nw.of rfl (hts _ (List.mem_of_getElem? (i := 151) rfl)), List.forall_mem_cons.mpr ⟨va_Nw.of rfl (hts _ (List.mem_of_getElem? (i := 158) rfl)), List.forall_mem_cons.mpr ⟨va_Nw.of rfl (hts _ (List.mem_of_getElem? (i := 169) rfl)), List.forall_mem_cons.mpr ⟨va_Nw.of rfl (hts _ (List.mem_of_getElem? (i := 195) rfl)), List.forall_mem_cons.mpr ⟨va_Nw.of rfl (hts _ (List.mem_of_getElem? (i := 380) rfl)), fun _ h => absurd h List.not_mem_nil⟩⟩⟩⟩⟩⟩⟩⟩
  · exact List.forall_mem_cons.mpr ⟨va_Nw.of rfl (hts _ (List.mem_of_getElem? (i := 765) rfl)), List.forall_mem_cons.mpr ⟨va_Nw.of rfl (hts _ (List.mem_of_getElem? (i := 766) rfl)), List.forall_mem_cons.mpr ⟨va_Nw.of rfl (hts _ (List.mem_of_getElem? (i := 767) rfl)), List.forall_mem_cons.mpr ⟨va_Nw.of rfl (hts _ (List.mem_of_getElem? (i := 768) rfl)), List.forall_mem_cons.mpr ⟨va_Nw.of rfl (hts _ (List.mem_of_getElem? (i := 769) rfl)), List.forall_mem_cons.mpr ⟨va_Nw.of rfl (hts _ (List.mem_of_getElem? (i := 770) rfl)), List.forall_mem_cons.mpr ⟨va_Nw.of rfl (hts _ (List.mem_of_getElem? (i := 771) rfl)), fun _ h => absurd h List.not_mem_nil⟩⟩⟩⟩⟩⟩⟩
  · exact List.forall_mem_cons.mpr ⟨va_Nc.of (hs _ (by decide +kernel)), List.forall_mem_cons.mpr ⟨va_Nc.of (hs _ (by decide +kernel)), List.forall_mem_cons.mpr ⟨va_Nc.of (hs _ (by decide +kernel)), List.forall_mem_cons.mpr ⟨va_Nc.of (hs _ (by decide +kernel)), List.forall_mem_cons.mpr ⟨va_Nc.of (hs _ (by decide +kernel)), List.forall_mem_cons.mpr ⟨va_Nc.of (hs _ (by decide +kernel)), List.forall_mem_cons.mpr ⟨va_Nc.of (hs _ (by decide +kernel)), List.forall_mem_cons.mpr ⟨va_Nc.of (hs _ (by decide +kernel)), List.forall_mem_cons.mpr ⟨va_Nc.of (hs _ (by decide +kernel)), fun _ h => absurd h List.not_mem_nil⟩⟩⟩⟩⟩⟩⟩⟩⟩
section
variable {p : Program} {l : Launch} {e : Env} {R : Room} {s : State} {m : MethodId} {args : Array Value} {below : List Frame} {meth : Method} {c : Code} {cells slots : Nat} {Q : State → Prop} {cc : ByteArray} {nL n : Nat} {own : String} {D : va_G} {ca : Nat → ClassId} {ad : Nat → Nat} {N : Heap → Prop} {H : Heap} {locs : List Loc} {ls : Array Slot} {rest : List Value}
/-- new, in the law -/
theorem lnew (F : CallFix p m c cc nL s args tb own) (hKS : KS D ca s) {ci idx pc : Nat} {r : vw_C} {fs : List Value} (hc : vwCl[ci]? = some r) (hkl : Cond.classLink own idx r.1 ∈ tb) (his : Cond.instantiable r.1 r.2.2 ∈ tb) (hin : Cond.initialized r.1 ∈ tb) (ty : Nat → FieldType) (hty : ∀ k, k < r.2.2 → parseFieldDescriptor (r.2.1 k).2.2.1 = some (ty k)) (hfs : ∀ j, j < r.2.2 → defaultValue (ty j) = vp_V fs j) (hR : cells + 1 ≤ R.cells ∧ slots + r.2.2 ≤ R.slots) (hdg : decode cc pc = .ok (.new idx, 3))
    (kk : ∀ H1 : Heap, H1.size = H.size + 1 → (∀ q, q < H.size → H1[q]? = H[q]?) → va_at D vwCl (H.size, .inr (ci, fs)) H1 → W p l e R s m args below meth c H1 locs (cells + 1) (slots + r.2.2) Q (F0 m (pc + 3) ls (.ref H.size :: rest))) : W p l e R s m args below meth c H locs cells slots Q (F0 m pc ls rest) := by
  have hts := F.2.2.2.2
  have hKn := hKS.1.1 ci _ hc
  obtain ⟨C9, T9, N9⟩ := r
  refine W.newcK F.1 F.2.1 F.2.2.2.1 (hts _ hkl) (hts _ his) (hts _ hin) rfl hdg hR.1 hR.2 hKn.2.1 rfl fun H1 kC hkC e1 z1 o1 => ?_
  exact kk H1 z1 o1 ⟨_, hc, (u_born ty hts (clsOk ci _ hc).1 hKn hkC e1 hty).to hfs⟩
/-- a constructor, in the law -/
theorem lcallN (F : CallFix p m c cc nL s args tb own) (hKS : KS D ca s) {y : MethodName} {bytes : ByteArray} {maxL idx pc : Nat} {rm : Room} {ws : List va_E} {G : List va_E → Heap → Prop} {lv : List (Nat × Value)} (hM : CtN l y bytes maxL rm D ca ad ws n [.ref 0] N G) (hcd : Cond.code y bytes maxL none ∈ tb) (hini : Cond.initialized y.cls ∈ tb) (hlk : Cond.methodLink own idx y ∈ tb) (him : Cond.instanceMethod y ∈ tb) (hnm : y.name = "<init>")
    (hd : y.cls ≠ "java/lang/invoke/MethodHandle" ∧ y.cls ≠ "java/lang/invoke/VarHandle" ∧ (parseMethodDescriptor y.desc).map (fun d => d.parameters.length) = some 0) (hR : rm.frames + 1 ≤ R.frames ∧ 8 + (maxL + 11) + rm.locals ≤ R.locals) (hR2 : cells + rm.cells ≤ R.cells ∧ slots + rm.slots ≤ R.slots) (hcat : (rest.map fun v => v.category).sum ≤ 8) (hdg : decode cc pc = .ok (.invokespecial idx, 3)) (hl : lv_has ls nL lv) (hP : va_P D vwCl (cw ad ca 0 ws) H) (hS : va_S (AL s) s.heap H locs) (hN : N H) (hA : ∀ k, k < n → s.heap.size ≤ ad k)
    (kk : ∀ (ad' : Nat → Nat) (ws' : List va_E) (H1 : Heap) (locs1 : List Loc), Ag n ad ad' → AD ad' ws'.length → (∀ k, n ≤ k → k < ws'.length → H.size ≤ ad' k) → va_P D vwCl (cw ad' ca 0 ws') H1 → G ws' H1 → H.size ≤ H1.size → (∀ q : Nat, q < H.size → (∀ k, k < n → ¬ q = ad k) → H1[q]? = H[q]?) → va_S (AL s) s.heap H1 locs1 → W p l e R s m args below meth c H1 locs1 (cells + rm.cells) (slots + rm.slots) Q (F0 m (pc + 3) ls rest)) : W p l e R s m args below meth c H locs cells slots Q (F0 m pc ls (.ref (ad 0) :: rest)) := by
  have hts := F.2.2.2.2
  have hr := va_runI (l := l) (e := e) (R := R) (below := below) (meth := meth) (locs := locs) (cells := cells) (slots := slots) (rest := rest) (As := []) (b := ad 0) (n := 0) (H := H) (g := F0 m pc ls (.ref (ad 0) :: rest)) F (hM H.size) ⟨callB_of 0 hts (tb_gi hcd) rfl rfl rfl (hts _ hini) (hts _ hlk) hd hR, hnm, hts _ him⟩ ⟨CPre_blind, fun U hU hW => ⟨rfl, by rw [hU], by rw [hU]; exact hP, hKS.warm hW, by rw [hU]; exact hN⟩⟩ rfl rfl hl.1 rfl (lv_room hcat) hdg hR2
  intro T hT X
  obtain ⟨v, st₀, t, T', L, h0, X', hL, e1, e2, ⟨⟨ad', ws2, hg, hAD, hf, hv, hp, hgg⟩, hz, hk9⟩, st⟩ := hr T hT X
  cases hv
  rw [h0] at hz hk9
  have hAA : ∀ q, Fr ad n H.size q → AL s q := fun q h => h.elim (fun ⟨k, h1, h2⟩ => by rw [h2]; exact hA k h1) (fun h => Nat.le_trans hS.1 h)
  have hS1 : va_S (AL s) s.heap T'.heap (locs ++ L) := ⟨Nat.le_trans hS.1 (by rw [e1]; exact hz), fun q h1 h2 => by rw [e1, hk9 q (Nat.lt_of_lt_of_le h1 hS.1) (fun z => h2 (hAA q z))]; exact hS.2.1 q h1 h2, fun q hq => by
      rcases List.mem_append.mp hq with h | h
      · exact hS.2.2 q h
      · exact hAA _ (hL q h)⟩
  obtain ⟨t2, a1, b1⟩ := kk ad' ws2 T'.heap (locs ++ L) hg hAD hf (by rw [e1]; exact hp) (by rw [e1]; exact hgg) (by rw [e1]; exact hz) (fun q h1 h2 => by rw [e1]; exact hk9 q h1 (fun z => z.elim (fun ⟨k, h3, h4⟩ => h2 k h3 h4) (fun h3 => absurd h1 (Nat.not_lt.mpr h3)))) hS1 T' rfl X'
  exact ⟨t2, st t2 a1, b1⟩
end
theorem upA_AD {q : Nat} : AD (upA (fun k => k - 100) 0 q) 1 := ⟨fun i j hi hj _ => by omega, fun k => by unfold upA; rw [if_neg (by omega)]; show k + 100 - 100 = k; omega⟩
theorem cw_1 {D : va_G} {ca : Nat → ClassId} {q ci : Nat} {fs : List Value} {H : Heap} (hfs : ∀ a : Nat → Nat, fs.map (cv a) = fs) (h : va_at D vwCl (q, .inr (ci, fs)) H) : va_P D vwCl (cw (upA (fun k => k - 100) 0 q) ca 0 [.inr (ci, fs)]) H := by
  intro k x hk
  match k, hk with
  | 0, hk =>
    have hk : some (q, (Sum.inr (ci, fs.map (cv (upA (fun k => k - 100) 0 q))) : va_E)) = some x := hk
    rw [hfs] at hk
    cases hk
    exact h
  | k + 1, hk => cases hk
