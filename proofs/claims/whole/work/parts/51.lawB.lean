/-! the law: calls, loads -/
abbrev AL (s : State) : Nat → Prop := fun q => s.heap.size ≤ q
section
variable {p : Program} {l : Launch} {e : Env} {R : Room} {s : State} {m : MethodId} {args : Array Value} {below : List Frame} {meth : Method} {c : Code} {cells slots : Nat} {Q : State → Prop} {cc : ByteArray} {nL n : Nat} {own : String} {D : va_G} {ca : Nat → ClassId} {ad : Nat → Nat} {N : Heap → Prop}
theorem lcall (F : CallFix p m c cc nL s args tb own) (hKS : KS D ca s) {y : MethodName} {bytes : ByteArray} {maxL k idx pc ci : Nat} {ret : Option FieldType} {rm : Room} {ws : List va_E} {av rest : List Value} {fs : List Value} {r : vw_C} {G : Option Value → List va_E → Heap → Prop} {H : Heap} {locs : List Loc} {ls : Array Slot} {lv : List (Nat × Value)} (hM : Ct l y bytes maxL ret rm D ca ad ws n (.ref 0 :: av) N G) (hc : vwCl[ci]? = some r) (hcl : r.1 = y.cls) (ht : nth ws 0 = some (.inr (ci, fs))) (hcd : Cond.code y bytes maxL ret ∈ tb) (hini : Cond.initialized y.cls ∈ tb) (hlk : Cond.methodLink own idx y ∈ tb) (him : Cond.instanceMethod y ∈ tb) (hse : Cond.selects y.cls y y ∈ tb)
    (hd : y.cls ≠ "java/lang/invoke/MethodHandle" ∧ y.cls ≠ "java/lang/invoke/VarHandle" ∧ (parseMethodDescriptor y.desc).map (fun d => d.parameters.length) = some k) (hk : av.length = k) (hav : av.map (cv ad) = av) (hR : rm.frames + 1 ≤ R.frames ∧ 8 + (maxL + 11) + rm.locals ≤ R.locals) (hR2 : cells + rm.cells ≤ R.cells ∧ slots + rm.slots ≤ R.slots) (hcat : (rest.map fun v => v.category).sum ≤ 8) (hdg : decode cc pc = .ok (.invokevirtual idx, 3)) (hl : lv_has ls nL lv) (hP : va_P D vwCl (cw ad ca 0 ws) H) (hS : va_S (AL s) s.heap H locs) (hN : N H) (hA : ∀ k, k < n → s.heap.size ≤ ad k)
    (kk : ∀ (v : Option Value) (ws' : List va_E) (H1 : Heap) (locs1 : List Loc), va_P D vwCl (cw ad ca 0 ws') H1 → G v ws' H1 → H.size ≤ H1.size → (∀ q : Nat, q < H.size → (∀ k, k < n → ¬ q = ad k) → H1[q]? = H[q]?) → va_S (AL s) s.heap H1 locs1 → W p l e R s m args below meth c H1 locs1 (cells + rm.cells) (slots + rm.slots) Q (F0 m (pc + 3) ls ((v.map (cv ad)).toList ++ rest))) : W p l e R s m args below meth c H locs cells slots Q (F0 m pc ls (av.reverse ++ .ref (ad 0) :: rest)) := by
  have hts := F.2.2.2.2
  have hrec := rcv (N := N) hKS hc ht H hP hN
  rw [hcl] at hrec
  have hr := va_runV (l := l) (e := e) (R := R) (below := below) (meth := meth) (locs := locs) (cells := cells) (slots := slots) (rest := rest) (As := av.map (cv ad)) (b := ad 0) (n := k) (H := H) (g := F0 m pc ls (av.reverse ++ .ref (ad 0) :: rest)) F (hM H.size) ⟨callB_of k hts (tb_gi hcd) rfl rfl rfl (hts _ hini) (hts _ hlk) hd hR, hts _ him, hts _ hse⟩ ⟨CPre_blind, hrec, fun U hU hW => ⟨rfl, by rw [hU], by rw [hU]; exact hP, hKS.warm hW, by rw [hU]; exact hN⟩⟩ rfl (by simpa using hk) hl.1 (by rw [hav]) (lv_room hcat) hdg hR2
  intro T hT X
  obtain ⟨v, st₀, t, T', L, h0, X', hL, e1, e2, ⟨⟨v2, ws2, hv, hp, hg⟩, hz, hk9⟩, st⟩ := hr T hT X
  cases hv
  rw [h0] at hz hk9
  have hAA : ∀ q, Fr ad n H.size q → AL s q := fun q h => h.elim (fun ⟨k, h1, h2⟩ => by rw [h2]; exact hA k h1) (fun h => Nat.le_trans hS.1 h)
  have hS1 : va_S (AL s) s.heap T'.heap (locs ++ L) := ⟨Nat.le_trans hS.1 (by rw [e1]; exact hz), fun q h1 h2 => by rw [e1, hk9 q (Nat.lt_of_lt_of_le h1 hS.1) (fun z => h2 (hAA q z))]; exact hS.2.1 q h1 h2, fun q hq => by
      rcases List.mem_append.mp hq with h | h
      · exact hS.2.2 q h
      · exact hAA _ (hL q h)⟩
  obtain ⟨t2, a1, b1⟩ := kk v2 ws2 T'.heap (locs ++ L) (by rw [e1]; exact hp) (by rw [e1]; exact hg) (by rw [e1]; exact hz) (fun q h1 h2 => by rw [e1]; exact hk9 q h1 (fun z => z.elim (fun ⟨k, h3, h4⟩ => h2 k h3 h4) (fun h3 => absurd h1 (Nat.not_lt.mpr h3)))) hS1 T' rfl X'
  exact ⟨t2, st t2 a1, b1⟩
theorem cat_opt {v : Option Value} : (((v.map (cv ad)).toList ++ []).map fun v : Value => v.category).sum ≤ 8 := by
  cases v with
  | none => exact Nat.zero_le _
  | some v => cases v <;> exact Nat.le_of_ble_eq_true rfl
end
/-- the law's locals -/
abbrev lvL (b qx qm i : Nat) : List (Nat × Value) := [(0, .ref b), (1, .ref qx), (2, .ref qm), (3, .int (nI i))]
def lgv (u v : Int32) : Int64 := (u.toInt64 <<< ((32 : Int32).toInt64 &&& 63)) ||| (v.toInt64 &&& 4294967295)
def Lc (p : Program) (s : State) (m : MethodId) (c : Code) (D : va_G) (ca : Nat → ClassId) (b L : Nat) (xs : Nat → Int32) : Prop := CallFix p m c code 4 s #[Value.ref b] tb RL ∧ KS D ca s ∧ va_X b L xs s s.heap ∧ b < s.heap.size ∧ L ≤ 2048
section
variable {p : Program} {l : Launch} {e : Env} {R : Room} {s : State} {m : MethodId} {below : List Frame} {meth : Method} {c : Code} {cells slots : Nat} {Q : State → Prop} {D : va_G} {ca : Nat → ClassId} {b L qx qm i : Nat} {xs : Nat → Int32} {H : Heap} {locs : List Loc} {ls : Array Slot}
/-- one of the script's ints -/
theorem ld_i (C : Lc p s m c D ca b L xs) (hl : lv_has ls 4 (lvL b qx qm i)) (hS : va_S (AL s) s.heap H locs) {pc k : Nat} {rest : List Value} (hk : i + k < L) (h0 : decode code pc = .ok (.aload_n 0, 1)) (h1 : decode code (pc + 1) = .ok (.iload_n 3, 1)) (h2 : decode code (pc + 2) = .ok (.iconst k, 1)) (h3 : decode code (pc + 3) = .ok (.iadd, 1)) (h4 : decode code (pc + 4) = .ok (.iaload, 1)) (kk : W p l e R s m #[Value.ref b] below meth c H locs cells slots Q (F0 m (pc + 5) ls (.int (xs (i + k)) :: rest))) : W p l e R s m #[Value.ref b] below meth c H locs cells slots Q (F0 m pc ls rest) := by
  obtain ⟨⟨hx, hb, hml, hown, hts⟩, hKS, hX, hbl, hL⟩ := C
  refine lv_aload_n hx hb h0 rfl (lv_at hl 0 rfl) ?_
  refine lv_iload_n hx hb h1 rfl (lv_at hl 3 rfl) ?_
  refine lv_iconst (v := nI k) hx hb h2 rfl ?_
  refine lv_iadd hx hb h3 ?_
  rw [nI_add]
  refine va_sld hx hb hX hbl (Nat.not_le.mpr hbl) hS (vp_in_nI hk (by omega)) h4 ?_
  rw [nI_clamp (show i + k < 2 ^ 31 by omega)]
  exact kk
/-- a long of two of them -/
theorem ld_l (C : Lc p s m c D ca b L xs) (hl : lv_has ls 4 (lvL b qx qm i)) (hS : va_S (AL s) s.heap H locs) {pc k j : Nat} {rest : List Value} (hk : i + k < L) (hj : i + j < L) (h0 : decode code pc = .ok (.aload_n 0, 1)) (h1 : decode code (pc + 1) = .ok (.iload_n 3, 1)) (h2 : decode code (pc + 2) = .ok (.iconst k, 1)) (h3 : decode code (pc + 3) = .ok (.iadd, 1)) (h4 : decode code (pc + 4) = .ok (.iaload, 1)) (h5 : decode code (pc + 5) = .ok (.i2l, 1)) (h6 : decode code (pc + 6) = .ok (.bipush 32, 2)) (h7 : decode code (pc + 8) = .ok (.lshl, 1))
    (g0 : decode code (pc + 9) = .ok (.aload_n 0, 1)) (g1 : decode code (pc + 10) = .ok (.iload_n 3, 1)) (g2 : decode code (pc + 11) = .ok (.iconst j, 1)) (g3 : decode code (pc + 12) = .ok (.iadd, 1)) (g4 : decode code (pc + 13) = .ok (.iaload, 1)) (g5 : decode code (pc + 14) = .ok (.i2l, 1)) (g6 : decode code (pc + 15) = .ok (.ldc2_w 13, 3)) (g7 : decode code (pc + 18) = .ok (.land, 1)) (g8 : decode code (pc + 19) = .ok (.lor, 1)) (hct : Cond.constantLong RL 13 4294967295 ∈ tb)
    (kk : W p l e R s m #[Value.ref b] below meth c H locs cells slots Q (F0 m (pc + 20) ls (.long (lgv (xs (i + k)) (xs (i + j))) :: rest))) : W p l e R s m #[Value.ref b] below meth c H locs cells slots Q (F0 m pc ls rest) := by
  refine ld_i C hl hS hk h0 h1 h2 h3 h4 ?_
  have C' := C
  obtain ⟨⟨hx, hb, hml, hown, hts⟩, hKS, hX, hbl, hL⟩ := C
  refine lv_i2l hx hb h5 rfl ?_
  refine lv_bipush (v := 32) hx hb h6 (by decide) ?_
  refine lv_lshl hx hb h7 rfl ?_
  refine ld_i C' hl hS hj g0 g1 g2 g3 g4 ?_
  refine lv_i2l hx hb g5 rfl ?_
  refine lv_ldc2 hx hb hown (hts _ hct) g6 ?_
  refine lv_land hx hb g7 ?_
  refine lv_lor hx hb g8 ?_
  exact kk
end
