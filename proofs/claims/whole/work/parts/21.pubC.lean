/-! public methods of the class: versions, writing, erasing, showing -/
theorem strp_strp (T : Term) (hT : isT T) : strp (strp T) = strp T := by
  refine tr_ind (P := fun T => strp (strp T) = strp T) ?_ ?_ ?_ ?_ T hT
  · exact fun q => rfl
  · exact fun q d => rfl
  · exact fun q p v => rfl
  · exact fun q B S x y _ _ i1 i2 => by simp only [strp, i1, i2]
theorem wrt_strp (T : Term) (hT : isT T) (P : Nat) (L : Term) (hL : isT L) : strp (wrtT T P L) = strp (wrtT (strp T) P (strp L)) := by
  have hLL := strp_strp L hL
  refine tr_ind (P := fun T => strp (wrtT T P L) = strp (wrtT (strp T) P (strp L))) ?_ ?_ ?_ ?_ T hT
  · exact fun q => hLL.symm
  · exact fun q d => hLL.symm
  · intro q p v
    simp only [strp, wrtT]
    split
    · exact hLL.symm
    · exact fkT_strp rfl hLL.symm
  · intro q B S x y h1 h2 i1 i2
    simp only [strp, wrtT]
    split
    · split
      · simp only [strp, i2, strp_strp x h1]
      · simp only [strp, i1, strp_strp y h2]
    · exact fkT_strp (by simp only [strp, strp_strp x h1, strp_strp y h2]) hLL.symm
theorem isF_strp (T : Term) (hT : isT T) : isF (strp T) = isF T := by
  refine tr_ind (P := fun T => isF (strp T) = isF T) ?_ ?_ ?_ ?_ T hT
  · exact fun q => rfl
  · exact fun q d => rfl
  · exact fun q p v => rfl
  · exact fun q B S x y _ _ _ _ => rfl
theorem del_strp (T : Term) (hT : isT T) (P : Nat) : strp (delT T P) = strp (delT (strp T) P) := by
  refine tr_ind (P := fun T => strp (delT T P) = strp (delT (strp T) P)) ?_ ?_ ?_ ?_ T hT
  · exact fun q => rfl
  · exact fun q d => rfl
  · exact fun q p v => rfl
  · intro q B S x y h1 h2 i1 i2
    simp only [strp, delT, isF_strp x h1, isF_strp y h2]
    split
    · split
      · simp only [strp, i2, strp_strp x h1]
      · exact (strp_strp x h1).symm
    · split
      · simp only [strp, i1, strp_strp y h2]
      · exact (strp_strp y h2).symm
theorem lf_strp (T : Term) (hT : isT T) (P : Nat) : lfT (strp T) P = lfT T P := by
  refine tr_ind (P := fun T => lfT (strp T) P = lfT T P) ?_ ?_ ?_ ?_ T hT
  · exact fun q => rfl
  · exact fun q d => rfl
  · exact fun q p v => rfl
  · exact fun q B S x y _ _ _ _ => rfl
theorem way_fit (T : Term) (hT : isT T) (P : Nat) : ∀ k, k ≤ 16 → fitT T k → fitT (wayT T P) 16 := by
  refine tr_ind (P := fun T => ∀ k, k ≤ 16 → fitT T k → fitT (wayT T P) 16) ?_ ?_ ?_ ?_ T hT
  · exact fun q k _ h => h
  · exact fun q d k _ h => h
  · exact fun q p v k _ h => h
  · intro q B S x y _ _ i1 i2 k hk h
    obtain ⟨⟨hB, hkB, hS, hstm⟩, hfx, hfy⟩ := fitF h
    simp only [wayT]
    split
    · split
      · exact i2 _ (by omega) hfy
      · exact i1 _ (by omega) hfx
    · exact ⟨⟨hB, by omega, hS, hstm⟩, hfx, hfy⟩
/-- the whole node of a version, or of the tree (-1) -/
def whl (T : Term) (Vs : List Term) (x : Int32) : Option Term := if x = -1 then some T else if 0 ≤ x ∧ x < nI Vs.length then Vs[x.toNatClampNeg]? else none
def kfR (kf : Nat → Option Nat) (Vs : List Term) : Prop := Vs.length ≤ 8 ∧ ∀ (j : Nat) (V : Term), Vs[j]? = some V → kf j = some (adr V)
section
variable {p : Program} {l : Launch} {e : Env} {R : Room} {s : State} {m : MethodId} {args : Array Value} {below : List Frame} {meth : Method} {c : Code} {cells slots : Nat} {Q : State → Prop} {cc : ByteArray} {nL n : Nat} {own : String} {D : va_G} {ca : Nat → ClassId} {ad : Nat → Nat} {A : Nat → Prop} {N : Heap → Prop}
theorem aal (C : Cx p s m args c cc nL own D ca ad A N n) {t k q pc : Nat} {i : Int32} {f : Nat → Option Nat} {lv : List (Nat × Value)} {st : List Value} {ws : List va_E} (ht : nth ws t = some (.inl (2, k, .inr (.inr (.inr (.inr f)))))) (hin : vp_in i k) (hv : f i.toNatClampNeg = some q) (hdg : decode cc pc = .ok (.aaload, 1))
    (kk : Wa p l e R s m args below meth c cells slots Q D ca ad A nL N (lv, .ref (q + 100) :: st, ws) (pc + 1)) : Wa p l e R s m args below meth c cells slots Q D ca ad A nL N (lv, .int i :: .ref t :: st, ws) pc := by
  intro H locs ls h1 h2 h3 h4
  rw [nth_eq] at ht
  have k2 := kk H locs ls h1 h2 h3 h4
  refine va_aldq (D := D) (cA := ca 2) (n := k) (f := f) C.1.1 C.1.2.1 C.2.1.1 h2 t 2 (by rw [cw_at, ht]; simp [ce]) rfl hin hdg ?_
  rw [hv, show va_rf (some q) = cv ad (.ref (q + 100)) from (cv_raw C q).symm]
  exact k2
theorem aas (C : Cx p s m args c cc nL own D ca ad A N n) {T : Term} {t k pc : Nat} {i : Int32} {f : Nat → Option Nat} {lv : List (Nat × Value)} {st : List Value} {ws ws2 : List va_E} (hn : ws.length = n) (hx : ∀ H, N H → nodeAt D H T) (ht : nth ws t = some (.inl (2, k, .inr (.inr (.inr (.inr f)))))) (hs2 : setl ws t (.inl (2, k, .inr (.inr (.inr (.inr (va_up f i.toNatClampNeg (some (adr T)))))))) = some ws2) (hin : vp_in i k) (hdg : decode cc pc = .ok (.aastore, 1))
    (kk : Wa p l e R s m args below meth c cells slots Q D ca ad A nL N (lv, st, ws2) (pc + 1)) : Wa p l e R s m args below meth c cells slots Q D ca ad A nL N (lv, .ref (adr T + 100) :: .int i :: .ref t :: st, ws) pc := by
  intro H locs ls h1 h2 h3 h4
  rw [nth_eq] at ht
  obtain ⟨w1, w2⟩ := setl_eq _ _ _ _ hs2
  have hDD : va_D A (cw ad ca 0 ws) := cw_D hn C.2.2.2.1 C.2.2.2.2.1
  have hat : (cw ad ca 0 ws)[t]? = some (ad t, .inl (ca 2, k, .inr (.inr (.inr (.inr f))))) := by rw [cw_at, ht]; simp [ce]
  show W p l e R s m args below meth c H locs cells slots Q (F0 m pc ls (cv ad (.ref (adr T + 100)) :: .int i :: .ref (ad t) :: st.map (cv ad)))
  rw [cv_raw C]
  have hlt : i.toNatClampNeg < k := Nat.not_le.mp fun q => hin (Or.inr q)
  have h0 : ¬ i < 0 := fun q => hin (Or.inl q)
  have hany : va_Any "PathProofs$Node" s H (adr T) := by
    have key : ∀ (ci : Nat) (r : vw_C) (fs : List Value), vwCl[ci]? = some r → (r.1, "PathProofs$Node") ∈ castL → va_at D vwCl (adr T, .inr (ci, fs)) H → va_Any "PathProofs$Node" s H (adr T) := by
      intro ci r fs g1 g2 g3
      obtain ⟨r2, b1, cell, b2, b3, b4, -⟩ := g3
      have hfc : s.vm.findClass r.1 = some cell.cls := by rw [b3]; exact (C.2.1.1.1 ci r g1).2.1
      obtain ⟨kC, hkC, -⟩ := Vm.findClass_spec hfc
      exact ⟨cell, b2, by rw [b4]; rfl, ⟨kC, hkC⟩, fun comp hc => vb_asgC (C.2.1.2.2.1 (r.1, "PathProofs$Node") g2) comp _ hc hfc⟩
    have hT := nodeAt.T T (hx H h4)
    have hh := hx H h4
    revert hh key
    refine tr_ind (P := fun T => (∀ (ci : Nat) (r : vw_C) (fs : List Value), vwCl[ci]? = some r → (r.1, "PathProofs$Node") ∈ castL → va_at D vwCl (adr T, .inr (ci, fs)) H → va_Any "PathProofs$Node" s H (adr T)) → nodeAt D H T → va_Any "PathProofs$Node" s H (adr T)) ?_ ?_ ?_ ?_ T hT
    · exact fun q key h => key 0 _ _ rfl (by decide) h
    · exact fun q d key h => key 2 _ _ rfl (by decide) h
    · exact fun q p v key h => key 3 _ _ rfl (by decide) h
    · exact fun q B S x y _ _ _ _ key h => key 1 _ _ rfl (by decide) h.1
  obtain ⟨cellV, g1, g3, ⟨kC, hkC⟩, hasg⟩ := hany
  obtain ⟨kA, comp, k1, k2, k3, -⟩ := (C.2.1.1.2 2 _ rfl).2
  obtain ⟨kE, hkE, -⟩ := Vm.findClass_spec k3
  refine W.aast C.1.1 C.1.2.1 (h2 t _ hat) (fun q h => by cases h) (fun h => by cases h) k1 k2 rfl hkE ⟨h0, by show _ < (arrV _ _ _).slots.size; rw [arrV_size]; exact hlt⟩ g1 (fun q h => by rw [h] at g3; cases g3) hkC (hasg _ k3) rfl rfl hdg fun H1 e1 z oq => ?_
  refine kk H1 _ ls h1 ?_ (h3.put z oq (C.2.2.2.2.1 t (by rw [← hn]; exact w2))) (C.2.2.1 H H1 t (.inl (2, k, .inr (.inr (.inr (.inr f))))) rfl (h2 t _ hat) z oq h4)
  show va_P D vwCl (cw ad ca 0 ws2) H1
  rw [w1, cw_set, Nat.zero_add]
  refine h2.set hDD hat ?_ oq
  show H1[ad t]? = some (vp_cell _ _)
  rw [e1]
  rw [vp_cell_q, vp_cell_q, arrV_store]
  congr 2
  funext q
  by_cases hq : q = i.toNatClampNeg
  · subst hq
    simp [updV, va_up, va_rf]
  · simp [updV, va_up, hq]
end
section
variable {l : Launch} {D : va_G} {ca : Nat → ClassId} {ad : Nat → Nat} {N : Heap → Prop} {qt nv : Nat} {kf : Nat → Option Nat} {fv : Value} {fp : Int32} {fd : Int64} {ra rb : Nat → Int32} {wn : Nat} {to : Nat → Int32} {tl : Nat} {so : Nat → Int32} {sl : Nat}
set_option maxRecDepth 100000 in
set_option maxHeartbeats 4000000 in
theorem kX8_wholeOf (hAD : AD ad 9) (hN : NS D N) {T : Term} {Vs : List Term} (hfT : fitT T 16) (hT : ∀ H, N H → nodeAt D H T) (hkf : kfR kf Vs) (x : Int32) : Ct l yX8_wholeOf cX8_wholeOf 2 (some (.object "PathProofs$Node")) (rK 0 0 0) D ca ad (xW (adr T) Vs.length kf fv fp fd ra rb wn to tl so sl) 9 [.ref 0, .int x] N (pG (xW (adr T) Vs.length kf fv fp fd ra rb wn to tl so sl) N (some (vF (whl T Vs x)))) := by
  refine enter (lv := [(0, .ref 0), (1, .int x)]) (by decide +kernel) (Nat.le_of_ble_eq_true rfl) rfl hAD (fun U hK => ns_write hK hN) ?_
  intro p e s m below meth c A args hA C hr hlk hnm
  refine sg0 C foX8 coX8 oX8_wholeOf_0 rfl rfl rfl ?_
  refine b2_ne (tgt := 10) C jX8_wholeOf_2 (by decide) (fun h2 => ?_) (fun h2 => ?_)
  · refine sg0 C foX8 coX8 oX8_wholeOf_10 rfl rfl rfl ?_
    refine b1_lt (tgt := 31) C jX8_wholeOf_11 (by decide) (fun h11 => ?_) (fun h11 => ?_)
    · rw [show whl T Vs x = none by unfold whl; rw [if_neg h2, if_neg (fun q => absurd h11 (Int32.not_lt.mpr q.1))]]
      refine sg0 C foX8 coX8 oX8_wholeOf_31 rfl rfl rfl ?_
      exact rt_n C hr (Or.inl ⟨_, rfl⟩) hlk jX8_wholeOf_32 (fun H hN => ⟨⟨rfl, rfl⟩, hN⟩)
    · refine sg0 C foX8 coX8 oX8_wholeOf_14 rfl rfl rfl ?_
      refine b2_ge (tgt := 31) C jX8_wholeOf_19 (by decide) (fun h19 => ?_) (fun h19 => ?_)
      · rw [show whl T Vs x = none by unfold whl; rw [if_neg h2, if_neg (fun q => absurd h19 (Int32.not_le.mpr q.2))]]
        refine sg0 C foX8 coX8 oX8_wholeOf_31 rfl rfl rfl ?_
        exact rt_n C hr (Or.inl ⟨_, rfl⟩) hlk jX8_wholeOf_32 (fun H hN => ⟨⟨rfl, rfl⟩, hN⟩)
      · obtain ⟨j, hj, rfl⟩ := nI_of h11
        have hq : j < Vs.length := (nI_ltI hj (by have := hkf.1; omega)).mp (Int32.not_le.mp h19)
        have hcl : (nI j).toNatClampNeg = j := nI_clamp hj
        have hge : Vs[j]? = some Vs[j] := List.getElem?_eq_getElem hq
        rw [show whl T Vs (nI j) = some Vs[j] by unfold whl; rw [if_neg h2, if_pos ⟨Int32.not_lt.mp h11, Int32.not_le.mp h19⟩, hcl, hge]]
        refine sg0 C foX8 coX8 oX8_wholeOf_22 rfl rfl rfl ?_
        refine aal (k := 8) (f := kf) C rfl (vp_in_nI (by have := hkf.1; omega) (by decide)) (by rw [hcl]; exact hkf.2 j _ hge) jX8_wholeOf_27 ?_
        refine sg0 C foX8 coX8 oX8_wholeOf_28 rfl rfl rfl ?_
        exact rt_a C hr (Or.inl ⟨_, rfl⟩) hlk jX8_wholeOf_32 (fun H hN => ⟨⟨rfl, rfl⟩, hN⟩)
  · rw [show whl T Vs x = some T by unfold whl; rw [if_pos h2]]
    refine sg0 C foX8 coX8 oX8_wholeOf_5 rfl rfl rfl ?_
    exact rt_a C hr (Or.inl ⟨_, rfl⟩) hlk jX8_wholeOf_9 (fun H hN => ⟨⟨rfl, rfl⟩, hN⟩)
theorem whl_ok {T : Term} {Vs : List Term} {x : Int32} {Z : Term → Prop} (h1 : Z T) (h2 : ∀ V ∈ Vs, Z V) {V : Term} (h : whl T Vs x = some V) : Z V := by
  unfold whl at h
  split at h
  · cases h; exact h1
  · split at h
    · exact h2 V (List.mem_of_getElem? h)
    · cases h
set_option maxRecDepth 100000 in
set_option maxHeartbeats 4000000 in
theorem kX8_root (hAD : AD ad 9) (hN : NS D N) {T : Term} {Vs : List Term} (hfT : fitT T 16) (hT : ∀ H, N H → nodeAt D H T) (hkf : kfR kf Vs) (hVs : ∀ V ∈ Vs, fitT V 16 ∧ ∀ H, N H → nodeAt D H V)  (x : Int32) : Ct l yX8_root cX8_root 3 (some .long) (rK 1 0 0) D ca ad (xW (adr T) Vs.length kf fv fp fd ra rb wn to tl so sl) 9 [.ref 0, .int x] N (pG (xW (adr T) Vs.length kf fv fp fd ra rb wn to tl so sl) N (some (.long (match whl T Vs x with | none => 0 | some V => dig V)))) := by
  have hV : ∀ V, whl T Vs x = some V → fitT V 16 ∧ ∀ H, N H → nodeAt D H V := fun V hw => whl_ok (Z := fun V => fitT V 16 ∧ ∀ H, N H → nodeAt D H V) ⟨hfT, hT⟩ hVs hw
  cases hw : whl T Vs x with
  | none =>
    refine enter (lv := [(0, .ref 0), (1, .int x)]) (by decide +kernel) (Nat.le_of_ble_eq_true rfl) rfl hAD (fun U hK => ns_write hK hN) ?_
    intro p e s m below meth c A args hA C hr hlk hnm
    refine sg0 C foX8 coX8 oX8_root_0 rfl rfl rfl ?_
    refine cl_v C (kX8_wholeOf hAD hN hfT hT hkf x) (rcv (ci := 7) C.2.1 rfl rfl) cd_X8_wholeOf in_X8 ml_X8_83 im_X8_wholeOf se_X8_wholeOf hd_X8_wholeOf rfl rfl ⟨(Nat.le_of_ble_eq_true rfl), (Nat.le_of_ble_eq_true rfl)⟩ ⟨(Nat.le_of_ble_eq_true rfl), (Nat.le_of_ble_eq_true rfl)⟩ (Nat.le_of_ble_eq_true rfl) jX8_root_2 (fun v ws' => Wa.and (fun hv => ?_))
    obtain ⟨rfl, rfl⟩ := hv
    rw [hw]
    refine sg0 C foX8 coX8 oX8_root_5 rfl rfl rfl ?_
    refine bnn_n C jX8_root_7 ?_
    refine sg0 C foX8 coX8 oX8_root_10 rfl rfl rfl ?_
    exact rt_l C hr hlk jX8_root_18 (fun H hH => ⟨⟨by simp only [hw], rfl⟩, hH⟩)
  | some V =>
    obtain ⟨hfit, hx⟩ := hV V hw
    refine enter (lv := [(0, .ref 0), (1, .int x)]) (by decide +kernel) (Nat.le_of_ble_eq_true rfl) rfl hAD (fun U hK => ns_write hK hN) ?_
    intro p e s m below meth c A args hA C hr hlk hnm
    refine sg0 C foX8 coX8 oX8_root_0 rfl rfl rfl ?_
    refine cl_v C (kX8_wholeOf hAD hN hfT hT hkf x) (rcv (ci := 7) C.2.1 rfl rfl) cd_X8_wholeOf in_X8 ml_X8_83 im_X8_wholeOf se_X8_wholeOf hd_X8_wholeOf rfl rfl ⟨(Nat.le_of_ble_eq_true rfl), (Nat.le_of_ble_eq_true rfl)⟩ ⟨(Nat.le_of_ble_eq_true rfl), (Nat.le_of_ble_eq_true rfl)⟩ (Nat.le_of_ble_eq_true rfl) jX8_root_2 (fun v ws' => Wa.and (fun hv => ?_))
    obtain ⟨rfl, rfl⟩ := hv
    rw [hw]
    refine sg0 C foX8 coX8 oX8_root_5 rfl rfl rfl ?_
    refine bnn_r (tgt := 14) C jX8_root_7 (by decide) ?_
    refine sg0 C foX8 coX8 oX8_root_14 rfl rfl rfl ?_
    refine ng_dig C hx fl_X8_87 jX8_root_15 ?_
    exact rt_l C hr hlk jX8_root_18 (fun H hH => ⟨⟨by simp only [hw], rfl⟩, hH⟩)
set_option maxRecDepth 100000 in
set_option maxHeartbeats 4000000 in
theorem kX8_leaves (hAD : AD ad 9) (hN : NS D N) {T : Term} {Vs : List Term} (hfT : fitT T 16) (hT : ∀ H, N H → nodeAt D H T) (hkf : kfR kf Vs) (hVs : ∀ V ∈ Vs, fitT V 16 ∧ ∀ H, N H → nodeAt D H V)  (x : Int32) : Ct l yX8_leaves cX8_leaves 3 (some .int) (rK 18 0 0) D ca ad (xW (adr T) Vs.length kf fv fp fd ra rb wn to tl so sl) 9 [.ref 0, .int x] N (pG (xW (adr T) Vs.length kf fv fp fd ra rb wn to tl so sl) N (some (.int (match whl T Vs x with | none => -1 | some V => nI (cntT V 0 65535))))) := by
  have hV : ∀ V, whl T Vs x = some V → fitT V 16 ∧ ∀ H, N H → nodeAt D H V := fun V hw => whl_ok (Z := fun V => fitT V 16 ∧ ∀ H, N H → nodeAt D H V) ⟨hfT, hT⟩ hVs hw
  cases hw : whl T Vs x with
  | none =>
    refine enter (lv := [(0, .ref 0), (1, .int x)]) (by decide +kernel) (Nat.le_of_ble_eq_true rfl) rfl hAD (fun U hK => ns_write hK hN) ?_
    intro p e s m below meth c A args hA C hr hlk hnm
    refine sg0 C foX8 coX8 oX8_leaves_0 rfl rfl rfl ?_
    refine cl_v C (kX8_wholeOf hAD hN hfT hT hkf x) (rcv (ci := 7) C.2.1 rfl rfl) cd_X8_wholeOf in_X8 ml_X8_83 im_X8_wholeOf se_X8_wholeOf hd_X8_wholeOf rfl rfl ⟨(Nat.le_of_ble_eq_true rfl), (Nat.le_of_ble_eq_true rfl)⟩ ⟨(Nat.le_of_ble_eq_true rfl), (Nat.le_of_ble_eq_true rfl)⟩ (Nat.le_of_ble_eq_true rfl) jX8_leaves_2 (fun v ws' => Wa.and (fun hv => ?_))
    obtain ⟨rfl, rfl⟩ := hv
    rw [hw]
    refine sg0 C foX8 coX8 oX8_leaves_5 rfl rfl rfl ?_
    refine bnn_n C jX8_leaves_7 ?_
    refine sg0 C foX8 coX8 oX8_leaves_10 rfl rfl rfl ?_
    exact rt_i C hr hlk jX8_leaves_22 (fun H hH => ⟨⟨by simp only [hw], rfl⟩, hH⟩)
  | some V =>
    obtain ⟨hfit, hx⟩ := hV V hw
    refine enter (lv := [(0, .ref 0), (1, .int x)]) (by decide +kernel) (Nat.le_of_ble_eq_true rfl) rfl hAD (fun U hK => ns_write hK hN) ?_
    intro p e s m below meth c A args hA C hr hlk hnm
    refine sg0 C foX8 coX8 oX8_leaves_0 rfl rfl rfl ?_
    refine cl_v C (kX8_wholeOf hAD hN hfT hT hkf x) (rcv (ci := 7) C.2.1 rfl rfl) cd_X8_wholeOf in_X8 ml_X8_83 im_X8_wholeOf se_X8_wholeOf hd_X8_wholeOf rfl rfl ⟨(Nat.le_of_ble_eq_true rfl), (Nat.le_of_ble_eq_true rfl)⟩ ⟨(Nat.le_of_ble_eq_true rfl), (Nat.le_of_ble_eq_true rfl)⟩ (Nat.le_of_ble_eq_true rfl) jX8_leaves_2 (fun v ws' => Wa.and (fun hv => ?_))
    obtain ⟨rfl, rfl⟩ := hv
    rw [hw]
    refine sg0 C foX8 coX8 oX8_leaves_5 rfl rfl rfl ?_
    refine bnn_r (tgt := 14) C jX8_leaves_7 (by decide) ?_
    refine sg0 C foX8 coX8 oX8_leaves_14 rfl rfl rfl ?_
    refine cl_s C (kX8_leavesWithin hAD rfl (by decide) (by decide) V (fit_T V _ hfit) 16 0 N hfit (by decide) hN hx) cd_X8_leavesWithin in_X8 ml_X8_75 sm_X8_leavesWithin hd_X8_leavesWithin rfl rfl ⟨(Nat.le_of_ble_eq_true rfl), (Nat.le_of_ble_eq_true rfl)⟩ ⟨(Nat.le_of_ble_eq_true rfl), (Nat.le_of_ble_eq_true rfl)⟩ (Nat.le_of_ble_eq_true rfl) jX8_leaves_19 (fun v ws' => Wa.and (fun hv => ?_))
    obtain ⟨rfl, rfl⟩ := hv
    exact rt_i C hr hlk jX8_leaves_22 (fun H hH => ⟨⟨by simp only [hw], rfl⟩, hH⟩)
set_option maxRecDepth 100000 in
set_option maxHeartbeats 4000000 in
theorem kX8_keep (hAD : AD ad 9) (hN : NS D N) {T : Term} {Vs : List Term} (hfT : fitT T 16) (hT : ∀ H, N H → nodeAt D H T) (hkf : kfR kf Vs) : Ct l yX8_keep cX8_keep 1 (some .int) (rK 0 0 0) D ca ad (xW (adr T) Vs.length kf fv fp fd ra rb wn to tl so sl) 9 [.ref 0] N (fun r ws2 H => ((8 ≤ Vs.length ∧ r = some (.int (-3)) ∧ ws2 = (xW (adr T) Vs.length kf fv fp fd ra rb wn to tl so sl)) ∨ (Vs.length < 8 ∧ r = some (.int (nI Vs.length)) ∧ ws2 = (xW (adr T) (Vs.length + 1) (va_up kf Vs.length (some (adr T))) fv fp fd ra rb wn to tl so sl))) ∧ N H) := by
  refine enter (lv := [(0, .ref 0)]) (by decide +kernel) (Nat.le_of_ble_eq_true rfl) rfl hAD (fun U hK => ns_write hK hN) ?_
  intro p e s m below meth c A args hA C hr hlk hnm
  refine sg0 C foX8 coX8 oX8_keep_0 rfl rfl rfl ?_
  refine b2_lt (tgt := 12) C jX8_keep_6 (by decide) (fun h6 => ?_) (fun h6 => ?_)
  · have hq : Vs.length < 8 := Nat.not_le.mp fun q => absurd h6 (by rw [show (8 : Int32) = nI 8 from rfl]; exact nI_nlt q (by have := hkf.1; omega))
    have hcl : (nI Vs.length).toNatClampNeg = Vs.length := nI_clamp (by omega)
    refine sg0 C foX8 coX8 oX8_keep_12 rfl rfl rfl ?_
    refine aas (k := 8) (f := kf) C rfl hT rfl rfl (vp_in_nI hq (by decide)) jX8_keep_24 ?_
    rw [hcl]
    refine sg0 C foX8 coX8 oX8_keep_25 rfl rfl rfl ?_
    rw [nI_1, show (1 : Int32) = nI 1 from rfl, pk_sub (Nat.le_add_left 1 _), Nat.add_sub_cancel]
    exact rt_i C hr hlk jX8_keep_41 (fun H hH => ⟨Or.inr ⟨hq, rfl, rfl⟩, hH⟩)
  · have hq : 8 ≤ Vs.length := Nat.not_lt.mp fun q => h6 (by rw [show (8 : Int32) = nI 8 from rfl]; exact nI_lt q (by decide))
    refine sg0 C foX8 coX8 oX8_keep_9 rfl rfl rfl ?_
    exact rt_i C hr hlk jX8_keep_11 (fun H hH => ⟨Or.inl ⟨hq, rfl, rfl⟩, hH⟩)
end
