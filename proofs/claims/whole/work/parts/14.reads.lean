/-! the methods that read trees -/
theorem Wa.lvp {p : Program} {l : Launch} {e : Env} {R : Room} {s : State} {m : MethodId} {args : Array Value} {below : List Frame} {meth : Method} {c : Code} {cells slots : Nat} {Q : State → Prop} {D : va_G} {ca : Nat → ClassId} {ad : Nat → Nat} {A : Nat → Prop} {nL : Nat} {N : Heap → Prop} {lv lv2 : List (Nat × Value)} {st : List Value} {ws : List va_E} {pc : Nat} (ks : List Nat) (hs : lv_pick lv ks = lv2) (h : Wa p l e R s m args below meth c cells slots Q D ca ad A nL N (lv2, st, ws) pc) : Wa p l e R s m args below meth c cells slots Q D ca ad A nL N (lv, st, ws) pc := Wa.lv (fun x hx => by
  rw [← hs] at hx
  obtain ⟨k, -, hk⟩ := List.mem_filterMap.mp hx
  exact List.mem_of_getElem? hk) h
theorem fitF {q B S k : Nat} {x y : Term} (h : fitT (tF q B S x y) k) : (B ≤ 15 ∧ 16 ≤ k + B ∧ S + 2 ^ (16 - B) ≤ 65536 ∧ stm S B = S) ∧ fitT x (15 - B) ∧ fitT y (15 - B) := h
theorem fitF2 {q B S k : Nat} {x y : Term} (h : fitT (tF q B S x y) k) : S < 65536 := by
  have h1 := (fitF h).1.2.2.1
  have h2 : 0 < 2 ^ (16 - B) := Nat.two_pow_pos _
  omega
section
variable {l : Launch} {D : va_G} {ca : Nat → ClassId} {ad : Nat → Nat} {ws : List va_E} {n : Nat}
theorem cl_max {p : Program} {e : Env} {R : Room} {s : State} {m : MethodId} {args : Array Value} {below : List Frame} {meth : Method} {c : Code} {cells slots : Nat} {Q : State → Prop} {cc : ByteArray} {nL : Nat} {own : String} {A : Nat → Prop} {N : Heap → Prop} (C : Cx p s m args c cc nL own D ca ad A N n) {x y : Int32} {idx pc : Nat} {lv : List (Nat × Value)} {st : List Value} (hlk : Cond.methodLink own idx yJ9_max_7cf53 ∈ tb) (hR : 1 ≤ R.frames) (hlo : (st.map fun v => v.category).sum + 13 ≤ R.locals) (hc : cells ≤ R.cells) (hs : slots ≤ R.slots) (hdg : decode cc pc = .ok (.invokestatic idx, 3))
    (kk : Wa p l e R s m args below meth c cells slots Q D ca ad A nL N (lv, .int (if x < y then y else x) :: st, ws) (pc + 3)) : Wa p l e R s m args below meth c cells slots Q D ca ad A nL N (lv, .int y :: .int x :: st, ws) pc := fun H locs ls h1 h2 h3 h4 => va_mmax C.1.1 C.1.2.1 (C.1.2.2.1.trans h1.1.symm) C.1.2.2.2.1 (C.1.2.2.2.2 _ hlk) (C.1.2.2.2.2 _ sm_J9_max_7cf53) (C.1.2.2.2.2 _ in_J9) (C.1.2.2.2.2 _ cd_J9_max_7cf53) hR (by rw [cat_map]; exact hlo) hc hs hdg (kk H locs ls h1 h2 h3 h4)
set_option maxRecDepth 100000 in
set_option maxHeartbeats 4000000 in
theorem kX8_leavesWithin (hAD : AD ad n) (hn : ws.length = n) {a b : Nat} (ha : a < 65536) (hb : b < 65536) (T : Term) (hT : isT T) : ∀ (k d : Nat) (N : Heap → Prop), fitT (T) k → d + k ≤ 16 → NS D N → (∀ H, N H → nodeAt D H (T)) → Ct l yX8_leavesWithin cX8_leavesWithin 5 (some .int) (rK (k + 1) 0 0) D ca ad ws n [.ref (adr (T) + 100), .int (nI a), .int (nI b), .int (nI d)] N (pG ws N (some (.int (nI (cntT (T) a b))))) := by
  refine tr_ind (P := fun T => ∀ (k d : Nat) (N : Heap → Prop), fitT (T) k → d + k ≤ 16 → NS D N → (∀ H, N H → nodeAt D H (T)) → Ct l yX8_leavesWithin cX8_leavesWithin 5 (some .int) (rK (k + 1) 0 0) D ca ad ws n [.ref (adr (T) + 100), .int (nI a), .int (nI b), .int (nI d)] N (pG ws N (some (.int (nI (cntT (T) a b)))))) ?_ ?_ ?_ ?_ T hT
  · intro q k d N  hfit hdk hN hx
    refine enter (lv := [(0, .ref (adr (tE q) + 100)), (1, .int (nI a)), (2, .int (nI b)), (3, .int (nI d))]) (by decide +kernel) (Nat.le_of_ble_eq_true rfl) rfl hAD (fun U hK => ns_write hK hN) ?_
    intro p e s m below meth c A args hA C hr hlk hnm
    refine sg0 C foX8 coX8 oX8_leavesWithin_0 rfl rfl hn ?_
    refine ni_n (ci := 0) C (fun H hH => hx H hH) rfl kl_X8_167 (by decide) jX8_leavesWithin_1 ?_
    refine b1_eq (tgt := 47) C jX8_leavesWithin_4 (by decide) (fun h4 => ?_) (fun h4 => ?_)
    · refine sg0 C foX8 coX8 oX8_leavesWithin_47 rfl rfl hn ?_
      refine ni_n (ci := 0) C (fun H hH => hx H hH) rfl kl_X8_65 (by decide) jX8_leavesWithin_48 ?_
      refine b1_eq (tgt := 82) C jX8_leavesWithin_51 (by decide) (fun h51 => ?_) (fun h51 => ?_)
      · refine sg0 C foX8 coX8 oX8_leavesWithin_82 rfl rfl hn ?_
        exact rt_i C hr hlk jX8_leavesWithin_83 (fun H hN => ⟨⟨by rfl, rfl⟩, hN⟩)
      · exact absurd h51 (by decide)
    · exact absurd h4 (by decide)
  · intro q d0 k d N  hfit hdk hN hx
    refine enter (lv := [(0, .ref (adr (tH q d0) + 100)), (1, .int (nI a)), (2, .int (nI b)), (3, .int (nI d))]) (by decide +kernel) (Nat.le_of_ble_eq_true rfl) rfl hAD (fun U hK => ns_write hK hN) ?_
    intro p e s m below meth c A args hA C hr hlk hnm
    refine sg0 C foX8 coX8 oX8_leavesWithin_0 rfl rfl hn ?_
    refine ni_n (ci := 2) C (fun H hH => hx H hH) rfl kl_X8_167 (by decide) jX8_leavesWithin_1 ?_
    refine b1_eq (tgt := 47) C jX8_leavesWithin_4 (by decide) (fun h4 => ?_) (fun h4 => ?_)
    · refine sg0 C foX8 coX8 oX8_leavesWithin_47 rfl rfl hn ?_
      refine ni_n (ci := 2) C (fun H hH => hx H hH) rfl kl_X8_65 (by decide) jX8_leavesWithin_48 ?_
      refine b1_eq (tgt := 82) C jX8_leavesWithin_51 (by decide) (fun h51 => ?_) (fun h51 => ?_)
      · refine sg0 C foX8 coX8 oX8_leavesWithin_82 rfl rfl hn ?_
        exact rt_i C hr hlk jX8_leavesWithin_83 (fun H hN => ⟨⟨by rfl, rfl⟩, hN⟩)
      · exact absurd h51 (by decide)
    · exact absurd h4 (by decide)
  · intro q P v0 k d N  hfit hdk hN hx
    have hP : P < 65536 := hfit
    refine enter (lv := [(0, .ref (adr (tL q P v0) + 100)), (1, .int (nI a)), (2, .int (nI b)), (3, .int (nI d))]) (by decide +kernel) (Nat.le_of_ble_eq_true rfl) rfl hAD (fun U hK => ns_write hK hN) ?_
    intro p e s m below meth c A args hA C hr hlk hnm
    refine sg0 C foX8 coX8 oX8_leavesWithin_0 rfl rfl hn ?_
    refine ni_n (ci := 3) C (fun H hH => hx H hH) rfl kl_X8_167 (by decide) jX8_leavesWithin_1 ?_
    refine b1_eq (tgt := 47) C jX8_leavesWithin_4 (by decide) (fun h4 => ?_) (fun h4 => ?_)
    · refine sg0 C foX8 coX8 oX8_leavesWithin_47 rfl rfl hn ?_
      refine ni_y (ci := 3) C (fun H hH => hx H hH) rfl kl_X8_65 (by decide) jX8_leavesWithin_48 ?_
      refine b1_eq (tgt := 82) C jX8_leavesWithin_51 (by decide) (fun h51 => ?_) (fun h51 => ?_)
      · exact absurd h51 (by decide)
      · refine sg0 C foX8 coX8 oX8_leavesWithin_54 rfl rfl hn ?_
        refine nc_y (ci := 3) C (fun H hH => hx H hH) rfl kl_X8_65 (by decide) jX8_leavesWithin_55 ?_
        refine sg0 C foX8 coX8 oX8_leavesWithin_58 rfl rfl hn ?_
        refine ng (ci := 3) (k := 1) (v := .int (nI P)) C (fun H hH => hx H hH) rfl (by decide) fl_X8_136 rfl jX8_leavesWithin_62 ?_
        refine sg0 C foX8 coX8 oX8_leavesWithin_65 rfl rfl hn ?_
        refine b2_lt (tgt := 82) C jX8_leavesWithin_66 (by decide) (fun h66 => ?_) (fun h66 => ?_)
        · refine sg0 C foX8 coX8 oX8_leavesWithin_82 rfl rfl hn ?_
          exact rt_i C hr hlk jX8_leavesWithin_83 (fun H hN => ⟨⟨by simp only [cntT]; rw [if_neg (fun h => absurd h.1 (Nat.not_le.mpr ((nI_ltI (by omega) (by omega)).mp h66)))]; rfl, rfl⟩, hN⟩)
        · refine sg0 C foX8 coX8 oX8_leavesWithin_69 rfl rfl hn ?_
          refine ng (ci := 3) (k := 1) (v := .int (nI P)) C (fun H hH => hx H hH) rfl (by decide) fl_X8_136 rfl jX8_leavesWithin_71 ?_
          refine sg0 C foX8 coX8 oX8_leavesWithin_74 rfl rfl hn ?_
          refine b2_gt (tgt := 82) C jX8_leavesWithin_75 (by decide) (fun h75 => ?_) (fun h75 => ?_)
          · refine sg0 C foX8 coX8 oX8_leavesWithin_82 rfl rfl hn ?_
            exact rt_i C hr hlk jX8_leavesWithin_83 (fun H hN => ⟨⟨by simp only [cntT]; rw [if_neg (fun h => absurd h.2 (Nat.not_le.mpr ((nI_ltI (by omega) (by omega)).mp h75)))]; rfl, rfl⟩, hN⟩)
          · refine sg0 C foX8 coX8 oX8_leavesWithin_78 rfl rfl hn ?_
            exact rt_i C hr hlk jX8_leavesWithin_83 (fun H hN => ⟨⟨by simp only [cntT]; rw [if_pos ⟨Nat.not_lt.mp fun h => h66 ((nI_ltI (by omega) (by omega)).mpr h), Nat.not_lt.mp fun h => h75 ((nI_ltI (by omega) (by omega)).mpr h)⟩]; rfl, rfl⟩, hN⟩)
    · exact absurd h4 (by decide)
  · intro q B S x y hT1 hT2 i1 i2 k d N  hfit hdk hN hx
    obtain ⟨⟨hB, hkB, hS, hstm⟩, hfx, hfy⟩ := fitF hfit
    have hS2 := fitF2 hfit
    refine enter (lv := [(0, .ref (adr (tF q B S x y) + 100)), (1, .int (nI a)), (2, .int (nI b)), (3, .int (nI d))]) (by decide +kernel) (Nat.le_of_ble_eq_true rfl) rfl hAD (fun U hK => ns_write hK hN) ?_
    intro p e s m below meth c A args hA C hr hlk hnm
    refine sg0 C foX8 coX8 oX8_leavesWithin_0 rfl rfl hn ?_
    refine ni_y (ci := 1) C (fun H hH => (hx H hH).1) rfl kl_X8_167 (by decide) jX8_leavesWithin_1 ?_
    refine b1_eq (tgt := 47) C jX8_leavesWithin_4 (by decide) (fun h4 => ?_) (fun h4 => ?_)
    · exact absurd h4 (by decide)
    · refine sg0 C foX8 coX8 oX8_leavesWithin_7 rfl rfl hn ?_
      refine nc_y (ci := 1) C (fun H hH => (hx H hH).1) rfl kl_X8_167 (by decide) jX8_leavesWithin_8 ?_
      refine sg0 C foX8 coX8 oX8_leavesWithin_11 rfl rfl hn ?_
      refine b2_ge (tgt := 47) C jX8_leavesWithin_16 (by decide) (fun h16 => ?_) (fun h16 => ?_)
      · exact absurd h16 (by rw [show (16 : Int32) = nI 16 from rfl]; exact nI_ge (by omega) (by decide))
      · refine sg0 C foX8 coX8 oX8_leavesWithin_19 rfl rfl hn ?_
        refine ng (ci := 1) (k := 3) (v := .ref (adr x + 100)) C (fun H hH => (hx H hH).1) rfl (by decide) fl_X8_199 (by rw [cv_raw C]; rfl) jX8_leavesWithin_21 ?_
        refine sg0 C foX8 coX8 oX8_leavesWithin_24 rfl rfl hn ?_
        rw [nI_1]
        refine cl_s C (i1 (15 - B) (d + 1) N hfx (by omega) hN (fun H hH => (hx H hH).2.1)) cd_X8_leavesWithin in_X8 ml_X8_75 sm_X8_leavesWithin hd_X8_leavesWithin rfl rfl ⟨by show 15 - B + 1 + 1 ≤ k + 1; omega, by show 8 + (5 + 11) + 40 * (15 - B + 1) ≤ 40 * (k + 1); omega⟩ ⟨(Nat.le_of_ble_eq_true rfl), (Nat.le_of_ble_eq_true rfl)⟩ (Nat.le_of_ble_eq_true rfl) jX8_leavesWithin_29 (fun v ws' => Wa.and (fun hv => ?_))
        obtain ⟨rfl, rfl⟩ := hv
        refine sg0 C foX8 coX8 oX8_leavesWithin_32 rfl rfl hn ?_
        refine ng (ci := 1) (k := 4) (v := .ref (adr y + 100)) C (fun H hH => (hx H hH).1) rfl (by decide) fl_X8_202 (by rw [cv_raw C]; rfl) jX8_leavesWithin_34 ?_
        refine sg0 C foX8 coX8 oX8_leavesWithin_37 rfl rfl hn ?_
        rw [nI_1]
        refine cl_s C (i2 (15 - B) (d + 1) N hfy (by omega) hN (fun H hH => (hx H hH).2.2)) cd_X8_leavesWithin in_X8 ml_X8_75 sm_X8_leavesWithin hd_X8_leavesWithin rfl rfl ⟨by show 15 - B + 1 + 1 ≤ k + 1; omega, by show 8 + (5 + 11) + 40 * (15 - B + 1) ≤ 40 * (k + 1); omega⟩ ⟨(Nat.le_of_ble_eq_true rfl), (Nat.le_of_ble_eq_true rfl)⟩ (Nat.le_of_ble_eq_true rfl) jX8_leavesWithin_42 (fun v ws' => Wa.and (fun hv => ?_))
        obtain ⟨rfl, rfl⟩ := hv
        refine sg0 C foX8 coX8 oX8_leavesWithin_45 rfl rfl hn ?_
        exact rt_i C hr hlk jX8_leavesWithin_46 (fun H hN => ⟨⟨by rw [nI_add]; simp only [cntT], rfl⟩, hN⟩)
set_option maxRecDepth 100000 in
set_option maxHeartbeats 4000000 in
theorem kX8_nodesOf (hAD : AD ad n) (hn : ws.length = n)  (T : Term) (hT : isT T) : ∀ (k d : Nat) (N : Heap → Prop), fitT (T) k → d + k ≤ 16 → NS D N → (∀ H, N H → nodeAt D H (T)) → Ct l yX8_nodesOf cX8_nodesOf 3 (some .int) (rK (k + 1) 0 0) D ca ad ws n [.ref (adr (T) + 100), .int (nI d)] N (pG ws N (some (.int (nI (nodT (T)))))) := by
  refine tr_ind (P := fun T => ∀ (k d : Nat) (N : Heap → Prop), fitT (T) k → d + k ≤ 16 → NS D N → (∀ H, N H → nodeAt D H (T)) → Ct l yX8_nodesOf cX8_nodesOf 3 (some .int) (rK (k + 1) 0 0) D ca ad ws n [.ref (adr (T) + 100), .int (nI d)] N (pG ws N (some (.int (nI (nodT (T))))))) ?_ ?_ ?_ ?_ T hT
  · intro q k d N  hfit hdk hN hx
    refine enter (lv := [(0, .ref (adr (tE q) + 100)), (1, .int (nI d))]) (by decide +kernel) (Nat.le_of_ble_eq_true rfl) rfl hAD (fun U hK => ns_write hK hN) ?_
    intro p e s m below meth c A args hA C hr hlk hnm
    refine sg0 C foX8 coX8 oX8_nodesOf_0 rfl rfl hn ?_
    refine ni_n (ci := 0) C (fun H hH => hx H hH) rfl kl_X8_167 (by decide) jX8_nodesOf_1 ?_
    refine b1_eq (tgt := 42) C jX8_nodesOf_4 (by decide) (fun h4 => ?_) (fun h4 => ?_)
    · refine sg0 C foX8 coX8 oX8_nodesOf_42 rfl rfl hn ?_
      refine bnn_r (tgt := 50) C jX8_nodesOf_43 (by decide) ?_
      refine sg0 C foX8 coX8 oX8_nodesOf_50 rfl rfl hn ?_
      exact rt_i C hr hlk jX8_nodesOf_51 (fun H hN => ⟨⟨by rfl, rfl⟩, hN⟩)
    · exact absurd h4 (by decide)
  · intro q d0 k d N  hfit hdk hN hx
    refine enter (lv := [(0, .ref (adr (tH q d0) + 100)), (1, .int (nI d))]) (by decide +kernel) (Nat.le_of_ble_eq_true rfl) rfl hAD (fun U hK => ns_write hK hN) ?_
    intro p e s m below meth c A args hA C hr hlk hnm
    refine sg0 C foX8 coX8 oX8_nodesOf_0 rfl rfl hn ?_
    refine ni_n (ci := 2) C (fun H hH => hx H hH) rfl kl_X8_167 (by decide) jX8_nodesOf_1 ?_
    refine b1_eq (tgt := 42) C jX8_nodesOf_4 (by decide) (fun h4 => ?_) (fun h4 => ?_)
    · refine sg0 C foX8 coX8 oX8_nodesOf_42 rfl rfl hn ?_
      refine bnn_r (tgt := 50) C jX8_nodesOf_43 (by decide) ?_
      refine sg0 C foX8 coX8 oX8_nodesOf_50 rfl rfl hn ?_
      exact rt_i C hr hlk jX8_nodesOf_51 (fun H hN => ⟨⟨by rfl, rfl⟩, hN⟩)
    · exact absurd h4 (by decide)
  · intro q P v0 k d N  hfit hdk hN hx
    have hP : P < 65536 := hfit
    refine enter (lv := [(0, .ref (adr (tL q P v0) + 100)), (1, .int (nI d))]) (by decide +kernel) (Nat.le_of_ble_eq_true rfl) rfl hAD (fun U hK => ns_write hK hN) ?_
    intro p e s m below meth c A args hA C hr hlk hnm
    refine sg0 C foX8 coX8 oX8_nodesOf_0 rfl rfl hn ?_
    refine ni_n (ci := 3) C (fun H hH => hx H hH) rfl kl_X8_167 (by decide) jX8_nodesOf_1 ?_
    refine b1_eq (tgt := 42) C jX8_nodesOf_4 (by decide) (fun h4 => ?_) (fun h4 => ?_)
    · refine sg0 C foX8 coX8 oX8_nodesOf_42 rfl rfl hn ?_
      refine bnn_r (tgt := 50) C jX8_nodesOf_43 (by decide) ?_
      refine sg0 C foX8 coX8 oX8_nodesOf_50 rfl rfl hn ?_
      exact rt_i C hr hlk jX8_nodesOf_51 (fun H hN => ⟨⟨by rfl, rfl⟩, hN⟩)
    · exact absurd h4 (by decide)
  · intro q B S x y hT1 hT2 i1 i2 k d N  hfit hdk hN hx
    obtain ⟨⟨hB, hkB, hS, hstm⟩, hfx, hfy⟩ := fitF hfit
    have hS2 := fitF2 hfit
    refine enter (lv := [(0, .ref (adr (tF q B S x y) + 100)), (1, .int (nI d))]) (by decide +kernel) (Nat.le_of_ble_eq_true rfl) rfl hAD (fun U hK => ns_write hK hN) ?_
    intro p e s m below meth c A args hA C hr hlk hnm
    refine sg0 C foX8 coX8 oX8_nodesOf_0 rfl rfl hn ?_
    refine ni_y (ci := 1) C (fun H hH => (hx H hH).1) rfl kl_X8_167 (by decide) jX8_nodesOf_1 ?_
    refine b1_eq (tgt := 42) C jX8_nodesOf_4 (by decide) (fun h4 => ?_) (fun h4 => ?_)
    · exact absurd h4 (by decide)
    · refine sg0 C foX8 coX8 oX8_nodesOf_7 rfl rfl hn ?_
      refine nc_y (ci := 1) C (fun H hH => (hx H hH).1) rfl kl_X8_167 (by decide) jX8_nodesOf_8 ?_
      refine sg0 C foX8 coX8 oX8_nodesOf_11 rfl rfl hn ?_
      refine b2_ge (tgt := 42) C jX8_nodesOf_15 (by decide) (fun h15 => ?_) (fun h15 => ?_)
      · exact absurd h15 (by rw [show (16 : Int32) = nI 16 from rfl]; exact nI_ge (by omega) (by decide))
      · refine sg0 C foX8 coX8 oX8_nodesOf_18 rfl rfl hn ?_
        refine ng (ci := 1) (k := 3) (v := .ref (adr x + 100)) C (fun H hH => (hx H hH).1) rfl (by decide) fl_X8_199 (by rw [cv_raw C]; rfl) jX8_nodesOf_20 ?_
        refine sg0 C foX8 coX8 oX8_nodesOf_23 rfl rfl hn ?_
        rw [nI_1]
        refine cl_s C (i1 (15 - B) (d + 1) N hfx (by omega) hN (fun H hH => (hx H hH).2.1)) cd_X8_nodesOf in_X8 ml_X8_130 sm_X8_nodesOf hd_X8_nodesOf rfl rfl ⟨by show 15 - B + 1 + 1 ≤ k + 1; omega, by show 8 + (3 + 11) + 40 * (15 - B + 1) ≤ 40 * (k + 1); omega⟩ ⟨(Nat.le_of_ble_eq_true rfl), (Nat.le_of_ble_eq_true rfl)⟩ (Nat.le_of_ble_eq_true rfl) jX8_nodesOf_26 (fun v ws' => Wa.and (fun hv => ?_))
        obtain ⟨rfl, rfl⟩ := hv
        refine sg0 C foX8 coX8 oX8_nodesOf_29 rfl rfl hn ?_
        refine ng (ci := 1) (k := 4) (v := .ref (adr y + 100)) C (fun H hH => (hx H hH).1) rfl (by decide) fl_X8_202 (by rw [cv_raw C]; rfl) jX8_nodesOf_31 ?_
        refine sg0 C foX8 coX8 oX8_nodesOf_34 rfl rfl hn ?_
        rw [nI_1 d]
        refine cl_s C (i2 (15 - B) (d + 1) N hfy (by omega) hN (fun H hH => (hx H hH).2.2)) cd_X8_nodesOf in_X8 ml_X8_130 sm_X8_nodesOf hd_X8_nodesOf rfl rfl ⟨by show 15 - B + 1 + 1 ≤ k + 1; omega, by show 8 + (3 + 11) + 40 * (15 - B + 1) ≤ 40 * (k + 1); omega⟩ ⟨(Nat.le_of_ble_eq_true rfl), (Nat.le_of_ble_eq_true rfl)⟩ (Nat.le_of_ble_eq_true rfl) jX8_nodesOf_37 (fun v ws' => Wa.and (fun hv => ?_))
        obtain ⟨rfl, rfl⟩ := hv
        refine sg0 C foX8 coX8 oX8_nodesOf_40 rfl rfl hn ?_
        exact rt_i C hr hlk jX8_nodesOf_41 (fun H hN => ⟨⟨by rw [show (1 : Int32) = nI 1 from rfl, nI_add, nI_add]; simp only [nodT], rfl⟩, hN⟩)
theorem frk_le (T : Term) (hT : isT T) : ∀ k, fitT T k → frkT T ≤ k := by
  refine tr_ind (P := fun T => ∀ k, fitT T k → frkT T ≤ k) ?_ ?_ ?_ ?_ T hT
  · exact fun q k _ => Nat.zero_le _
  · exact fun q d k _ => Nat.zero_le _
  · exact fun q p v k _ => Nat.zero_le _
  · intro q B S x y _ _ i1 i2 k h
    obtain ⟨⟨hB, hkB, hS, hstm⟩, hfx, hfy⟩ := fitF h
    have h1 := i1 _ hfx
    have h2 := i2 _ hfy
    simp only [frkT]
    omega
theorem fit_T (T : Term) : ∀ k, fitT T k → isT T := by
  induction T using isT.induct with
  | case1 q => intro _ _; exact trivial
  | case2 q d => intro _ _; exact trivial
  | case3 q p v => intro _ _; exact trivial
  | case4 q B S x y i1 i2 => intro k h; exact ⟨i1 _ h.2.1, i2 _ h.2.2⟩
  | case5 T h1 h2 h3 h4 => intro k h; exfalso; unfold fitT at h; split at h <;> first | exact h | (simp_all; done) | (exact h4 _ _ _ _ _ rfl)
theorem mx_frk {x y : Term} {j : Nat} (hx : fitT x (15 - j)) (hy : fitT y (15 - j)) : (1 : Int32) + (if nI (frkT x) < nI (frkT y) then nI (frkT y) else nI (frkT x)) = nI (1 + max (frkT x) (frkT y)) := by
  have h1 := frk_le x (fit_T x _ hx) _ hx
  have h2 := frk_le y (fit_T y _ hy) _ hy
  rw [show (1 : Int32) = nI 1 from rfl]
  by_cases h : frkT x < frkT y
  · rw [if_pos ((nI_ltI (by omega) (by omega)).mpr h), nI_add, Nat.max_eq_right (by omega)]
  · rw [if_neg (fun h3 => h ((nI_ltI (by omega) (by omega)).mp h3)), nI_add, Nat.max_eq_left (by omega)]
set_option maxRecDepth 100000 in
set_option maxHeartbeats 4000000 in
theorem kX8_mostForks (hAD : AD ad n) (hn : ws.length = n)  (T : Term) (hT : isT T) : ∀ (k d : Nat) (N : Heap → Prop), fitT (T) k → d + k ≤ 16 → NS D N → (∀ H, N H → nodeAt D H (T)) → Ct l yX8_mostForks cX8_mostForks 3 (some .int) (rK (k + 1) 0 0) D ca ad ws n [.ref (adr (T) + 100), .int (nI d)] N (pG ws N (some (.int (nI (frkT (T)))))) := by
  refine tr_ind (P := fun T => ∀ (k d : Nat) (N : Heap → Prop), fitT (T) k → d + k ≤ 16 → NS D N → (∀ H, N H → nodeAt D H (T)) → Ct l yX8_mostForks cX8_mostForks 3 (some .int) (rK (k + 1) 0 0) D ca ad ws n [.ref (adr (T) + 100), .int (nI d)] N (pG ws N (some (.int (nI (frkT (T))))))) ?_ ?_ ?_ ?_ T hT
  · intro q k d N  hfit hdk hN hx
    refine enter (lv := [(0, .ref (adr (tE q) + 100)), (1, .int (nI d))]) (by decide +kernel) (Nat.le_of_ble_eq_true rfl) rfl hAD (fun U hK => ns_write hK hN) ?_
    intro p e s m below meth c A args hA C hr hlk hnm
    refine sg0 C foX8 coX8 oX8_mostForks_0 rfl rfl hn ?_
    refine ni_n (ci := 0) C (fun H hH => hx H hH) rfl kl_X8_167 (by decide) jX8_mostForks_1 ?_
    refine b1_eq (tgt := 44) C jX8_mostForks_4 (by decide) (fun h4 => ?_) (fun h4 => ?_)
    · refine sg0 C foX8 coX8 oX8_mostForks_44 rfl rfl hn ?_
      exact rt_i C hr hlk jX8_mostForks_45 (fun H hN => ⟨⟨by rfl, rfl⟩, hN⟩)
    · exact absurd h4 (by decide)
  · intro q d0 k d N  hfit hdk hN hx
    refine enter (lv := [(0, .ref (adr (tH q d0) + 100)), (1, .int (nI d))]) (by decide +kernel) (Nat.le_of_ble_eq_true rfl) rfl hAD (fun U hK => ns_write hK hN) ?_
    intro p e s m below meth c A args hA C hr hlk hnm
    refine sg0 C foX8 coX8 oX8_mostForks_0 rfl rfl hn ?_
    refine ni_n (ci := 2) C (fun H hH => hx H hH) rfl kl_X8_167 (by decide) jX8_mostForks_1 ?_
    refine b1_eq (tgt := 44) C jX8_mostForks_4 (by decide) (fun h4 => ?_) (fun h4 => ?_)
    · refine sg0 C foX8 coX8 oX8_mostForks_44 rfl rfl hn ?_
      exact rt_i C hr hlk jX8_mostForks_45 (fun H hN => ⟨⟨by rfl, rfl⟩, hN⟩)
    · exact absurd h4 (by decide)
  · intro q P v0 k d N  hfit hdk hN hx
    have hP : P < 65536 := hfit
    refine enter (lv := [(0, .ref (adr (tL q P v0) + 100)), (1, .int (nI d))]) (by decide +kernel) (Nat.le_of_ble_eq_true rfl) rfl hAD (fun U hK => ns_write hK hN) ?_
    intro p e s m below meth c A args hA C hr hlk hnm
    refine sg0 C foX8 coX8 oX8_mostForks_0 rfl rfl hn ?_
    refine ni_n (ci := 3) C (fun H hH => hx H hH) rfl kl_X8_167 (by decide) jX8_mostForks_1 ?_
    refine b1_eq (tgt := 44) C jX8_mostForks_4 (by decide) (fun h4 => ?_) (fun h4 => ?_)
    · refine sg0 C foX8 coX8 oX8_mostForks_44 rfl rfl hn ?_
      exact rt_i C hr hlk jX8_mostForks_45 (fun H hN => ⟨⟨by rfl, rfl⟩, hN⟩)
    · exact absurd h4 (by decide)
  · intro q B S x y hT1 hT2 i1 i2 k d N  hfit hdk hN hx
    obtain ⟨⟨hB, hkB, hS, hstm⟩, hfx, hfy⟩ := fitF hfit
    have hS2 := fitF2 hfit
    refine enter (lv := [(0, .ref (adr (tF q B S x y) + 100)), (1, .int (nI d))]) (by decide +kernel) (Nat.le_of_ble_eq_true rfl) rfl hAD (fun U hK => ns_write hK hN) ?_
    intro p e s m below meth c A args hA C hr hlk hnm
    refine sg0 C foX8 coX8 oX8_mostForks_0 rfl rfl hn ?_
    refine ni_y (ci := 1) C (fun H hH => (hx H hH).1) rfl kl_X8_167 (by decide) jX8_mostForks_1 ?_
    refine b1_eq (tgt := 44) C jX8_mostForks_4 (by decide) (fun h4 => ?_) (fun h4 => ?_)
    · exact absurd h4 (by decide)
    · refine sg0 C foX8 coX8 oX8_mostForks_7 rfl rfl hn ?_
      refine nc_y (ci := 1) C (fun H hH => (hx H hH).1) rfl kl_X8_167 (by decide) jX8_mostForks_8 ?_
      refine sg0 C foX8 coX8 oX8_mostForks_11 rfl rfl hn ?_
      refine b2_ge (tgt := 44) C jX8_mostForks_15 (by decide) (fun h15 => ?_) (fun h15 => ?_)
      · exact absurd h15 (by rw [show (16 : Int32) = nI 16 from rfl]; exact nI_ge (by omega) (by decide))
      · refine sg0 C foX8 coX8 oX8_mostForks_18 rfl rfl hn ?_
        refine ng (ci := 1) (k := 3) (v := .ref (adr x + 100)) C (fun H hH => (hx H hH).1) rfl (by decide) fl_X8_199 (by rw [cv_raw C]; rfl) jX8_mostForks_20 ?_
        refine sg0 C foX8 coX8 oX8_mostForks_23 rfl rfl hn ?_
        rw [nI_1]
        refine cl_s C (i1 (15 - B) (d + 1) N hfx (by omega) hN (fun H hH => (hx H hH).2.1)) cd_X8_mostForks in_X8 ml_X8_149 sm_X8_mostForks hd_X8_mostForks rfl rfl ⟨by show 15 - B + 1 + 1 ≤ k + 1; omega, by show 8 + (3 + 11) + 40 * (15 - B + 1) ≤ 40 * (k + 1); omega⟩ ⟨(Nat.le_of_ble_eq_true rfl), (Nat.le_of_ble_eq_true rfl)⟩ (Nat.le_of_ble_eq_true rfl) jX8_mostForks_26 (fun v ws' => Wa.and (fun hv => ?_))
        obtain ⟨rfl, rfl⟩ := hv
        refine sg0 C foX8 coX8 oX8_mostForks_29 rfl rfl hn ?_
        refine ng (ci := 1) (k := 4) (v := .ref (adr y + 100)) C (fun H hH => (hx H hH).1) rfl (by decide) fl_X8_202 (by rw [cv_raw C]; rfl) jX8_mostForks_30 ?_
        refine sg0 C foX8 coX8 oX8_mostForks_33 rfl rfl hn ?_
        rw [nI_1]
        refine cl_s C (i2 (15 - B) (d + 1) N hfy (by omega) hN (fun H hH => (hx H hH).2.2)) cd_X8_mostForks in_X8 ml_X8_149 sm_X8_mostForks hd_X8_mostForks rfl rfl ⟨by show 15 - B + 1 + 1 ≤ k + 1; omega, by show 8 + (3 + 11) + 40 * (15 - B + 1) ≤ 40 * (k + 1); omega⟩ ⟨(Nat.le_of_ble_eq_true rfl), (Nat.le_of_ble_eq_true rfl)⟩ (Nat.le_of_ble_eq_true rfl) jX8_mostForks_36 (fun v ws' => Wa.and (fun hv => ?_))
        obtain ⟨rfl, rfl⟩ := hv
        refine cl_max C ml_X8_205 (by show 1 ≤ k + 1; omega) (by show 1 + 0 + 13 ≤ 40 * (k + 1); omega) (Nat.le_of_ble_eq_true rfl) (Nat.le_of_ble_eq_true rfl) jX8_mostForks_39 ?_
        refine sg0 C foX8 coX8 oX8_mostForks_42 rfl rfl hn ?_
        exact rt_i C hr hlk jX8_mostForks_43 (fun H hN => ⟨⟨by rw [mx_frk hfx hfy]; simp only [frkT], rfl⟩, hN⟩)
set_option maxRecDepth 100000 in
set_option maxHeartbeats 4000000 in
theorem kX8_hiddenOver (hAD : AD ad n) (hn : ws.length = n) {a b : Nat} (ha : a < 65536) (hb : b < 65536) (T : Term) (hT : isT T) : ∀ (k d : Nat) (N : Heap → Prop) (f t : Nat), fitT (T) k → d + k ≤ 16 → NS D N → (∀ H, N H → nodeAt D H (T)) → f < 65536 → t < 65536 → Ct l yX8_hiddenOver cX8_hiddenOver 7 (some .int) (rK (k + 1) 0 0) D ca ad ws n [.ref (adr (T) + 100), .int (nI f), .int (nI t), .int (nI a), .int (nI b), .int (nI d)] N (pG ws N (some (.int (nI (hidT (T) f t a b))))) := by
  refine tr_ind (P := fun T => ∀ (k d : Nat) (N : Heap → Prop) (f t : Nat), fitT (T) k → d + k ≤ 16 → NS D N → (∀ H, N H → nodeAt D H (T)) → f < 65536 → t < 65536 → Ct l yX8_hiddenOver cX8_hiddenOver 7 (some .int) (rK (k + 1) 0 0) D ca ad ws n [.ref (adr (T) + 100), .int (nI f), .int (nI t), .int (nI a), .int (nI b), .int (nI d)] N (pG ws N (some (.int (nI (hidT (T) f t a b)))))) ?_ ?_ ?_ ?_ T hT
  · intro q k d N f t hfit hdk hN hx hf1 ht1
    refine enter (lv := [(0, .ref (adr (tE q) + 100)), (1, .int (nI f)), (2, .int (nI t)), (3, .int (nI a)), (4, .int (nI b)), (5, .int (nI d))]) (by decide +kernel) (Nat.le_of_ble_eq_true rfl) rfl hAD (fun U hK => ns_write hK hN) ?_
    intro p e s m below meth c A args hA C hr hlk hnm
    refine sg0 C foX8 coX8 oX8_hiddenOver_0 rfl rfl hn ?_
    refine ni_n (ci := 0) C (fun H hH => hx H hH) rfl kl_X8_167 (by decide) jX8_hiddenOver_1 ?_
    refine b1_eq (tgt := 74) C jX8_hiddenOver_4 (by decide) (fun h4 => ?_) (fun h4 => ?_)
    · refine sg0 C foX8 coX8 oX8_hiddenOver_74 rfl rfl hn ?_
      refine ni_n (ci := 0) C (fun H hH => hx H hH) rfl kl_X8_134 (by decide) jX8_hiddenOver_75 ?_
      refine b1_eq (tgt := 96) C jX8_hiddenOver_78 (by decide) (fun h78 => ?_) (fun h78 => ?_)
      · refine sg0 C foX8 coX8 oX8_hiddenOver_96 rfl rfl hn ?_
        exact rt_i C hr hlk jX8_hiddenOver_97 (fun H hN => ⟨⟨by rfl, rfl⟩, hN⟩)
      · exact absurd h78 (by decide)
    · exact absurd h4 (by decide)
  · intro q d0 k d N f t hfit hdk hN hx hf1 ht1
    refine enter (lv := [(0, .ref (adr (tH q d0) + 100)), (1, .int (nI f)), (2, .int (nI t)), (3, .int (nI a)), (4, .int (nI b)), (5, .int (nI d))]) (by decide +kernel) (Nat.le_of_ble_eq_true rfl) rfl hAD (fun U hK => ns_write hK hN) ?_
    intro p e s m below meth c A args hA C hr hlk hnm
    refine sg0 C foX8 coX8 oX8_hiddenOver_0 rfl rfl hn ?_
    refine ni_n (ci := 2) C (fun H hH => hx H hH) rfl kl_X8_167 (by decide) jX8_hiddenOver_1 ?_
    refine b1_eq (tgt := 74) C jX8_hiddenOver_4 (by decide) (fun h4 => ?_) (fun h4 => ?_)
    · refine sg0 C foX8 coX8 oX8_hiddenOver_74 rfl rfl hn ?_
      refine ni_y (ci := 2) C (fun H hH => hx H hH) rfl kl_X8_134 (by decide) jX8_hiddenOver_75 ?_
      refine b1_eq (tgt := 96) C jX8_hiddenOver_78 (by decide) (fun h78 => ?_) (fun h78 => ?_)
      · exact absurd h78 (by decide)
      · refine sg0 C foX8 coX8 oX8_hiddenOver_81 rfl rfl hn ?_
        refine b2_gt (tgt := 96) C jX8_hiddenOver_84 (by decide) (fun h84 => ?_) (fun h84 => ?_)
        · refine sg0 C foX8 coX8 oX8_hiddenOver_96 rfl rfl hn ?_
          exact rt_i C hr hlk jX8_hiddenOver_97 (fun H hN => ⟨⟨by simp only [hidT]; rw [if_neg (fun h => absurd h.1 (Nat.not_le.mpr ((nI_ltI (by omega) (by omega)).mp h84)))]; rfl, rfl⟩, hN⟩)
        · refine sg0 C foX8 coX8 oX8_hiddenOver_87 rfl rfl hn ?_
          refine b2_gt (tgt := 96) C jX8_hiddenOver_89 (by decide) (fun h89 => ?_) (fun h89 => ?_)
          · refine sg0 C foX8 coX8 oX8_hiddenOver_96 rfl rfl hn ?_
            exact rt_i C hr hlk jX8_hiddenOver_97 (fun H hN => ⟨⟨by simp only [hidT]; rw [if_neg (fun h => absurd h.2 (Nat.not_le.mpr ((nI_ltI (by omega) (by omega)).mp h89)))]; rfl, rfl⟩, hN⟩)
          · refine sg0 C foX8 coX8 oX8_hiddenOver_92 rfl rfl hn ?_
            exact rt_i C hr hlk jX8_hiddenOver_97 (fun H hN => ⟨⟨by simp only [hidT]; rw [if_pos ⟨Nat.not_lt.mp fun h => h84 ((nI_ltI (by omega) (by omega)).mpr h), Nat.not_lt.mp fun h => h89 ((nI_ltI (by omega) (by omega)).mpr h)⟩]; rfl, rfl⟩, hN⟩)
    · exact absurd h4 (by decide)
  · intro q P v0 k d N f t hfit hdk hN hx hf1 ht1
    have hP : P < 65536 := hfit
    refine enter (lv := [(0, .ref (adr (tL q P v0) + 100)), (1, .int (nI f)), (2, .int (nI t)), (3, .int (nI a)), (4, .int (nI b)), (5, .int (nI d))]) (by decide +kernel) (Nat.le_of_ble_eq_true rfl) rfl hAD (fun U hK => ns_write hK hN) ?_
    intro p e s m below meth c A args hA C hr hlk hnm
    refine sg0 C foX8 coX8 oX8_hiddenOver_0 rfl rfl hn ?_
    refine ni_n (ci := 3) C (fun H hH => hx H hH) rfl kl_X8_167 (by decide) jX8_hiddenOver_1 ?_
    refine b1_eq (tgt := 74) C jX8_hiddenOver_4 (by decide) (fun h4 => ?_) (fun h4 => ?_)
    · refine sg0 C foX8 coX8 oX8_hiddenOver_74 rfl rfl hn ?_
      refine ni_n (ci := 3) C (fun H hH => hx H hH) rfl kl_X8_134 (by decide) jX8_hiddenOver_75 ?_
      refine b1_eq (tgt := 96) C jX8_hiddenOver_78 (by decide) (fun h78 => ?_) (fun h78 => ?_)
      · refine sg0 C foX8 coX8 oX8_hiddenOver_96 rfl rfl hn ?_
        exact rt_i C hr hlk jX8_hiddenOver_97 (fun H hN => ⟨⟨by rfl, rfl⟩, hN⟩)
      · exact absurd h78 (by decide)
    · exact absurd h4 (by decide)
  · intro q B S x y hT1 hT2 i1 i2 k d N f t hfit hdk hN hx hf1 ht1
    obtain ⟨⟨hB, hkB, hS, hstm⟩, hfx, hfy⟩ := fitF hfit
    have hS2 := fitF2 hfit
    refine enter (lv := [(0, .ref (adr (tF q B S x y) + 100)), (1, .int (nI f)), (2, .int (nI t)), (3, .int (nI a)), (4, .int (nI b)), (5, .int (nI d))]) (by decide +kernel) (Nat.le_of_ble_eq_true rfl) rfl hAD (fun U hK => ns_write hK hN) ?_
    intro p e s m below meth c A args hA C hr hlk hnm
    refine sg0 C foX8 coX8 oX8_hiddenOver_0 rfl rfl hn ?_
    refine ni_y (ci := 1) C (fun H hH => (hx H hH).1) rfl kl_X8_167 (by decide) jX8_hiddenOver_1 ?_
    refine b1_eq (tgt := 74) C jX8_hiddenOver_4 (by decide) (fun h4 => ?_) (fun h4 => ?_)
    · exact absurd h4 (by decide)
    · refine sg0 C foX8 coX8 oX8_hiddenOver_7 rfl rfl hn ?_
      refine nc_y (ci := 1) C (fun H hH => (hx H hH).1) rfl kl_X8_167 (by decide) jX8_hiddenOver_8 ?_
      refine sg0 C foX8 coX8 oX8_hiddenOver_11 rfl rfl hn ?_
      refine b2_ge (tgt := 74) C jX8_hiddenOver_17 (by decide) (fun h17 => ?_) (fun h17 => ?_)
      · exact absurd h17 (by rw [show (16 : Int32) = nI 16 from rfl]; exact nI_ge (by omega) (by decide))
      · have hp1 : 0 < 2 ^ (15 - B) := Nat.two_pow_pos _
        have hp2 : 2 ^ (16 - B) = 2 * 2 ^ (15 - B) := by rw [show 16 - B = 15 - B + 1 by omega, Nat.pow_succ, Nat.mul_comm]
        refine sg0 C foX8 coX8 oX8_hiddenOver_20 rfl rfl hn ?_
        refine ng (ci := 1) (k := 3) (v := .ref (adr x + 100)) C (fun H hH => (hx H hH).1) rfl (by decide) fl_X8_199 (by rw [cv_raw C]; rfl) jX8_hiddenOver_22 ?_
        refine sg0 C foX8 coX8 oX8_hiddenOver_25 rfl rfl hn ?_
        refine ng (ci := 1) (k := 2) (v := .int (nI S)) C (fun H hH => (hx H hH).1) rfl (by decide) fl_X8_179 rfl jX8_hiddenOver_27 ?_
        refine sg0 C foX8 coX8 oX8_hiddenOver_30 rfl rfl hn ?_
        refine cl_v C (kX1_middle hAD hn hN (q := q) (B := B) (S := S) (fun H hH => (hx H hH).1) hB) (nrc C (fun H hH => (hx H hH).1) rfl) cd_X1_middle in_X1 ml_X8_210 im_X1_middle se_X1_middle hd_X1_middle rfl rfl ⟨by show 0 + 1 ≤ k + 1; omega, by show 8 + (1 + 11) + 40 * 0 ≤ 40 * (k + 1); omega⟩ ⟨(Nat.le_of_ble_eq_true rfl), (Nat.le_of_ble_eq_true rfl)⟩ (Nat.le_of_ble_eq_true rfl) jX8_hiddenOver_32 (fun v ws' => Wa.and (fun hv => ?_))
        obtain ⟨rfl, rfl⟩ := hv
        refine sg0 C foX8 coX8 oX8_hiddenOver_35 rfl rfl hn ?_
        rw [nI_1 d, show (1 : Int32) = nI 1 from rfl, pk_sub (show 1 ≤ S + 2 ^ (15 - B) by omega)]
        refine cl_s C (i1 (15 - B) (d + 1) N (S) (S + 2 ^ (15 - B) - 1) hfx (by omega) hN (fun H hH => (hx H hH).2.1) (by omega) (by omega)) cd_X8_hiddenOver in_X8 ml_X8_142 sm_X8_hiddenOver hd_X8_hiddenOver rfl rfl ⟨by show 15 - B + 1 + 1 ≤ k + 1; omega, by show 8 + (7 + 11) + 40 * (15 - B + 1) ≤ 40 * (k + 1); omega⟩ ⟨(Nat.le_of_ble_eq_true rfl), (Nat.le_of_ble_eq_true rfl)⟩ (Nat.le_of_ble_eq_true rfl) jX8_hiddenOver_44 (fun v ws' => Wa.and (fun hv => ?_))
        obtain ⟨rfl, rfl⟩ := hv
        refine sg0 C foX8 coX8 oX8_hiddenOver_47 rfl rfl hn ?_
        refine ng (ci := 1) (k := 4) (v := .ref (adr y + 100)) C (fun H hH => (hx H hH).1) rfl (by decide) fl_X8_202 (by rw [cv_raw C]; rfl) jX8_hiddenOver_49 ?_
        refine sg0 C foX8 coX8 oX8_hiddenOver_52 rfl rfl hn ?_
        refine cl_v C (kX1_middle hAD hn hN (q := q) (B := B) (S := S) (fun H hH => (hx H hH).1) hB) (nrc C (fun H hH => (hx H hH).1) rfl) cd_X1_middle in_X1 ml_X8_210 im_X1_middle se_X1_middle hd_X1_middle rfl rfl ⟨by show 0 + 1 ≤ k + 1; omega, by show 8 + (1 + 11) + 40 * 0 ≤ 40 * (k + 1); omega⟩ ⟨(Nat.le_of_ble_eq_true rfl), (Nat.le_of_ble_eq_true rfl)⟩ (Nat.le_of_ble_eq_true rfl) jX8_hiddenOver_54 (fun v ws' => Wa.and (fun hv => ?_))
        obtain ⟨rfl, rfl⟩ := hv
        refine sg0 C foX8 coX8 oX8_hiddenOver_57 rfl rfl hn ?_
        refine cl_v C (kX1_last hAD hn hN (q := q) (B := B) (S := S) (fun H hH => (hx H hH).1) hB) (nrc C (fun H hH => (hx H hH).1) rfl) cd_X1_last in_X1 ml_X8_214 im_X1_last se_X1_last hd_X1_last rfl rfl ⟨by show 0 + 1 ≤ k + 1; omega, by show 8 + (1 + 11) + 40 * 0 ≤ 40 * (k + 1); omega⟩ ⟨(Nat.le_of_ble_eq_true rfl), (Nat.le_of_ble_eq_true rfl)⟩ (Nat.le_of_ble_eq_true rfl) jX8_hiddenOver_59 (fun v ws' => Wa.and (fun hv => ?_))
        obtain ⟨rfl, rfl⟩ := hv
        refine sg0 C foX8 coX8 oX8_hiddenOver_62 rfl rfl hn ?_
        rw [nI_1 d]
        refine cl_s C (i2 (15 - B) (d + 1) N (S + 2 ^ (15 - B)) (S + 2 ^ (16 - B) - 1) hfy (by omega) hN (fun H hH => (hx H hH).2.2) (by omega) (by omega)) cd_X8_hiddenOver in_X8 ml_X8_142 sm_X8_hiddenOver hd_X8_hiddenOver rfl rfl ⟨by show 15 - B + 1 + 1 ≤ k + 1; omega, by show 8 + (7 + 11) + 40 * (15 - B + 1) ≤ 40 * (k + 1); omega⟩ ⟨(Nat.le_of_ble_eq_true rfl), (Nat.le_of_ble_eq_true rfl)⟩ (Nat.le_of_ble_eq_true rfl) jX8_hiddenOver_69 (fun v ws' => Wa.and (fun hv => ?_))
        obtain ⟨rfl, rfl⟩ := hv
        refine sg0 C foX8 coX8 oX8_hiddenOver_72 rfl rfl hn ?_
        exact rt_i C hr hlk jX8_hiddenOver_73 (fun H hN => ⟨⟨by rw [nI_add]; simp only [hidT], rfl⟩, hN⟩)
set_option maxRecDepth 100000 in
set_option maxHeartbeats 4000000 in
theorem kX8_leastFrom (hAD : AD ad n) (hn : ws.length = n) {a : Nat} (ha : a < 65536) (T : Term) (hT : isT T) : ∀ (k d : Nat) (N : Heap → Prop) (t : Nat), fitT (T) k → d + k ≤ 16 → NS D N → (∀ H, N H → nodeAt D H (T)) → t < 65536 → Ct l yX8_leastFrom cX8_leastFrom 6 (some .int) (rK (k + 1) 0 0) D ca ad ws n [.ref (adr (T) + 100), .int (nI t), .int (nI a), .int (nI d)] N (pG ws N (some (.int (lstT (T) t a)))) := by
  refine tr_ind (P := fun T => ∀ (k d : Nat) (N : Heap → Prop) (t : Nat), fitT (T) k → d + k ≤ 16 → NS D N → (∀ H, N H → nodeAt D H (T)) → t < 65536 → Ct l yX8_leastFrom cX8_leastFrom 6 (some .int) (rK (k + 1) 0 0) D ca ad ws n [.ref (adr (T) + 100), .int (nI t), .int (nI a), .int (nI d)] N (pG ws N (some (.int (lstT (T) t a))))) ?_ ?_ ?_ ?_ T hT
  · intro q k d N t hfit hdk hN hx ht1
    refine enter (lv := [(0, .ref (adr (tE q) + 100)), (1, .int (nI t)), (2, .int (nI a)), (3, .int (nI d))]) (by decide +kernel) (Nat.le_of_ble_eq_true rfl) rfl hAD (fun U hK => ns_write hK hN) ?_
    intro p e s m below meth c A args hA C hr hlk hnm
    refine sg0 C foX8 coX8 oX8_leastFrom_0 rfl rfl hn ?_
    refine ni_n (ci := 0) C (fun H hH => hx H hH) rfl kl_X8_167 (by decide) jX8_leastFrom_1 ?_
    refine b1_eq (tgt := 70) C jX8_leastFrom_4 (by decide) (fun h4 => ?_) (fun h4 => ?_)
    · refine sg0 C foX8 coX8 oX8_leastFrom_70 rfl rfl hn ?_
      refine ni_n (ci := 0) C (fun H hH => hx H hH) rfl kl_X8_65 (by decide) jX8_leastFrom_71 ?_
      refine b1_eq (tgt := 98) C jX8_leastFrom_74 (by decide) (fun h74 => ?_) (fun h74 => ?_)
      · refine sg0 C foX8 coX8 oX8_leastFrom_98 rfl rfl hn ?_
        refine ni_n (ci := 0) C (fun H hH => hx H hH) rfl kl_X8_134 (by decide) jX8_leastFrom_99 ?_
        refine b1_eq (tgt := 115) C jX8_leastFrom_102 (by decide) (fun h102 => ?_) (fun h102 => ?_)
        · refine sg0 C foX8 coX8 oX8_leastFrom_115 rfl rfl hn ?_
          exact rt_i C hr hlk jX8_leastFrom_117 (fun H hN => ⟨⟨by rfl, rfl⟩, hN⟩)
        · exact absurd h102 (by decide)
      · exact absurd h74 (by decide)
    · exact absurd h4 (by decide)
  · intro q d0 k d N t hfit hdk hN hx ht1
    refine enter (lv := [(0, .ref (adr (tH q d0) + 100)), (1, .int (nI t)), (2, .int (nI a)), (3, .int (nI d))]) (by decide +kernel) (Nat.le_of_ble_eq_true rfl) rfl hAD (fun U hK => ns_write hK hN) ?_
    intro p e s m below meth c A args hA C hr hlk hnm
    refine sg0 C foX8 coX8 oX8_leastFrom_0 rfl rfl hn ?_
    refine ni_n (ci := 2) C (fun H hH => hx H hH) rfl kl_X8_167 (by decide) jX8_leastFrom_1 ?_
    refine b1_eq (tgt := 70) C jX8_leastFrom_4 (by decide) (fun h4 => ?_) (fun h4 => ?_)
    · refine sg0 C foX8 coX8 oX8_leastFrom_70 rfl rfl hn ?_
      refine ni_n (ci := 2) C (fun H hH => hx H hH) rfl kl_X8_65 (by decide) jX8_leastFrom_71 ?_
      refine b1_eq (tgt := 98) C jX8_leastFrom_74 (by decide) (fun h74 => ?_) (fun h74 => ?_)
      · refine sg0 C foX8 coX8 oX8_leastFrom_98 rfl rfl hn ?_
        refine ni_y (ci := 2) C (fun H hH => hx H hH) rfl kl_X8_134 (by decide) jX8_leastFrom_99 ?_
        refine b1_eq (tgt := 115) C jX8_leastFrom_102 (by decide) (fun h102 => ?_) (fun h102 => ?_)
        · exact absurd h102 (by decide)
        · refine sg0 C foX8 coX8 oX8_leastFrom_105 rfl rfl hn ?_
          refine b2_lt (tgt := 115) C jX8_leastFrom_107 (by decide) (fun h107 => ?_) (fun h107 => ?_)
          · refine sg0 C foX8 coX8 oX8_leastFrom_115 rfl rfl hn ?_
            exact rt_i C hr hlk jX8_leastFrom_117 (fun H hN => ⟨⟨by simp only [lstT]; rw [if_neg (fun h => absurd h (Nat.not_le.mpr ((nI_ltI (by omega) (by omega)).mp h107)))], rfl⟩, hN⟩)
          · refine sg0 C foX8 coX8 oX8_leastFrom_110 rfl rfl hn ?_
            exact rt_i C hr hlk jX8_leastFrom_117 (fun H hN => ⟨⟨by simp only [lstT]; rw [if_pos (Nat.not_lt.mp fun h => h107 ((nI_ltI (by omega) (by omega)).mpr h))], rfl⟩, hN⟩)
      · exact absurd h74 (by decide)
    · exact absurd h4 (by decide)
  · intro q P v0 k d N t hfit hdk hN hx ht1
    have hP : P < 65536 := hfit
    refine enter (lv := [(0, .ref (adr (tL q P v0) + 100)), (1, .int (nI t)), (2, .int (nI a)), (3, .int (nI d))]) (by decide +kernel) (Nat.le_of_ble_eq_true rfl) rfl hAD (fun U hK => ns_write hK hN) ?_
    intro p e s m below meth c A args hA C hr hlk hnm
    refine sg0 C foX8 coX8 oX8_leastFrom_0 rfl rfl hn ?_
    refine ni_n (ci := 3) C (fun H hH => hx H hH) rfl kl_X8_167 (by decide) jX8_leastFrom_1 ?_
    refine b1_eq (tgt := 70) C jX8_leastFrom_4 (by decide) (fun h4 => ?_) (fun h4 => ?_)
    · refine sg0 C foX8 coX8 oX8_leastFrom_70 rfl rfl hn ?_
      refine ni_y (ci := 3) C (fun H hH => hx H hH) rfl kl_X8_65 (by decide) jX8_leastFrom_71 ?_
      refine b1_eq (tgt := 98) C jX8_leastFrom_74 (by decide) (fun h74 => ?_) (fun h74 => ?_)
      · exact absurd h74 (by decide)
      · refine sg0 C foX8 coX8 oX8_leastFrom_77 rfl rfl hn ?_
        refine nc_y (ci := 3) C (fun H hH => hx H hH) rfl kl_X8_65 (by decide) jX8_leastFrom_78 ?_
        refine sg0 C foX8 coX8 oX8_leastFrom_81 rfl rfl hn ?_
        refine ng (ci := 3) (k := 1) (v := .int (nI P)) C (fun H hH => hx H hH) rfl (by decide) fl_X8_136 rfl jX8_leastFrom_85 ?_
        refine sg0 C foX8 coX8 oX8_leastFrom_88 rfl rfl hn ?_
        refine b2_lt (tgt := 98) C jX8_leastFrom_89 (by decide) (fun h89 => ?_) (fun h89 => ?_)
        · refine sg0 C foX8 coX8 oX8_leastFrom_98 rfl rfl hn ?_
          refine ni_n (ci := 3) C (fun H hH => hx H hH) rfl kl_X8_134 (by decide) jX8_leastFrom_99 ?_
          refine b1_eq (tgt := 115) C jX8_leastFrom_102 (by decide) (fun h102 => ?_) (fun h102 => ?_)
          · refine sg0 C foX8 coX8 oX8_leastFrom_115 rfl rfl hn ?_
            exact rt_i C hr hlk jX8_leastFrom_117 (fun H hN => ⟨⟨by simp only [lstT]; rw [if_neg (fun h => absurd h (Nat.not_le.mpr ((nI_ltI (by omega) (by omega)).mp h89)))], rfl⟩, hN⟩)
          · exact absurd h102 (by decide)
        · refine sg0 C foX8 coX8 oX8_leastFrom_92 rfl rfl hn ?_
          refine ng (ci := 3) (k := 1) (v := .int (nI P)) C (fun H hH => hx H hH) rfl (by decide) fl_X8_136 rfl jX8_leastFrom_94 ?_
          exact rt_i C hr hlk jX8_leastFrom_97 (fun H hN => ⟨⟨by simp only [lstT]; rw [if_pos (Nat.not_lt.mp fun h => h89 ((nI_ltI (by omega) (by omega)).mpr h))], rfl⟩, hN⟩)
    · exact absurd h4 (by decide)
  · intro q B S x y hT1 hT2 i1 i2 k d N t hfit hdk hN hx ht1
    obtain ⟨⟨hB, hkB, hS, hstm⟩, hfx, hfy⟩ := fitF hfit
    have hS2 := fitF2 hfit
    refine enter (lv := [(0, .ref (adr (tF q B S x y) + 100)), (1, .int (nI t)), (2, .int (nI a)), (3, .int (nI d))]) (by decide +kernel) (Nat.le_of_ble_eq_true rfl) rfl hAD (fun U hK => ns_write hK hN) ?_
    intro p e s m below meth c A args hA C hr hlk hnm
    refine sg0 C foX8 coX8 oX8_leastFrom_0 rfl rfl hn ?_
    refine ni_y (ci := 1) C (fun H hH => (hx H hH).1) rfl kl_X8_167 (by decide) jX8_leastFrom_1 ?_
    refine b1_eq (tgt := 70) C jX8_leastFrom_4 (by decide) (fun h4 => ?_) (fun h4 => ?_)
    · exact absurd h4 (by decide)
    · refine sg0 C foX8 coX8 oX8_leastFrom_7 rfl rfl hn ?_
      refine nc_y (ci := 1) C (fun H hH => (hx H hH).1) rfl kl_X8_167 (by decide) jX8_leastFrom_8 ?_
      refine sg0 C foX8 coX8 oX8_leastFrom_11 rfl rfl hn ?_
      refine b2_ge (tgt := 70) C jX8_leastFrom_16 (by decide) (fun h16 => ?_) (fun h16 => ?_)
      · exact absurd h16 (by rw [show (16 : Int32) = nI 16 from rfl]; exact nI_ge (by omega) (by decide))
      · have hp1 : 0 < 2 ^ (15 - B) := Nat.two_pow_pos _
        have hp2 : 2 ^ (16 - B) = 2 * 2 ^ (15 - B) := by rw [show 16 - B = 15 - B + 1 by omega, Nat.pow_succ, Nat.mul_comm]
        refine sg0 C foX8 coX8 oX8_leastFrom_19 rfl rfl hn ?_
        refine ng (ci := 1) (k := 3) (v := .ref (adr x + 100)) C (fun H hH => (hx H hH).1) rfl (by decide) fl_X8_199 (by rw [cv_raw C]; rfl) jX8_leastFrom_21 ?_
        refine sg0 C foX8 coX8 oX8_leastFrom_24 rfl rfl hn ?_
        refine cl_v C (kX1_middle hAD hn hN (q := q) (B := B) (S := S) (fun H hH => (hx H hH).1) hB) (nrc C (fun H hH => (hx H hH).1) rfl) cd_X1_middle in_X1 ml_X8_210 im_X1_middle se_X1_middle hd_X1_middle rfl rfl ⟨by show 0 + 1 ≤ k + 1; omega, by show 8 + (1 + 11) + 40 * 0 ≤ 40 * (k + 1); omega⟩ ⟨(Nat.le_of_ble_eq_true rfl), (Nat.le_of_ble_eq_true rfl)⟩ (Nat.le_of_ble_eq_true rfl) jX8_leastFrom_26 (fun v ws' => Wa.and (fun hv => ?_))
        obtain ⟨rfl, rfl⟩ := hv
        refine sg0 C foX8 coX8 oX8_leastFrom_29 rfl rfl hn ?_
        rw [nI_1 d, show (1 : Int32) = nI 1 from rfl, pk_sub (show 1 ≤ S + 2 ^ (15 - B) by omega)]
        refine cl_s C (i1 (15 - B) (d + 1) N (S + 2 ^ (15 - B) - 1) hfx (by omega) hN (fun H hH => (hx H hH).2.1) (by omega)) cd_X8_leastFrom in_X8 ml_X8_146 sm_X8_leastFrom hd_X8_leastFrom rfl rfl ⟨by show 15 - B + 1 + 1 ≤ k + 1; omega, by show 8 + (6 + 11) + 40 * (15 - B + 1) ≤ 40 * (k + 1); omega⟩ ⟨(Nat.le_of_ble_eq_true rfl), (Nat.le_of_ble_eq_true rfl)⟩ (Nat.le_of_ble_eq_true rfl) jX8_leastFrom_35 (fun v ws' => Wa.and (fun hv => ?_))
        obtain ⟨rfl, rfl⟩ := hv
        refine sg0 C foX8 coX8 oX8_leastFrom_38 rfl rfl hn ?_
        refine b2_ne (tgt := 67) C jX8_leastFrom_44 (by decide) (fun h44 => ?_) (fun h44 => ?_)
        · refine sg0 C foX8 coX8 oX8_leastFrom_67 rfl rfl hn ?_
          exact rt_i C hr hlk jX8_leastFrom_69 (fun H hN => ⟨⟨by simp only [lstT]; rw [if_neg h44], rfl⟩, hN⟩)
        · refine sg0 C foX8 coX8 oX8_leastFrom_47 rfl rfl hn ?_
          refine ng (ci := 1) (k := 4) (v := .ref (adr y + 100)) C (fun H hH => (hx H hH).1) rfl (by decide) fl_X8_202 (by rw [cv_raw C]; rfl) jX8_leastFrom_49 ?_
          refine sg0 C foX8 coX8 oX8_leastFrom_52 rfl rfl hn ?_
          refine cl_v C (kX1_last hAD hn hN (q := q) (B := B) (S := S) (fun H hH => (hx H hH).1) hB) (nrc C (fun H hH => (hx H hH).1) rfl) cd_X1_last in_X1 ml_X8_214 im_X1_last se_X1_last hd_X1_last rfl rfl ⟨by show 0 + 1 ≤ k + 1; omega, by show 8 + (1 + 11) + 40 * 0 ≤ 40 * (k + 1); omega⟩ ⟨(Nat.le_of_ble_eq_true rfl), (Nat.le_of_ble_eq_true rfl)⟩ (Nat.le_of_ble_eq_true rfl) jX8_leastFrom_54 (fun v ws' => Wa.and (fun hv => ?_))
          obtain ⟨rfl, rfl⟩ := hv
          refine sg0 C foX8 coX8 oX8_leastFrom_57 rfl rfl hn ?_
          rw [nI_1 d]
          refine cl_s C (i2 (15 - B) (d + 1) N (S + 2 ^ (16 - B) - 1) hfy (by omega) hN (fun H hH => (hx H hH).2.2) (by omega)) cd_X8_leastFrom in_X8 ml_X8_146 sm_X8_leastFrom hd_X8_leastFrom rfl rfl ⟨by show 15 - B + 1 + 1 ≤ k + 1; omega, by show 8 + (6 + 11) + 40 * (15 - B + 1) ≤ 40 * (k + 1); omega⟩ ⟨(Nat.le_of_ble_eq_true rfl), (Nat.le_of_ble_eq_true rfl)⟩ (Nat.le_of_ble_eq_true rfl) jX8_leastFrom_61 (fun v ws' => Wa.and (fun hv => ?_))
          obtain ⟨rfl, rfl⟩ := hv
          refine sg0 C foX8 coX8 oX8_leastFrom_64 rfl rfl hn ?_
          exact rt_i C hr hlk jX8_leastFrom_69 (fun H hN => ⟨⟨by simp only [lstT]; rw [if_pos h44], rfl⟩, hN⟩)
end
