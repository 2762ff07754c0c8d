/-! ways, writing and erasing in trees -/
def lfT : Term → Nat → Bool
  | .add (.arg _) (.elem (.arg p) (.long _)), P => decide (p = P)
  | _, _ => false
theorem isF_at {D : va_G} {H : Heap} {T : Term} (h : nodeAt D H T) : (isF T = true ∧ ∃ fs, va_at D vwCl (adr T, .inr (1, fs)) H) ∨ (isF T = false ∧ ∃ (ci : Nat) (r : vw_C) (fs : List Value), vwCl[ci]? = some r ∧ (r.1, "PathProofs$Fork") ∈ notL ∧ va_at D vwCl (adr T, .inr (ci, fs)) H) := by
  have hT := nodeAt.T T h
  revert h
  refine tr_ind (P := fun T => nodeAt D H T → (isF T = true ∧ ∃ fs, va_at D vwCl (adr T, .inr (1, fs)) H) ∨ (isF T = false ∧ ∃ (ci : Nat) (r : vw_C) (fs : List Value), vwCl[ci]? = some r ∧ (r.1, "PathProofs$Fork") ∈ notL ∧ va_at D vwCl (adr T, .inr (ci, fs)) H)) ?_ ?_ ?_ ?_ T hT
  · exact fun q h => Or.inr ⟨rfl, 0, _, _, rfl, by decide, h⟩
  · exact fun q d h => Or.inr ⟨rfl, 2, _, _, rfl, by decide, h⟩
  · exact fun q p v h => Or.inr ⟨rfl, 3, _, _, rfl, by decide, h⟩
  · exact fun q B S x y _ _ _ _ h => Or.inl ⟨rfl, _, h.1⟩
section
variable {p : Program} {l : Launch} {e : Env} {R : Room} {s : State} {m : MethodId} {args : Array Value} {below : List Frame} {meth : Method} {c : Code} {cells slots : Nat} {Q : State → Prop} {cc : ByteArray} {nL n : Nat} {own : String} {D : va_G} {ca : Nat → ClassId} {ad : Nat → Nat} {A : Nat → Prop} {N : Heap → Prop}
/-- instanceof Fork, of any node -/
theorem ni_F (C : Cx p s m args c cc nL own D ca ad A N n) {T : Term} {idx pc : Nat} {lv : List (Nat × Value)} {st : List Value} {ws : List va_E} (hx : ∀ H, N H → nodeAt D H T) (hkl : Cond.classLink own idx RX1 ∈ tb) (hdg : decode cc pc = .ok (.instanceof idx, 3))
    (kk : Wa p l e R s m args below meth c cells slots Q D ca ad A nL N (lv, .int (if isF T = true then 1 else 0) :: st, ws) (pc + 3)) : Wa p l e R s m args below meth c cells slots Q D ca ad A nL N (lv, .ref (adr T + 100) :: st, ws) pc := by
  intro H locs ls h1 h2 h3 h4
  have k2 := kk H locs ls h1 h2 h3 h4
  have hr := C.2.2.2.1.2 (adr T)
  show W p l e R s m args below meth c H locs cells slots Q (F0 m pc ls (.ref (ad (adr T + 100)) :: st.map (cv ad)))
  rcases isF_at (hx H h4) with ⟨e1, fs, g⟩ | ⟨e1, ci, r, fs, g1, g2, g⟩
  · rw [if_pos e1] at k2
    obtain ⟨r2, b1, cell, b2, b3, b4, -⟩ := g
    exact va_instY (C := RX1) (nm := RX1) C.1.1 C.1.2.1 C.1.2.2.2.1 (C.1.2.2.2.2 _ hkl) (C.2.1.2.2.1 (RX1, RX1) (by decide)) ⟨cell, by rw [hr]; exact b2, by rw [b4]; rfl, by rw [b3]; exact (C.2.1.1.1 1 _ rfl).2.1⟩ hdg k2
  · rw [if_neg (by rw [e1]; decide)] at k2
    obtain ⟨r2, b1, cell, b2, b3, b4, -⟩ := g
    exact va_instNo (C := r.1) (nm := RX1) C.1.1 C.1.2.1 C.1.2.2.2.1 (C.1.2.2.2.2 _ hkl) (C.2.1.2.2.2.1 (r.1, RX1) g2) ⟨cell, by rw [hr]; exact b2, by rw [b4]; rfl, by rw [b3]; exact (C.2.1.1.1 ci r g1).2.1⟩ hdg k2
end
theorem lf_ne {P p : Nat} (hP : P < 65536) (hp : p < 65536) (h : ¬ nI p = nI P) : ¬ p = P := fun e1 => h (by rw [e1])
theorem lf_eq {P p : Nat} (hP : P < 65536) (hp : p < 65536) (h : nI p = nI P) : p = P := (nI_eq (by omega) (by omega)).mp h
section
variable {l : Launch} {D : va_G} {ca : Nat → ClassId} {ad : Nat → Nat} {ws : List va_E} {n : Nat}
set_option maxRecDepth 100000 in
set_option maxHeartbeats 4000000 in
theorem kX8_isLeafOf (hAD : AD ad n) (hn : ws.length = n) {P0 : Nat} (hP0 : P0 < 65536) (T : Term) (hT : isT T) : ∀ (k d : Nat) (N : Heap → Prop), fitT (T) k → d + k ≤ 16 → NS D N → (∀ H, N H → nodeAt D H (T)) → Ct l yX8_isLeafOf cX8_isLeafOf 3 (some .boolean) (rK (k + 1) 0 0) D ca ad ws n [.ref (adr (T) + 100), .int (nI P0)] N (pG ws N (some (.int (if lfT (T) P0 = true then 1 else 0)))) := by
  refine tr_ind (P := fun T => ∀ (k d : Nat) (N : Heap → Prop), fitT (T) k → d + k ≤ 16 → NS D N → (∀ H, N H → nodeAt D H (T)) → Ct l yX8_isLeafOf cX8_isLeafOf 3 (some .boolean) (rK (k + 1) 0 0) D ca ad ws n [.ref (adr (T) + 100), .int (nI P0)] N (pG ws N (some (.int (if lfT (T) P0 = true then 1 else 0))))) ?_ ?_ ?_ ?_ T hT
  · intro q k d N  hfit hdk hN hx
    refine enter (lv := [(0, .ref (adr (tE q) + 100)), (1, .int (nI P0))]) (by decide +kernel) (Nat.le_of_ble_eq_true rfl) rfl hAD (fun U hK => ns_write hK hN) ?_
    intro p e s m below meth c A args hA C hr hlk hnm
    refine sg0 C foX8 coX8 oX8_isLeafOf_0 rfl rfl hn ?_
    refine ni_n (ci := 0) C (fun H hH => hx H hH) rfl kl_X8_65 (by decide) jX8_isLeafOf_1 ?_
    refine b1_eq (tgt := 24) C jX8_isLeafOf_4 (by decide) (fun h4 => ?_) (fun h4 => ?_)
    · refine sg0 C foX8 coX8 oX8_isLeafOf_24 rfl rfl hn ?_
      exact rt_z C hr hlk (by decide) jX8_isLeafOf_25 (fun H hN => ⟨⟨by rfl, rfl⟩, hN⟩)
    · exact absurd h4 (by decide)
  · intro q d0 k d N  hfit hdk hN hx
    refine enter (lv := [(0, .ref (adr (tH q d0) + 100)), (1, .int (nI P0))]) (by decide +kernel) (Nat.le_of_ble_eq_true rfl) rfl hAD (fun U hK => ns_write hK hN) ?_
    intro p e s m below meth c A args hA C hr hlk hnm
    refine sg0 C foX8 coX8 oX8_isLeafOf_0 rfl rfl hn ?_
    refine ni_n (ci := 2) C (fun H hH => hx H hH) rfl kl_X8_65 (by decide) jX8_isLeafOf_1 ?_
    refine b1_eq (tgt := 24) C jX8_isLeafOf_4 (by decide) (fun h4 => ?_) (fun h4 => ?_)
    · refine sg0 C foX8 coX8 oX8_isLeafOf_24 rfl rfl hn ?_
      exact rt_z C hr hlk (by decide) jX8_isLeafOf_25 (fun H hN => ⟨⟨by rfl, rfl⟩, hN⟩)
    · exact absurd h4 (by decide)
  · intro q P v0 k d N  hfit hdk hN hx
    have hP : P < 65536 := hfit
    refine enter (lv := [(0, .ref (adr (tL q P v0) + 100)), (1, .int (nI P0))]) (by decide +kernel) (Nat.le_of_ble_eq_true rfl) rfl hAD (fun U hK => ns_write hK hN) ?_
    intro p e s m below meth c A args hA C hr hlk hnm
    refine sg0 C foX8 coX8 oX8_isLeafOf_0 rfl rfl hn ?_
    refine ni_y (ci := 3) C (fun H hH => hx H hH) rfl kl_X8_65 (by decide) jX8_isLeafOf_1 ?_
    refine b1_eq (tgt := 24) C jX8_isLeafOf_4 (by decide) (fun h4 => ?_) (fun h4 => ?_)
    · exact absurd h4 (by decide)
    · refine sg0 C foX8 coX8 oX8_isLeafOf_7 rfl rfl hn ?_
      refine nc_y (ci := 3) C (fun H hH => hx H hH) rfl kl_X8_65 (by decide) jX8_isLeafOf_8 ?_
      refine sg0 C foX8 coX8 oX8_isLeafOf_11 rfl rfl hn ?_
      refine ng (ci := 3) (k := 1) (v := .int (nI P)) C (fun H hH => hx H hH) rfl (by decide) fl_X8_136 rfl jX8_isLeafOf_13 ?_
      refine sg0 C foX8 coX8 oX8_isLeafOf_16 rfl rfl hn ?_
      refine b2_ne (tgt := 24) C jX8_isLeafOf_17 (by decide) (fun h17 => ?_) (fun h17 => ?_)
      · refine sg0 C foX8 coX8 oX8_isLeafOf_24 rfl rfl hn ?_
        exact rt_z C hr hlk (by decide) jX8_isLeafOf_25 (fun H hN => ⟨⟨by rw [if_neg (show ¬ lfT (tL q P v0) P0 = true by simp only [lfT, decide_eq_true_eq]; exact lf_ne hP0 hP h17)], rfl⟩, hN⟩)
      · refine sg0 C foX8 coX8 oX8_isLeafOf_20 rfl rfl hn ?_
        exact rt_z C hr hlk (by decide) jX8_isLeafOf_25 (fun H hN => ⟨⟨by rw [if_pos (show lfT (tL q P v0) P0 = true by simp only [lfT, decide_eq_true_eq]; exact lf_eq hP0 hP h17)], rfl⟩, hN⟩)
  · intro q B S x y hT1 hT2 i1 i2 k d N  hfit hdk hN hx
    obtain ⟨⟨hB, hkB, hS, hstm⟩, hfx, hfy⟩ := fitF hfit
    have hS2 := fitF2 hfit
    refine enter (lv := [(0, .ref (adr (tF q B S x y) + 100)), (1, .int (nI P0))]) (by decide +kernel) (Nat.le_of_ble_eq_true rfl) rfl hAD (fun U hK => ns_write hK hN) ?_
    intro p e s m below meth c A args hA C hr hlk hnm
    refine sg0 C foX8 coX8 oX8_isLeafOf_0 rfl rfl hn ?_
    refine ni_n (ci := 1) C (fun H hH => (hx H hH).1) rfl kl_X8_65 (by decide) jX8_isLeafOf_1 ?_
    refine b1_eq (tgt := 24) C jX8_isLeafOf_4 (by decide) (fun h4 => ?_) (fun h4 => ?_)
    · refine sg0 C foX8 coX8 oX8_isLeafOf_24 rfl rfl hn ?_
      exact rt_z C hr hlk (by decide) jX8_isLeafOf_25 (fun H hN => ⟨⟨by rfl, rfl⟩, hN⟩)
    · exact absurd h4 (by decide)
end
section
variable {p : Program} {l : Launch} {e : Env} {R : Room} {s : State} {m : MethodId} {args : Array Value} {below : List Frame} {meth : Method} {c : Code} {cells slots : Nat} {D : va_G} {ca : Nat → ClassId} {ad : Nat → Nat} {A : Nat → Prop} {N : Heap → Prop} {ws : List va_E} {n : Nat}
set_option maxRecDepth 100000 in
set_option maxHeartbeats 4000000 in
theorem lp_endOfWay (C : Cx p s m args c cX8_endOfWay 5 RX8 D ca ad A N n) (hr : meth.sig.returnType = some (.object "PathProofs$Node")) (hlk : meth.locks = false) (hAD : AD ad n) (hn : ws.length = n) (hN : NS D N) {G : Option Value → List va_E → Heap → Prop} {q0 P : Nat} (hP : P < 65536) (hR : 2 ≤ R.frames ∧ 80 ≤ R.locals ∧ cells ≤ R.cells ∧ slots ≤ R.slots) (T : Term) (hT : isT T) : ∀ (k d : Nat), fitT (T) k → d + k ≤ 16 → (∀ H, N H → nodeAt D H (T)) → (∀ H, N H → G (some (.ref (adr (wayT (T) P) + 100))) ws H) → Wa p l e R s m args below meth c cells slots (MQ below (CQ D ca ad G A) args s cells slots A) D ca ad A 5 N ([(0, .ref (q0 + 100)), (1, .int (nI P)), (2, .ref (adr (T) + 100)), (3, .int (nI d))], [], ws) 4 := by
  obtain ⟨hR1, hR2, hR3, hR4⟩ := hR
  refine tr_ind (P := fun T => ∀ (k d : Nat), fitT (T) k → d + k ≤ 16 → (∀ H, N H → nodeAt D H (T)) → (∀ H, N H → G (some (.ref (adr (wayT (T) P) + 100))) ws H) → Wa p l e R s m args below meth c cells slots (MQ below (CQ D ca ad G A) args s cells slots A) D ca ad A 5 N ([(0, .ref (q0 + 100)), (1, .int (nI P)), (2, .ref (adr (T) + 100)), (3, .int (nI d))], [], ws) 4) ?_ ?_ ?_ ?_ T hT
  · intro q k d hfit hdk hx hG
    refine sg0 C foX8 coX8 oX8_endOfWay_4 rfl rfl hn ?_
    refine b2_ge (tgt := 50) C jX8_endOfWay_7 (by decide) (fun h7 => ?_) (fun h7 => ?_)
    · refine sg0 C foX8 coX8 oX8_endOfWay_50 rfl rfl hn ?_
      exact rt_a C hr (Or.inl ⟨_, rfl⟩) hlk jX8_endOfWay_51 hG
    · refine sg0 C foX8 coX8 oX8_endOfWay_10 rfl rfl hn ?_
      refine ni_n (ci := 0) C (fun H hH => hx H hH) rfl kl_X8_167 (by decide) jX8_endOfWay_11 ?_
      refine b1_eq (tgt := 42) C jX8_endOfWay_14 (by decide) (fun h14 => ?_) (fun h14 => ?_)
      · refine sg0 C foX8 coX8 oX8_endOfWay_42 rfl rfl hn ?_
        exact rt_a C hr (Or.inl ⟨_, rfl⟩) hlk jX8_endOfWay_43 hG
      · exact absurd h14 (by decide)
  · intro q d0 k d hfit hdk hx hG
    refine sg0 C foX8 coX8 oX8_endOfWay_4 rfl rfl hn ?_
    refine b2_ge (tgt := 50) C jX8_endOfWay_7 (by decide) (fun h7 => ?_) (fun h7 => ?_)
    · refine sg0 C foX8 coX8 oX8_endOfWay_50 rfl rfl hn ?_
      exact rt_a C hr (Or.inl ⟨_, rfl⟩) hlk jX8_endOfWay_51 hG
    · refine sg0 C foX8 coX8 oX8_endOfWay_10 rfl rfl hn ?_
      refine ni_n (ci := 2) C (fun H hH => hx H hH) rfl kl_X8_167 (by decide) jX8_endOfWay_11 ?_
      refine b1_eq (tgt := 42) C jX8_endOfWay_14 (by decide) (fun h14 => ?_) (fun h14 => ?_)
      · refine sg0 C foX8 coX8 oX8_endOfWay_42 rfl rfl hn ?_
        exact rt_a C hr (Or.inl ⟨_, rfl⟩) hlk jX8_endOfWay_43 hG
      · exact absurd h14 (by decide)
  · intro q P v0 k d hfit hdk hx hG
    refine sg0 C foX8 coX8 oX8_endOfWay_4 rfl rfl hn ?_
    refine b2_ge (tgt := 50) C jX8_endOfWay_7 (by decide) (fun h7 => ?_) (fun h7 => ?_)
    · refine sg0 C foX8 coX8 oX8_endOfWay_50 rfl rfl hn ?_
      exact rt_a C hr (Or.inl ⟨_, rfl⟩) hlk jX8_endOfWay_51 hG
    · refine sg0 C foX8 coX8 oX8_endOfWay_10 rfl rfl hn ?_
      refine ni_n (ci := 3) C (fun H hH => hx H hH) rfl kl_X8_167 (by decide) jX8_endOfWay_11 ?_
      refine b1_eq (tgt := 42) C jX8_endOfWay_14 (by decide) (fun h14 => ?_) (fun h14 => ?_)
      · refine sg0 C foX8 coX8 oX8_endOfWay_42 rfl rfl hn ?_
        exact rt_a C hr (Or.inl ⟨_, rfl⟩) hlk jX8_endOfWay_43 hG
      · exact absurd h14 (by decide)
  · intro q B S x y hT1 hT2 i1 i2 k d hfit hdk hx hG
    obtain ⟨⟨hB, hkB, hS, hstm⟩, hfx, hfy⟩ := fitF hfit
    have hS2 := fitF2 hfit
    refine sg0 C foX8 coX8 oX8_endOfWay_4 rfl rfl hn ?_
    refine b2_ge (tgt := 50) C jX8_endOfWay_7 (by decide) (fun h7 => ?_) (fun h7 => ?_)
    · exact absurd h7 (by rw [show (16 : Int32) = nI 16 from rfl]; exact nI_ge (by omega) (by decide))
    · refine sg0 C foX8 coX8 oX8_endOfWay_10 rfl rfl hn ?_
      refine ni_y (ci := 1) C (fun H hH => (hx H hH).1) rfl kl_X8_167 (by decide) jX8_endOfWay_11 ?_
      refine b1_eq (tgt := 42) C jX8_endOfWay_14 (by decide) (fun h14 => ?_) (fun h14 => ?_)
      · exact absurd h14 (by decide)
      · refine sg0 C foX8 coX8 oX8_endOfWay_17 rfl rfl hn ?_
        refine nc_y (ci := 1) C (fun H hH => (hx H hH).1) rfl kl_X8_167 (by decide) jX8_endOfWay_18 ?_
        refine sg0 C foX8 coX8 oX8_endOfWay_21 rfl rfl hn ?_
        refine cl_v C (kX1_takesIn hAD hn hN (q := q) (B := B) (S := S) (fun H hH => (hx H hH).1) hP hB hS2) (nrc C (fun H hH => (hx H hH).1) rfl) cd_X1_takesIn in_X1 ml_X8_169 im_X1_takesIn se_X1_takesIn hd_X1_takesIn rfl rfl ⟨by show 1 + 1 ≤ R.frames; omega, by show 8 + (2 + 11) + 40 * 1 ≤ R.locals; omega⟩ ⟨by show cells + 0 ≤ R.cells; omega, by show slots + 0 ≤ R.slots; omega⟩ (Nat.le_of_ble_eq_true rfl) jX8_endOfWay_26 (fun v ws' => Wa.and (fun hv => ?_))
        obtain ⟨rfl, rfl⟩ := hv
        refine b1_eq (tgt := 42) C jX8_endOfWay_29 (by decide) (fun h29 => ?_) (fun h29 => ?_)
        · have hst : ¬ stm P B = S := fun e1 => by rw [if_pos e1] at h29; exact absurd h29 (by decide)
          refine sg0 C foX8 coX8 oX8_endOfWay_42 rfl rfl hn ?_
          exact rt_a C hr (Or.inl ⟨_, rfl⟩) hlk jX8_endOfWay_43 (fun H hH => by have h9 := hG H hH; rw [show wayT (tF q B S x y) P = tF q B S x y by simp only [wayT]; rw [if_neg hst]] at h9; exact h9)
        · have hst : stm P B = S := Decidable.byContradiction fun e1 => h29 (if_neg e1)
          refine sg0 C foX8 coX8 oX8_endOfWay_32 rfl rfl hn ?_
          refine cl_v C (kX1_toward hAD hn hN (q := q) (B := B) (S := S) (fun H hH => (hx H hH).1) hP hB) (nrc C (fun H hH => (hx H hH).1) rfl) cd_X1_toward in_X1 ml_X8_172 im_X1_toward se_X1_toward hd_X1_toward rfl rfl ⟨by show 1 + 1 ≤ R.frames; omega, by show 8 + (2 + 11) + 40 * 1 ≤ R.locals; omega⟩ ⟨by show cells + 0 ≤ R.cells; omega, by show slots + 0 ≤ R.slots; omega⟩ (Nat.le_of_ble_eq_true rfl) jX8_endOfWay_35 (fun v ws' => Wa.and (fun hv => ?_))
          obtain ⟨rfl, rfl⟩ := hv
          refine sg0 C foX8 coX8 oX8_endOfWay_38 rfl rfl hn ?_
          refine sg0 C foX8 coX8 oX8_endOfWay_44 rfl rfl hn ?_
          by_cases hb : bitA P B = 1
          · rw [if_pos hb, nI_1]
            refine Wa.lvp [0, 1, 2, 3] rfl (i2 (15 - B) (d + 1) hfy (by omega) (fun H hH => (hx H hH).2.2) (fun H hH => ?_))
            have h9 := hG H hH
            rw [show wayT (tF q B S x y) P = wayT y P by simp only [wayT]; rw [if_pos hst, if_pos hb]] at h9
            exact h9
          · rw [if_neg hb, nI_1]
            refine Wa.lvp [0, 1, 2, 3] rfl (i1 (15 - B) (d + 1) hfx (by omega) (fun H hH => (hx H hH).2.1) (fun H hH => ?_))
            have h9 := hG H hH
            rw [show wayT (tF q B S x y) P = wayT x P by simp only [wayT]; rw [if_pos hst, if_neg hb]] at h9
            exact h9
end
section
variable {l : Launch} {D : va_G} {ca : Nat → ClassId} {ad : Nat → Nat} {ws : List va_E} {n : Nat} {N : Heap → Prop}
set_option maxRecDepth 100000 in
set_option maxHeartbeats 4000000 in
theorem kX8_endOfWay (hAD : AD ad n) (hn : ws.length = n) (hN : NS D N) {T : Term} (hfit : fitT T 16) (hx : ∀ H, N H → nodeAt D H T) {P : Nat} (hP : P < 65536) : Ct l yX8_endOfWay cX8_endOfWay 5 (some (.object "PathProofs$Node")) (rK 2 0 0) D ca ad ws n [.ref (adr T + 100), .int (nI P)] N (pG ws N (some (.ref (adr (wayT T P) + 100)))) := by
  refine enter (lv := [(0, .ref (adr T + 100)), (1, .int (nI P))]) (by decide +kernel) (Nat.le_of_ble_eq_true rfl) rfl hAD (fun U hK => ns_write hK hN) ?_
  intro p e s m below meth c A args hA C hr hlk hnm
  refine sg0 C foX8 coX8 oX8_endOfWay_0 rfl rfl hn ?_
  exact lp_endOfWay C hr hlk hAD hn hN hP ⟨(Nat.le_of_ble_eq_true rfl), (Nat.le_of_ble_eq_true rfl), (Nat.le_of_ble_eq_true rfl), (Nat.le_of_ble_eq_true rfl)⟩ T (fit_T T _ hfit) 16 0 hfit (by decide) hx (fun H hH => ⟨⟨rfl, rfl⟩, hH⟩)
set_option maxRecDepth 100000 in
set_option maxHeartbeats 4000000 in
theorem kX8_forkOf (hAD : AD ad n) (hn : ws.length = n) (hN : NS D N) (hww : ws.all nno = true) {T : Term} {ql P pn : Nat} {v : Int64} (hx : ∀ H, N H → nodeAt D H T) (hl : ∀ H, N H → nodeAt D H (tL ql P v)) (hP : P < 65536) (hpn : pn < 65536) (hne : pn ≠ P) : Ct l yX8_forkOf cX8_forkOf 5 (some (.object "PathProofs$Node")) (rK 3 1 5) D ca ad ws n [.ref (adr T + 100), .int (nI pn), .ref (ql + 100)] N (nG D ws N (fun T2 => strp T2 = strp (fkT T pn P (tL ql P v)))) := by
  have hfb := fbit_spec hpn hP hne
  refine enter (lv := [(0, .ref (adr T + 100)), (1, .int (nI pn)), (2, .ref (ql + 100))]) (by decide +kernel) (Nat.le_of_ble_eq_true rfl) rfl hAD (fun U hK => ns_write hK hN) ?_
  intro p e s m below meth c A args hA C hr hlk hnm
  refine sg0 C foX8 coX8 oX8_forkOf_0 rfl rfl hn ?_
  refine ng (ci := 3) (k := 1) (v := .int (nI P)) C (fun H hH => hl H hH) rfl (by decide) fl_X8_136 rfl jX8_forkOf_2 ?_
  refine cl_s C (kX8_firstOtherBit hAD hn hN hpn hP) cd_X8_firstOtherBit in_X8 ml_X8_186 sm_X8_firstOtherBit hd_X8_firstOtherBit rfl rfl ⟨(Nat.le_of_ble_eq_true rfl), (Nat.le_of_ble_eq_true rfl)⟩ ⟨(Nat.le_of_ble_eq_true rfl), (Nat.le_of_ble_eq_true rfl)⟩ (Nat.le_of_ble_eq_true rfl) jX8_forkOf_5 (fun v ws' => Wa.and (fun hv => ?_))
  obtain ⟨rfl, rfl⟩ := hv
  refine sg0 C foX8 coX8 oX8_forkOf_8 rfl rfl hn ?_
  refine ng (ci := 3) (k := 1) (v := .int (nI P)) C (fun H hH => hl H hH) rfl (by decide) fl_X8_136 rfl jX8_forkOf_10 ?_
  refine sg0 C foX8 coX8 oX8_forkOf_13 rfl rfl hn ?_
  refine cl_s C (kX8_stemOf hAD hn hN hP (show fbit pn P ≤ 16 by omega)) cd_X8_stemOf in_X8 ml_X8_190 sm_X8_stemOf hd_X8_stemOf rfl rfl ⟨(Nat.le_of_ble_eq_true rfl), (Nat.le_of_ble_eq_true rfl)⟩ ⟨(Nat.le_of_ble_eq_true rfl), (Nat.le_of_ble_eq_true rfl)⟩ (Nat.le_of_ble_eq_true rfl) jX8_forkOf_14 (fun v ws' => Wa.and (fun hv => ?_))
  obtain ⟨rfl, rfl⟩ := hv
  refine sg0 C foX8 coX8 oX8_forkOf_17 rfl rfl hn ?_
  refine ng (ci := 3) (k := 1) (v := .int (nI P)) C (fun H hH => hl H hH) rfl (by decide) fl_X8_136 rfl jX8_forkOf_20 ?_
  refine sg0 C foX8 coX8 oX8_forkOf_23 rfl rfl hn ?_
  refine cl_s C (kX8_isHigh hAD hn hN hP hfb.1) cd_X8_isHigh in_X8 ml_X8_152 sm_X8_isHigh hd_X8_isHigh rfl rfl ⟨(Nat.le_of_ble_eq_true rfl), (Nat.le_of_ble_eq_true rfl)⟩ ⟨(Nat.le_of_ble_eq_true rfl), (Nat.le_of_ble_eq_true rfl)⟩ (Nat.le_of_ble_eq_true rfl) jX8_forkOf_24 (fun v ws' => Wa.and (fun hv => ?_))
  obtain ⟨rfl, rfl⟩ := hv
  refine b1_eq (tgt := 43) C jX8_forkOf_27 (by decide) (fun h27 => ?_) (fun h27 => ?_)
  · refine nw (ci := 1) (fs := [.long 0, .int 0, .int 0, .null, .null]) C hN rfl (by decide) kl_X8_167 is_X1 in_X1 tyX1 tyX1_ok dfX1 ⟨(Nat.le_of_ble_eq_true rfl), (Nat.le_of_ble_eq_true rfl)⟩ jX8_forkOf_43 (fun H1 q1 hN_q1 hq1 => ?_)
    have C := C.to (N2 := BN D H1 q1 1 [.long 0, .int 0, .int 0, .null, .null]) BN.ns
    refine sg0 C foX8 coX8 oX8_forkOf_46 rfl rfl hn ?_
    refine cl_i C (kX1_init hAD hn hww (fbit pn P) (stm P (fbit pn P)) (x := (tL ql P v)) (y := T) (hl H1 hN_q1) (hx H1 hN_q1)) (C.2.2.2.2.2 _ hq1) cd_X1_init in_X1 ml_X8_193 im_X1_init rfl hd_X1_init rfl rfl ⟨(Nat.le_of_ble_eq_true rfl), (Nat.le_of_ble_eq_true rfl)⟩ ⟨(Nat.le_of_ble_eq_true rfl), (Nat.le_of_ble_eq_true rfl)⟩ (Nat.le_of_ble_eq_true rfl) jX8_forkOf_52 (fun v ws' => Wa.and (fun hv => ?_))
    obtain ⟨rfl, rfl⟩ := hv
    have C := C.to (N2 := BN D H1 q1 1 [.long (forkF (fbit pn P) (stm P (fbit pn P)) (dig ((tL ql P v))) (dig (T))), .int (nI (fbit pn P)), .int (nI (stm P (fbit pn P))), .ref (adr ((tL ql P v))), .ref (adr (T))]) BN.ns
    exact rt_a C hr (Or.inl ⟨_, rfl⟩) hlk jX8_forkOf_55 (fun H hH => ⟨tF q1 (fbit pn P) (stm P (fbit pn P)) (tL ql P v) T, ⟨rfl, rfl, by unfold fkT; rw [if_neg (bz h27)]; rfl⟩, hN _ _ hN_q1 hH.2.1, hH.2.2, nodeAt.ns (tL ql P v) _ _ (hl H1 hN_q1) hH.2.1, nodeAt.ns T _ _ (hx H1 hN_q1) hH.2.1⟩)
  · refine nw (ci := 1) (fs := [.long 0, .int 0, .int 0, .null, .null]) C hN rfl (by decide) kl_X8_167 is_X1 in_X1 tyX1 tyX1_ok dfX1 ⟨(Nat.le_of_ble_eq_true rfl), (Nat.le_of_ble_eq_true rfl)⟩ jX8_forkOf_30 (fun H1 q1 hN_q1 hq1 => ?_)
    have C := C.to (N2 := BN D H1 q1 1 [.long 0, .int 0, .int 0, .null, .null]) BN.ns
    refine sg0 C foX8 coX8 oX8_forkOf_33 rfl rfl hn ?_
    refine cl_i C (kX1_init hAD hn hww (fbit pn P) (stm P (fbit pn P)) (x := T) (y := (tL ql P v)) (hx H1 hN_q1) (hl H1 hN_q1)) (C.2.2.2.2.2 _ hq1) cd_X1_init in_X1 ml_X8_193 im_X1_init rfl hd_X1_init rfl rfl ⟨(Nat.le_of_ble_eq_true rfl), (Nat.le_of_ble_eq_true rfl)⟩ ⟨(Nat.le_of_ble_eq_true rfl), (Nat.le_of_ble_eq_true rfl)⟩ (Nat.le_of_ble_eq_true rfl) jX8_forkOf_39 (fun v ws' => Wa.and (fun hv => ?_))
    obtain ⟨rfl, rfl⟩ := hv
    have C := C.to (N2 := BN D H1 q1 1 [.long (forkF (fbit pn P) (stm P (fbit pn P)) (dig (T)) (dig ((tL ql P v)))), .int (nI (fbit pn P)), .int (nI (stm P (fbit pn P))), .ref (adr (T)), .ref (adr ((tL ql P v)))]) BN.ns
    exact rt_a C hr (Or.inl ⟨_, rfl⟩) hlk jX8_forkOf_42 (fun H hH => ⟨tF q1 (fbit pn P) (stm P (fbit pn P)) T (tL ql P v), ⟨rfl, rfl, by unfold fkT; rw [if_pos (bo h27)]; rfl⟩, hN _ _ hN_q1 hH.2.1, hH.2.2, nodeAt.ns T _ _ (hx H1 hN_q1) hH.2.1, nodeAt.ns (tL ql P v) _ _ (hl H1 hN_q1) hH.2.1⟩)
end
