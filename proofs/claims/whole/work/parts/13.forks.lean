/-! forks: their constructor and methods; the first other bit -/
theorem dfX3 : ∀ j, j < 3 → defaultValue (tyX3 j) = vp_V [.long 0, .int 0, .long 0] j := fun j hj => by rcases (show j = 0 ∨ j = 1 ∨ j = 2 by omega) with rfl | rfl | rfl <;> rfl
theorem dfX1 : ∀ j, j < 5 → defaultValue (tyX1 j) = vp_V [.long 0, .int 0, .int 0, .null, .null] j := fun j hj => by rcases (show j = 0 ∨ j = 1 ∨ j = 2 ∨ j = 3 ∨ j = 4 by omega) with rfl | rfl | rfl | rfl | rfl <;> rfl
theorem bz {P B : Nat} (h : nI (bitA P B) = 0) : ¬ bitA P B = 1 := fun e1 => by rw [e1] at h; exact absurd h (by decide)
theorem bo {P B : Nat} (h : ¬ nI (bitA P B) = 0) : bitA P B = 1 := by
  have h1 := bitA_lt P B
  rcases (show bitA P B = 0 ∨ bitA P B = 1 by omega) with e1 | e1
  · rw [e1] at h; exact absurd rfl h
  · exact e1
section
variable {l : Launch} {D : va_G} {ca : Nat → ClassId} {ad : Nat → Nat} {ws : List va_E} {n : Nat} {N : Heap → Prop}
set_option maxRecDepth 100000 in
set_option maxHeartbeats 4000000 in
theorem kX1_takesIn (hAD : AD ad n) (hn : ws.length = n) (hN : NS D N) {q B S ql qh : Nat} {dg : Int64} (hat : ∀ H, N H → va_at D vwCl (q, .inr (1, [.long dg, .int (nI B), .int (nI S), .ref ql, .ref qh])) H) {P : Nat} (hP : P < 65536) (hB : B ≤ 15) (hS : S < 65536) : Ct l yX1_takesIn cX1_takesIn 2 (some .boolean) (rK 1 0 0) D ca ad ws n [.ref (q + 100), .int (nI P)] N (pG ws N (some (.int (if stm P B = S then 1 else 0)))) := by
  refine enter (lv := [(0, .ref (q + 100)), (1, .int (nI P))]) (by decide +kernel) (Nat.le_of_ble_eq_true rfl) rfl hAD (fun U hK => ns_write hK hN) ?_
  intro p e s m below meth c A args hA C hr hlk hnm
  refine sg0 C foX1 coX1 oX1_takesIn_0 rfl rfl hn ?_
  refine ng (ci := 1) (k := 1) (v := .int (nI B)) C (hat) rfl (by decide) fl_X1_17 rfl jX1_takesIn_2 ?_
  refine cl_sn C (kX8_stemOf hAD hn hN hP (show B ≤ 16 by omega)) cd_X8_stemOf in_X8 (by decide) sm_X8_stemOf hd_X8_stemOf rfl rfl ⟨(Nat.le_of_ble_eq_true rfl), (Nat.le_of_ble_eq_true rfl)⟩ ⟨(Nat.le_of_ble_eq_true rfl), (Nat.le_of_ble_eq_true rfl)⟩ (Nat.le_of_ble_eq_true rfl) jX1_takesIn_5 (fun v ws' => Wa.and (fun hv => ?_))
  obtain ⟨rfl, rfl⟩ := hv
  refine sg0 C foX1 coX1 oX1_takesIn_8 rfl rfl hn ?_
  refine ng (ci := 1) (k := 2) (v := .int (nI S)) C (hat) rfl (by decide) fl_X1_23 rfl jX1_takesIn_9 ?_
  refine b2_ne (tgt := 19) C jX1_takesIn_12 (by decide) (fun h12 => ?_) (fun h12 => ?_)
  · refine sg0 C foX1 coX1 oX1_takesIn_19 rfl rfl hn ?_
    exact rt_z C hr hlk (by decide) jX1_takesIn_20 (fun H hN => ⟨⟨by rw [if_neg (fun e1 => h12 (by rw [e1]))], rfl⟩, hN⟩)
  · refine sg0 C foX1 coX1 oX1_takesIn_15 rfl rfl hn ?_
    exact rt_z C hr hlk (by decide) jX1_takesIn_20 (fun H hN => ⟨⟨by rw [if_pos ((nI_eq (Nat.lt_of_le_of_lt (stm_le P B) (by omega)) (by omega)).mp h12)], rfl⟩, hN⟩)
set_option maxRecDepth 100000 in
set_option maxHeartbeats 4000000 in
theorem kX1_middle (hAD : AD ad n) (hn : ws.length = n) (hN : NS D N) {q B S ql qh : Nat} {dg : Int64} (hat : ∀ H, N H → va_at D vwCl (q, .inr (1, [.long dg, .int (nI B), .int (nI S), .ref ql, .ref qh])) H) (hB : B ≤ 15) : Ct l yX1_middle cX1_middle 1 (some .int) (rK 0 0 0) D ca ad ws n [.ref (q + 100)] N (pG ws N (some (.int (nI (S + 2 ^ (15 - B)))))) := by
  refine enter (lv := [(0, .ref (q + 100))]) (by decide +kernel) (Nat.le_of_ble_eq_true rfl) rfl hAD (fun U hK => ns_write hK hN) ?_
  intro p e s m below meth c A args hA C hr hlk hnm
  refine sg0 C foX1 coX1 oX1_middle_0 rfl rfl hn ?_
  refine ng (ci := 1) (k := 2) (v := .int (nI S)) C (hat) rfl (by decide) fl_X1_23 rfl jX1_middle_1 ?_
  refine sg0 C foX1 coX1 oX1_middle_4 rfl rfl hn ?_
  refine ng (ci := 1) (k := 1) (v := .int (nI B)) C (hat) rfl (by decide) fl_X1_17 rfl jX1_middle_8 ?_
  refine sg0 C foX1 coX1 oX1_middle_11 rfl rfl hn ?_
  exact rt_i C hr hlk jX1_middle_14 (fun H hN => ⟨⟨by rw [one_shl15 hB, nI_add], rfl⟩, hN⟩)
set_option maxRecDepth 100000 in
set_option maxHeartbeats 4000000 in
theorem kX1_last (hAD : AD ad n) (hn : ws.length = n) (hN : NS D N) {q B S ql qh : Nat} {dg : Int64} (hat : ∀ H, N H → va_at D vwCl (q, .inr (1, [.long dg, .int (nI B), .int (nI S), .ref ql, .ref qh])) H) (hB : B ≤ 15) : Ct l yX1_last cX1_last 1 (some .int) (rK 0 0 0) D ca ad ws n [.ref (q + 100)] N (pG ws N (some (.int (nI (S + 2 ^ (16 - B) - 1))))) := by
  refine enter (lv := [(0, .ref (q + 100))]) (by decide +kernel) (Nat.le_of_ble_eq_true rfl) rfl hAD (fun U hK => ns_write hK hN) ?_
  intro p e s m below meth c A args hA C hr hlk hnm
  refine sg0 C foX1 coX1 oX1_last_0 rfl rfl hn ?_
  refine ng (ci := 1) (k := 2) (v := .int (nI S)) C (hat) rfl (by decide) fl_X1_23 rfl jX1_last_1 ?_
  refine sg0 C foX1 coX1 oX1_last_4 rfl rfl hn ?_
  refine ng (ci := 1) (k := 1) (v := .int (nI B)) C (hat) rfl (by decide) fl_X1_17 rfl jX1_last_8 ?_
  refine sg0 C foX1 coX1 oX1_last_11 rfl rfl hn ?_
  exact rt_i C hr hlk jX1_last_16 (fun H hN => ⟨⟨by rw [one_shl16 (show B ≤ 16 by omega), nI_add, show (1 : Int32) = nI 1 from rfl, pk_sub (Nat.le_trans (Nat.one_le_two_pow) (Nat.le_add_left _ _))], rfl⟩, hN⟩)
set_option maxRecDepth 100000 in
set_option maxHeartbeats 4000000 in
theorem kX1_toward (hAD : AD ad n) (hn : ws.length = n) (hN : NS D N) {q B S ql qh : Nat} {dg : Int64} (hat : ∀ H, N H → va_at D vwCl (q, .inr (1, [.long dg, .int (nI B), .int (nI S), .ref ql, .ref qh])) H) {P : Nat} (hP : P < 65536) (hB : B ≤ 15) : Ct l yX1_toward cX1_toward 2 (some (.object "PathProofs$Node")) (rK 1 0 0) D ca ad ws n [.ref (q + 100), .int (nI P)] N (pG ws N (some (.ref ((if bitA P B = 1 then qh else ql) + 100)))) := by
  refine enter (lv := [(0, .ref (q + 100)), (1, .int (nI P))]) (by decide +kernel) (Nat.le_of_ble_eq_true rfl) rfl hAD (fun U hK => ns_write hK hN) ?_
  intro p e s m below meth c A args hA C hr hlk hnm
  refine sg0 C foX1 coX1 oX1_toward_0 rfl rfl hn ?_
  refine ng (ci := 1) (k := 1) (v := .int (nI B)) C (hat) rfl (by decide) fl_X1_17 rfl jX1_toward_2 ?_
  refine cl_sn C (kX8_isHigh hAD hn hN hP hB) cd_X8_isHigh in_X8 (by decide) sm_X8_isHigh hd_X8_isHigh rfl rfl ⟨(Nat.le_of_ble_eq_true rfl), (Nat.le_of_ble_eq_true rfl)⟩ ⟨(Nat.le_of_ble_eq_true rfl), (Nat.le_of_ble_eq_true rfl)⟩ (Nat.le_of_ble_eq_true rfl) jX1_toward_5 (fun v ws' => Wa.and (fun hv => ?_))
  obtain ⟨rfl, rfl⟩ := hv
  refine b1_eq (tgt := 18) C jX1_toward_8 (by decide) (fun h8 => ?_) (fun h8 => ?_)
  · refine sg0 C foX1 coX1 oX1_toward_18 rfl rfl hn ?_
    refine ng (ci := 1) (k := 3) (v := .ref (ql + 100)) C (hat) rfl (by decide) fl_X1_26 (by rw [cv_raw C]; rfl) jX1_toward_19 ?_
    exact rt_a C hr (Or.inl ⟨_, rfl⟩) hlk jX1_toward_22 (fun H hN => ⟨⟨by rw [if_neg (bz h8)], rfl⟩, hN⟩)
  · refine sg0 C foX1 coX1 oX1_toward_11 rfl rfl hn ?_
    refine ng (ci := 1) (k := 4) (v := .ref (qh + 100)) C (hat) rfl (by decide) fl_X1_30 (by rw [cv_raw C]; rfl) jX1_toward_12 ?_
    refine sg0 C foX1 coX1 oX1_toward_15 rfl rfl hn ?_
    exact rt_a C hr (Or.inl ⟨_, rfl⟩) hlk jX1_toward_22 (fun H hN => ⟨⟨by rw [if_pos (bo h8)], rfl⟩, hN⟩)
set_option maxRecDepth 100000 in
set_option maxHeartbeats 4000000 in
theorem kX1_besides (hAD : AD ad n) (hn : ws.length = n) (hN : NS D N) {q B S ql qh : Nat} {dg : Int64} (hat : ∀ H, N H → va_at D vwCl (q, .inr (1, [.long dg, .int (nI B), .int (nI S), .ref ql, .ref qh])) H) {P : Nat} (hP : P < 65536) (hB : B ≤ 15) : Ct l yX1_besides cX1_besides 2 (some (.object "PathProofs$Node")) (rK 1 0 0) D ca ad ws n [.ref (q + 100), .int (nI P)] N (pG ws N (some (.ref ((if bitA P B = 1 then ql else qh) + 100)))) := by
  refine enter (lv := [(0, .ref (q + 100)), (1, .int (nI P))]) (by decide +kernel) (Nat.le_of_ble_eq_true rfl) rfl hAD (fun U hK => ns_write hK hN) ?_
  intro p e s m below meth c A args hA C hr hlk hnm
  refine sg0 C foX1 coX1 oX1_besides_0 rfl rfl hn ?_
  refine ng (ci := 1) (k := 1) (v := .int (nI B)) C (hat) rfl (by decide) fl_X1_17 rfl jX1_besides_2 ?_
  refine cl_sn C (kX8_isHigh hAD hn hN hP hB) cd_X8_isHigh in_X8 (by decide) sm_X8_isHigh hd_X8_isHigh rfl rfl ⟨(Nat.le_of_ble_eq_true rfl), (Nat.le_of_ble_eq_true rfl)⟩ ⟨(Nat.le_of_ble_eq_true rfl), (Nat.le_of_ble_eq_true rfl)⟩ (Nat.le_of_ble_eq_true rfl) jX1_besides_5 (fun v ws' => Wa.and (fun hv => ?_))
  obtain ⟨rfl, rfl⟩ := hv
  refine b1_eq (tgt := 18) C jX1_besides_8 (by decide) (fun h8 => ?_) (fun h8 => ?_)
  · refine sg0 C foX1 coX1 oX1_besides_18 rfl rfl hn ?_
    refine ng (ci := 1) (k := 4) (v := .ref (qh + 100)) C (hat) rfl (by decide) fl_X1_30 (by rw [cv_raw C]; rfl) jX1_besides_19 ?_
    exact rt_a C hr (Or.inl ⟨_, rfl⟩) hlk jX1_besides_22 (fun H hN => ⟨⟨by rw [if_neg (bz h8)], rfl⟩, hN⟩)
  · refine sg0 C foX1 coX1 oX1_besides_11 rfl rfl hn ?_
    refine ng (ci := 1) (k := 3) (v := .ref (ql + 100)) C (hat) rfl (by decide) fl_X1_26 (by rw [cv_raw C]; rfl) jX1_besides_12 ?_
    refine sg0 C foX1 coX1 oX1_besides_15 rfl rfl hn ?_
    exact rt_a C hr (Or.inl ⟨_, rfl⟩) hlk jX1_besides_22 (fun H hN => ⟨⟨by rw [if_pos (bo h8)], rfl⟩, hN⟩)
end
section
variable {l : Launch} {D : va_G} {ca : Nat → ClassId} {ad : Nat → Nat} {ws : List va_E} {n q : Nat} {H0 : Heap}
set_option maxRecDepth 100000 in
set_option maxHeartbeats 4000000 in
theorem kX1_init (hAD : AD ad n) (hn : ws.length = n) (hww : ws.all nno = true) (B S : Nat) {x y : Term} (hx : nodeAt D H0 x) (hy : nodeAt D H0 y) : CtI l yX1_init cX1_init 5 (rK 2 0 0) D ca ad ws n q [.ref (q + 100), .int (nI B), .int (nI S), .ref (adr x + 100), .ref (adr y + 100)] (BN D H0 q 1 [.long 0, .int 0, .int 0, .null, .null]) (bG D ws H0 q 1 [.long (forkF B S (dig x) (dig y)), .int (nI B), .int (nI S), .ref (adr x), .ref (adr y)]) := by
  obtain ⟨cx, rx, fx, x1, x2, x3, x4, x5, x6⟩ := dig_at hx
  obtain ⟨cy, ry, fy, y1, y2, y3, y4, y5, y6⟩ := dig_at hy
  refine enterI (lv := [(0, .ref (q + 100)), (1, .int (nI B)), (2, .int (nI S)), (3, .ref (adr x + 100)), (4, .ref (adr y + 100))]) (by decide +kernel) (Nat.le_of_ble_eq_true rfl) rfl hAD (fun U hK => ns_write hK BN.ns) ?_
  intro p e s m below meth c A args hA C hr hlk hnm
  refine sg0 C foX1 coX1 oX1_init_0 rfl rfl hn ?_
  refine ng (ci := cx) (k := 0) (v := .long (dig x)) C (fun H hH => at_snap x1 x5 hH.2.1) x2 x3 (by rw [x4]; exact fl_X1_3) x6 jX1_init_4 ?_
  refine sg0 C foX1 coX1 oX1_init_7 rfl rfl hn ?_
  refine ng (ci := cy) (k := 0) (v := .long (dig y)) C (fun H hH => at_snap y1 y5 hH.2.1) y2 y3 (by rw [y4]; exact fl_X1_3) y6 jX1_init_9 ?_
  refine cl_sn C (kX8_forkDigest hAD hn BN.ns B S (dig x) (dig y)) cd_X8_forkDigest in_X8 (by decide) sm_X8_forkDigest hd_X8_forkDigest rfl rfl ⟨Nat.le_of_ble_eq_true rfl, Nat.le_of_ble_eq_true rfl⟩ ⟨Nat.le_of_ble_eq_true rfl, Nat.le_of_ble_eq_true rfl⟩ (Nat.le_of_ble_eq_true rfl) jX1_init_12 (fun v ws' => Wa.and (fun hv => ?_))
  obtain ⟨rfl, rfl⟩ := hv
  refine cl_i C (kX4_init hAD hn hww (ci := 1) rfl (by decide) (by simp) rfl (forkF B S (dig x) (dig y))) hA cd_X4_init in_X4 ml_X1_13 im_X4_init rfl hd_X4_init rfl rfl ⟨Nat.le_of_ble_eq_true rfl, Nat.le_of_ble_eq_true rfl⟩ ⟨Nat.le_of_ble_eq_true rfl, Nat.le_of_ble_eq_true rfl⟩ (Nat.le_of_ble_eq_true rfl) jX1_init_15 (fun v ws' => Wa.and (fun hv => ?_))
  obtain ⟨rfl, rfl⟩ := hv
  have C := C.to (N2 := BN D H0 q 1 [.long (forkF B S (dig x) (dig y)), .int 0, .int 0, .null, .null]) BN.ns
  refine sg0 C foX1 coX1 oX1_init_18 rfl rfl hn ?_
  refine np (k := 1) (ty := .int) C (fun _ h => h) hww rfl (by decide) fl_X1_17 rfl hnm rfl (by decide +kernel) rfl rfl (by simp) hA jX1_init_20 ?_
  have C := C.to (N2 := BN D H0 q 1 [.long (forkF B S (dig x) (dig y)), .int (nI B), .int 0, .null, .null]) BN.ns
  refine sg0 C foX1 coX1 oX1_init_23 rfl rfl hn ?_
  refine np (k := 2) (ty := .int) C (fun _ h => h) hww rfl (by decide) fl_X1_23 rfl hnm rfl (by decide +kernel) rfl rfl (by simp) hA jX1_init_25 ?_
  have C := C.to (N2 := BN D H0 q 1 [.long (forkF B S (dig x) (dig y)), .int (nI B), .int (nI S), .null, .null]) BN.ns
  refine sg0 C foX1 coX1 oX1_init_28 rfl rfl hn ?_
  refine np (k := 3) (ty := .object "PathProofs$Node") C (fun _ h => h) hww rfl (by decide) fl_X1_26 rfl hnm rfl (by decide +kernel) rfl rfl (by simp) hA jX1_init_30 ?_
  rw [cv_raw C]
  have C := C.to (N2 := BN D H0 q 1 [.long (forkF B S (dig x) (dig y)), .int (nI B), .int (nI S), .ref (adr x), .null]) BN.ns
  refine sg0 C foX1 coX1 oX1_init_33 rfl rfl hn ?_
  refine np (k := 4) (ty := .object "PathProofs$Node") C (fun _ h => h) hww rfl (by decide) fl_X1_30 rfl hnm rfl (by decide +kernel) rfl rfl (by simp) hA jX1_init_36 ?_
  rw [cv_raw C]
  have C := C.to (N2 := BN D H0 q 1 [.long (forkF B S (dig x) (dig y)), .int (nI B), .int (nI S), .ref (adr x), .ref (adr y)]) BN.ns
  exact rt_v C hr hlk jX1_init_39 (fun H hN => ⟨⟨rfl, rfl⟩, hN⟩)
end
/-- a method that answers with a node, made or not: what it is; nothing that was there has changed -/
abbrev nG (D : va_G) (ws : List va_E) (N : Heap → Prop) (K : Term → Prop) : Option Value → List va_E → Heap → Prop := fun v ws' H => ∃ T : Term, (v = some (.ref (adr T + 100)) ∧ ws' = ws ∧ K T) ∧ N H ∧ nodeAt D H T
section
variable {l : Launch} {D : va_G} {ca : Nat → ClassId} {ad : Nat → Nat} {ws : List va_E} {n : Nat} {N : Heap → Prop}
set_option maxRecDepth 100000 in
set_option maxHeartbeats 4000000 in
theorem kX1_with (hAD : AD ad n) (hn : ws.length = n) (hN : NS D N) (hww : ws.all nno = true) {q B S : Nat} {x y z : Term} (hx : ∀ H, N H → nodeAt D H (tF q B S x y)) (hz : ∀ H, N H → nodeAt D H z) {P : Nat} (hP : P < 65536) (hB : B ≤ 15) : Ct l yX1_with cX1_with 3 (some (.object "PathProofs$Fork")) (rK 3 1 5) D ca ad ws n [.ref (q + 100), .int (nI P), .ref (adr z + 100)] N (nG D ws N (fun T => (∃ q2, bitA P B = 1 ∧ T = tF q2 B S x z) ∨ ∃ q2, ¬ bitA P B = 1 ∧ T = tF q2 B S z y)) := by
  refine enter (lv := [(0, .ref (q + 100)), (1, .int (nI P)), (2, .ref (adr z + 100))]) (by decide +kernel) (Nat.le_of_ble_eq_true rfl) rfl hAD (fun U hK => ns_write hK hN) ?_
  intro p e s m below meth c A args hA C hr hlk hnm
  refine sg0 C foX1 coX1 oX1_with_0 rfl rfl hn ?_
  refine ng (ci := 1) (k := 1) (v := .int (nI B)) C (fun H hH => (hx H hH).1) rfl (by decide) fl_X1_17 rfl jX1_with_2 ?_
  refine cl_sn C (kX8_isHigh hAD hn hN hP hB) cd_X8_isHigh in_X8 (by decide) sm_X8_isHigh hd_X8_isHigh rfl rfl ⟨(Nat.le_of_ble_eq_true rfl), (Nat.le_of_ble_eq_true rfl)⟩ ⟨(Nat.le_of_ble_eq_true rfl), (Nat.le_of_ble_eq_true rfl)⟩ (Nat.le_of_ble_eq_true rfl) jX1_with_5 (fun v ws' => Wa.and (fun hv => ?_))
  obtain ⟨rfl, rfl⟩ := hv
  refine b1_eq (tgt := 32) C jX1_with_8 (by decide) (fun h8 => ?_) (fun h8 => ?_)
  · refine nw (ci := 1) (fs := [.long 0, .int 0, .int 0, .null, .null]) C hN rfl (by decide) kl_X1_18 is_X1 in_X1 tyX1 tyX1_ok dfX1 ⟨(Nat.le_of_ble_eq_true rfl), (Nat.le_of_ble_eq_true rfl)⟩ jX1_with_32 (fun H1 q1 hN_q1 hq1 => ?_)
    have C := C.to (N2 := BN D H1 q1 1 [.long 0, .int 0, .int 0, .null, .null]) BN.ns
    refine sg0 C foX1 coX1 oX1_with_35 rfl rfl hn ?_
    refine ng (ci := 1) (k := 1) (v := .int (nI B)) C (fun H hH => at_snap (by decide) (hx H1 hN_q1).1 hH.2.1) rfl (by decide) fl_X1_17 rfl jX1_with_37 ?_
    refine sg0 C foX1 coX1 oX1_with_40 rfl rfl hn ?_
    refine ng (ci := 1) (k := 2) (v := .int (nI S)) C (fun H hH => at_snap (by decide) (hx H1 hN_q1).1 hH.2.1) rfl (by decide) fl_X1_23 rfl jX1_with_41 ?_
    refine sg0 C foX1 coX1 oX1_with_44 rfl rfl hn ?_
    refine ng (ci := 1) (k := 4) (v := .ref (adr y + 100)) C (fun H hH => at_snap (by decide) (hx H1 hN_q1).1 hH.2.1) rfl (by decide) fl_X1_30 (by rw [cv_raw C]; rfl) jX1_with_46 ?_
    refine cl_i C (kX1_init hAD hn hww B S (x := z) (y := y) (hz H1 hN_q1) (hx H1 hN_q1).2.2) (C.2.2.2.2.2 _ hq1) cd_X1_init in_X1 ml_X1_41 im_X1_init rfl hd_X1_init rfl rfl ⟨(Nat.le_of_ble_eq_true rfl), (Nat.le_of_ble_eq_true rfl)⟩ ⟨(Nat.le_of_ble_eq_true rfl), (Nat.le_of_ble_eq_true rfl)⟩ (Nat.le_of_ble_eq_true rfl) jX1_with_49 (fun v ws' => Wa.and (fun hv => ?_))
    obtain ⟨rfl, rfl⟩ := hv
    have C := C.to (N2 := BN D H1 q1 1 [.long (forkF B S (dig z) (dig y)), .int (nI B), .int (nI S), .ref (adr z), .ref (adr y)]) BN.ns
    exact rt_a C hr (Or.inl ⟨_, rfl⟩) hlk jX1_with_52 (fun H hH => ⟨tF q1 B S z y, ⟨rfl, rfl, Or.inr ⟨q1, bz h8, rfl⟩⟩, hN _ _ hN_q1 hH.2.1, hH.2.2, nodeAt.ns z _ _ (hz H1 hN_q1) hH.2.1, nodeAt.ns y _ _ (hx H1 hN_q1).2.2 hH.2.1⟩)
  · refine nw (ci := 1) (fs := [.long 0, .int 0, .int 0, .null, .null]) C hN rfl (by decide) kl_X1_18 is_X1 in_X1 tyX1 tyX1_ok dfX1 ⟨(Nat.le_of_ble_eq_true rfl), (Nat.le_of_ble_eq_true rfl)⟩ jX1_with_11 (fun H1 q1 hN_q1 hq1 => ?_)
    have C := C.to (N2 := BN D H1 q1 1 [.long 0, .int 0, .int 0, .null, .null]) BN.ns
    refine sg0 C foX1 coX1 oX1_with_14 rfl rfl hn ?_
    refine ng (ci := 1) (k := 1) (v := .int (nI B)) C (fun H hH => at_snap (by decide) (hx H1 hN_q1).1 hH.2.1) rfl (by decide) fl_X1_17 rfl jX1_with_16 ?_
    refine sg0 C foX1 coX1 oX1_with_19 rfl rfl hn ?_
    refine ng (ci := 1) (k := 2) (v := .int (nI S)) C (fun H hH => at_snap (by decide) (hx H1 hN_q1).1 hH.2.1) rfl (by decide) fl_X1_23 rfl jX1_with_20 ?_
    refine sg0 C foX1 coX1 oX1_with_23 rfl rfl hn ?_
    refine ng (ci := 1) (k := 3) (v := .ref (adr x + 100)) C (fun H hH => at_snap (by decide) (hx H1 hN_q1).1 hH.2.1) rfl (by decide) fl_X1_26 (by rw [cv_raw C]; rfl) jX1_with_24 ?_
    refine sg0 C foX1 coX1 oX1_with_27 rfl rfl hn ?_
    refine cl_i C (kX1_init hAD hn hww B S (x := x) (y := z) (hx H1 hN_q1).2.1 (hz H1 hN_q1)) (C.2.2.2.2.2 _ hq1) cd_X1_init in_X1 ml_X1_41 im_X1_init rfl hd_X1_init rfl rfl ⟨(Nat.le_of_ble_eq_true rfl), (Nat.le_of_ble_eq_true rfl)⟩ ⟨(Nat.le_of_ble_eq_true rfl), (Nat.le_of_ble_eq_true rfl)⟩ (Nat.le_of_ble_eq_true rfl) jX1_with_28 (fun v ws' => Wa.and (fun hv => ?_))
    obtain ⟨rfl, rfl⟩ := hv
    have C := C.to (N2 := BN D H1 q1 1 [.long (forkF B S (dig x) (dig z)), .int (nI B), .int (nI S), .ref (adr x), .ref (adr z)]) BN.ns
    exact rt_a C hr (Or.inl ⟨_, rfl⟩) hlk jX1_with_31 (fun H hH => ⟨tF q1 B S x z, ⟨rfl, rfl, Or.inl ⟨q1, bo h8, rfl⟩⟩, hN _ _ hN_q1 hH.2.1, hH.2.2, nodeAt.ns x _ _ (hx H1 hN_q1).2.1 hH.2.1, nodeAt.ns z _ _ (hz H1 hN_q1) hH.2.1⟩)
end
section
variable {p : Program} {l : Launch} {e : Env} {R : Room} {s : State} {m : MethodId} {args : Array Value} {below : List Frame} {meth : Method} {c : Code} {cells slots : Nat} {QQ : State → Prop} {D : va_G} {ca : Nat → ClassId} {ad : Nat → Nat} {A : Nat → Prop} {N : Heap → Prop} {ws : List va_E} {n : Nat}
theorem bits_eq {P Q k : Nat} (hk : k + 1 ≤ 16) (h : P / 2 ^ (k + 1) = Q / 2 ^ (k + 1)) (hb : nI (bitA P (16 - (k + 1))) = nI (bitA Q (16 - (k + 1)))) : P / 2 ^ k = Q / 2 ^ k := by
  refine (bit_split h).mpr ?_
  have h1 := (nI_eq (Nat.lt_trans (bitA_lt _ _) (by decide)) (Nat.lt_trans (bitA_lt _ _) (by decide))).mp hb
  unfold bitA at h1
  rw [show 15 - (16 - (k + 1)) = k by omega] at h1
  exact h1
theorem bits_ne {P Q k : Nat} (hk : k + 1 ≤ 16) (hb : ¬ nI (bitA P (16 - (k + 1))) = nI (bitA Q (16 - (k + 1)))) : ¬ P / 2 ^ k = Q / 2 ^ k := by
  intro h
  apply hb
  unfold bitA
  rw [show 15 - (16 - (k + 1)) = k by omega, h]
theorem fbg_eq {P Q k : Nat} (h : P / 2 ^ k = Q / 2 ^ k) : fbg P Q (k + 1) = fbg P Q k := by rw [fbg, if_pos h]
theorem fbg_ne {P Q k : Nat} (hk : k + 1 ≤ 16) (h : ¬ P / 2 ^ k = Q / 2 ^ k) : fbg P Q (k + 1) = 16 - (k + 1) := by rw [fbg, if_neg h]; omega

set_option maxRecDepth 100000 in
set_option maxHeartbeats 4000000 in
theorem lp_firstOtherBit (C : Cx p s m args c cX8_firstOtherBit 3 RX8 D ca ad A N n) (hAD : AD ad n) (hn : ws.length = n) (hN : NS D N) {P Q : Nat} (hP : P < 65536) (hQ : Q < 65536) (hR : 1 ≤ R.frames ∧ 40 ≤ R.locals ∧ cells ≤ R.cells ∧ slots ≤ R.slots) : ∀ k : Nat, k ≤ 16 → P / 2 ^ k = Q / 2 ^ k → Wa p l e R s m args below meth c cells slots QQ D ca ad A 3 N ([(0, .int (nI P)), (1, .int (nI Q)), (2, .int (nI (fbg P Q k)))], [], ws) 27 → Wa p l e R s m args below meth c cells slots QQ D ca ad A 3 N ([(0, .int (nI P)), (1, .int (nI Q)), (2, .int (nI (16 - k)))], [], ws) 2 := by
  obtain ⟨hR1, hR2, hR3, hR4⟩ := hR
  intro k
  induction k with
  | zero =>
    intro _ _ hK
    refine sg0 C foX8 coX8 oX8_firstOtherBit_2 rfl rfl hn ?_
    exact b2_ge (tgt := 27) C jX8_firstOtherBit_5 (by decide) (fun _ => hK) (fun h5 => absurd (Int32.le_refl _) h5)
  | succ k ih =>
    intro hk hPQ hK
    refine sg0 C foX8 coX8 oX8_firstOtherBit_2 rfl rfl hn ?_
    refine b2_ge (tgt := 27) C jX8_firstOtherBit_5 (by decide) (fun h5 => ?_) (fun h5 => ?_)
    · exact absurd h5 (by rw [show (16 : Int32) = nI 16 from rfl]; exact nI_ge (by omega) (by decide))
    · refine sg0 C foX8 coX8 oX8_firstOtherBit_8 rfl rfl hn ?_
      refine cl_s C (kX8_isHigh hAD hn hN hP (show 16 - (k + 1) ≤ 15 by omega)) cd_X8_isHigh in_X8 ml_X8_152 sm_X8_isHigh hd_X8_isHigh rfl rfl ⟨by omega, by simp; omega⟩ ⟨by simp; omega, by simp; omega⟩ (Nat.le_of_ble_eq_true rfl) jX8_firstOtherBit_10 (fun v ws' => Wa.and (fun hv => ?_))
      obtain ⟨rfl, rfl⟩ := hv
      refine sg0 C foX8 coX8 oX8_firstOtherBit_13 rfl rfl hn ?_
      refine cl_s C (kX8_isHigh hAD hn hN hQ (show 16 - (k + 1) ≤ 15 by omega)) cd_X8_isHigh in_X8 ml_X8_152 sm_X8_isHigh hd_X8_isHigh rfl rfl ⟨by omega, by simp; omega⟩ ⟨by simp; omega, by simp; omega⟩ (Nat.le_of_ble_eq_true rfl) jX8_firstOtherBit_15 (fun v ws' => Wa.and (fun hv => ?_))
      obtain ⟨rfl, rfl⟩ := hv
      refine b2_ne (tgt := 27) C jX8_firstOtherBit_18 (by decide) (fun h18 => ?_) (fun h18 => ?_)
      · rw [fbg_ne hk (bits_ne hk h18)] at hK
        exact hK
      · rw [fbg_eq (bits_eq hk hPQ h18)] at hK
        refine sg0 C foX8 coX8 oX8_firstOtherBit_21 rfl rfl hn ?_
        rw [show nI (16 - (k + 1)) + 1 = nI (16 - k) by rw [nI_1, show 16 - (k + 1) + 1 = 16 - k by omega]]
        exact ih (by omega) (bits_eq hk hPQ h18) hK
end
section
variable {l : Launch} {D : va_G} {ca : Nat → ClassId} {ad : Nat → Nat} {ws : List va_E} {n : Nat} {N : Heap → Prop}
set_option maxRecDepth 100000 in
set_option maxHeartbeats 4000000 in
theorem kX8_firstOtherBit (hAD : AD ad n) (hn : ws.length = n) (hN : NS D N) {P Q : Nat} (hP : P < 65536) (hQ : Q < 65536) : Ct l yX8_firstOtherBit cX8_firstOtherBit 3 (some .int) (rK 1 0 0) D ca ad ws n [.int (nI P), .int (nI Q)] N (pG ws N (some (.int (nI (fbit P Q))))) := by
  refine enter (lv := [(0, .int (nI P)), (1, .int (nI Q))]) (by decide +kernel) (Nat.le_of_ble_eq_true rfl) rfl hAD (fun U hK => ns_write hK hN) ?_
  intro p e s m below meth c A args hA C hr hlk hnm
  refine sg0 C foX8 coX8 oX8_firstOtherBit_0 rfl rfl hn ?_
  refine lp_firstOtherBit C hAD hn hN hP hQ ⟨(Nat.le_of_ble_eq_true rfl), (Nat.le_of_ble_eq_true rfl), (Nat.le_of_ble_eq_true rfl), (Nat.le_of_ble_eq_true rfl)⟩ 16 (by decide) (by rw [p16 hP, p16 hQ]) ?_
  refine sg0 C foX8 coX8 oX8_firstOtherBit_27 rfl rfl hn ?_
  exact rt_i C hr hlk jX8_firstOtherBit_28 (fun H hN => ⟨⟨rfl, rfl⟩, hN⟩)
end
