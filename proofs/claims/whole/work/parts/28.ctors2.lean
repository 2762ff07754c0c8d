/-! constructors; a reading begun and ended -/
theorem dfX5 : ∀ j, j < 3 → defaultValue (tyX5 j) = vp_V [.null, .null, .int 0] j := by decide +kernel
theorem dfX6 : ∀ j, j < 4 → defaultValue (tyX6 j) = vp_V [.null, .int 0, .int 0, .int 0] j := by decide +kernel
theorem dfX7 : ∀ j, j < 2 → defaultValue (tyX7 j) = vp_V [.null, .int 0] j := by decide +kernel
theorem dfX8 : ∀ j, j < 9 → defaultValue (tyX8 j) = vp_V [.null, .null, .null, .int 0, .null, .null, .null, .int 0, .long 0] j := by decide +kernel
theorem dfX9 : ∀ j, j < 42 → defaultValue (tyX9 j) = vp_V [.null, .null, .null, .int 0, .null, .null, .int 0, .null, .int 0, .null, .null, .null, .int 0, .null, .int 0, .null, .null, .null, .null, .int 0, .null, .null, .null, .null, .null, .null, .null, .null, .int 0, .int 0, .int 0, .null, .int 0, .int 0, .int 0, .int 0, .int 0, .long 0, .int 0, .int 0, .int 0, .int 0] j := by decide +kernel
section
variable {l : Launch} {D : va_G} {ca : Nat → ClassId} {ad : Nat → Nat} {N : Heap → Prop}
set_option maxRecDepth 100000 in
set_option maxHeartbeats 4000000 in
theorem kX5_init (hAD : AD ad 3) (hN : NS D N)  : CtN l yX5_init cX5_init 1 (rK 1 2 40) D ca ad [.inr (7, [.ref 1, .null, .null, .int 0, .null, .null, .null, .int 0, .long 0]), .inl (2, 8, .inr (.inr (.inr (.inr (fun _ => none))))), .inr (4, [.null, .null, .int 0])] 3 [.ref 2] N (fun ws2 H => ws2 = [.inr (7, [.ref 1, .null, .null, .int 0, .null, .null, .null, .int 0, .long 0]), .inl (2, 8, .inr (.inr (.inr (.inr (fun _ => none))))), .inr (4, [.ref 3, .ref 4, .int 0]), .inl (0, 20, .inl (fun _ => 0)), .inl (0, 20, .inl (fun _ => 0))] ∧ N H) := by
  refine enterN (lv := [(0, .ref 2)]) (by decide +kernel) (Nat.le_of_ble_eq_true rfl) rfl hAD (fun U hK => ns_write hK hN) ?_
  intro p e s m below meth c A args hA C hr hlk hnm
  have hg0 : Ag 3 ad ad := Ag.rf
  have hf0 : ∀ k, 3 ≤ k → k < 3 → s.heap.size ≤ ad k := fr_0
  refine sg0 C foX5 coX5 oX5_init_0 rfl rfl rfl ?_
  refine oi C ml_X5_3 (Nat.le_of_ble_eq_true rfl) (Nat.le_of_ble_eq_true rfl) jX5_init_1 ?_
  refine sg0 C foX5 coX5 oX5_init_4 rfl rfl rfl ?_
  refine gA (atype := .int) (j := 0) (N' := 20) (a0 := (20, .inl (fun _ => 0))) C hN (by decide) rfl ac_int (ca_int C) (fun cA => rfl) (by decide) (by decide) (by decide) ⟨(Nat.le_of_ble_eq_true rfl), (Nat.le_of_ble_eq_true rfl)⟩ rfl rfl rfl jX5_init_7 (fun ad1 hg1 hf1 hAD C => ?_)
  have hg0 := hg0.tr (by decide) hg1
  have hf0 := fr_app hf0 hg1 (fr_one hf1)
  refine pF (t := 2) (ci := 4) (k := 0) (ty := .array .int) C rfl rfl (by decide) rfl (by decide) fl_X5_9 rfl hnm rfl (by decide +kernel) rfl rfl (by simp) rfl jX5_init_9 ?_
  refine sg0 C foX5 coX5 oX5_init_12 rfl rfl rfl ?_
  refine gA (atype := .int) (j := 0) (N' := 20) (a0 := (20, .inl (fun _ => 0))) C hN (by decide) rfl ac_int (ca_int C) (fun cA => rfl) (by decide) (by decide) (by decide) ⟨(Nat.le_of_ble_eq_true rfl), (Nat.le_of_ble_eq_true rfl)⟩ rfl rfl rfl jX5_init_15 (fun ad2 hg2 hf2 hAD C => ?_)
  have hg0 := hg0.tr (by decide) hg2
  have hf0 := fr_app hf0 hg2 (fr_one hf2)
  refine pF (t := 2) (ci := 4) (k := 1) (ty := .array .int) C rfl rfl (by decide) rfl (by decide) fl_X5_15 rfl hnm rfl (by decide +kernel) rfl rfl (by simp) rfl jX5_init_17 ?_
  refine sg0 C foX5 coX5 oX5_init_20 rfl rfl rfl ?_
  exact rt_N C hg0 hf0 rfl hr hlk jX5_init_25 (fun H hH => ⟨rfl, hH⟩)
set_option maxRecDepth 100000 in
set_option maxHeartbeats 4000000 in
theorem kX7_init5 (hAD : AD ad 6) (hN : NS D N) (q : Nat) : CtN l yX7_init cX7_init 1 (rK 1 1 4000) D ca ad [.inr (7, [.ref 1, .ref 2, .ref (q + 100), .int 0, .null, .null, .null, .int 0, .long 0]), .inl (2, 8, .inr (.inr (.inr (.inr (fun _ => none))))), .inr (4, [.ref 3, .ref 4, .int 0]), .inl (0, 20, .inl (fun _ => 0)), .inl (0, 20, .inl (fun _ => 0)), .inr (6, [.null, .int 0])] 6 [.ref 5] N (fun ws2 H => ws2 = [.inr (7, [.ref 1, .ref 2, .ref (q + 100), .int 0, .null, .null, .null, .int 0, .long 0]), .inl (2, 8, .inr (.inr (.inr (.inr (fun _ => none))))), .inr (4, [.ref 3, .ref 4, .int 0]), .inl (0, 20, .inl (fun _ => 0)), .inl (0, 20, .inl (fun _ => 0)), .inr (6, [.ref 6, .int 0]), .inl (0, 4000, .inl (fun _ => 0))] ∧ N H) := by
  refine enterN (lv := [(0, .ref 5)]) (by decide +kernel) (Nat.le_of_ble_eq_true rfl) rfl hAD (fun U hK => ns_write hK hN) ?_
  intro p e s m below meth c A args hA C hr hlk hnm
  have hg0 : Ag 6 ad ad := Ag.rf
  have hf0 : ∀ k, 6 ≤ k → k < 6 → s.heap.size ≤ ad k := fr_0
  refine sg0 C foX7 coX7 oX7_init_0 rfl rfl rfl ?_
  refine oi C ml_X7_3 (Nat.le_of_ble_eq_true rfl) (Nat.le_of_ble_eq_true rfl) jX7_init_1 ?_
  refine sg0 C foX7 coX7 oX7_init_4 rfl rfl rfl ?_
  refine gA (atype := .int) (j := 0) (N' := 4000) (a0 := (4000, .inl (fun _ => 0))) C hN (by decide) rfl ac_int (ca_int C) (fun cA => rfl) (by decide) (by decide) (by decide) ⟨(Nat.le_of_ble_eq_true rfl), (Nat.le_of_ble_eq_true rfl)⟩ rfl rfl rfl jX7_init_8 (fun ad1 hg1 hf1 hAD C => ?_)
  have hg0 := hg0.tr (by decide) hg1
  have hf0 := fr_app hf0 hg1 (fr_one hf1)
  refine pF (t := 5) (ci := 6) (k := 0) (ty := .array .int) C rfl rfl (by decide) rfl (by decide) fl_X7_9 rfl hnm rfl (by decide +kernel) rfl rfl (by simp) rfl jX7_init_10 ?_
  refine sg0 C foX7 coX7 oX7_init_13 rfl rfl rfl ?_
  exact rt_N C hg0 hf0 rfl hr hlk jX7_init_18 (fun H hH => ⟨rfl, hH⟩)
set_option maxRecDepth 100000 in
set_option maxHeartbeats 4000000 in
theorem kX7_init7 (hAD : AD ad 8) (hN : NS D N) (q : Nat) : CtN l yX7_init cX7_init 1 (rK 1 1 4000) D ca ad [.inr (7, [.ref 1, .ref 2, .ref (q + 100), .int 0, .ref 5, .null, .null, .int 0, .long 0]), .inl (2, 8, .inr (.inr (.inr (.inr (fun _ => none))))), .inr (4, [.ref 3, .ref 4, .int 0]), .inl (0, 20, .inl (fun _ => 0)), .inl (0, 20, .inl (fun _ => 0)), .inr (6, [.ref 6, .int 0]), .inl (0, 4000, .inl (fun _ => 0)), .inr (6, [.null, .int 0])] 8 [.ref 7] N (fun ws2 H => ws2 = [.inr (7, [.ref 1, .ref 2, .ref (q + 100), .int 0, .ref 5, .null, .null, .int 0, .long 0]), .inl (2, 8, .inr (.inr (.inr (.inr (fun _ => none))))), .inr (4, [.ref 3, .ref 4, .int 0]), .inl (0, 20, .inl (fun _ => 0)), .inl (0, 20, .inl (fun _ => 0)), .inr (6, [.ref 6, .int 0]), .inl (0, 4000, .inl (fun _ => 0)), .inr (6, [.ref 8, .int 0]), .inl (0, 4000, .inl (fun _ => 0))] ∧ N H) := by
  refine enterN (lv := [(0, .ref 7)]) (by decide +kernel) (Nat.le_of_ble_eq_true rfl) rfl hAD (fun U hK => ns_write hK hN) ?_
  intro p e s m below meth c A args hA C hr hlk hnm
  have hg0 : Ag 8 ad ad := Ag.rf
  have hf0 : ∀ k, 8 ≤ k → k < 8 → s.heap.size ≤ ad k := fr_0
  refine sg0 C foX7 coX7 oX7_init_0 rfl rfl rfl ?_
  refine oi C ml_X7_3 (Nat.le_of_ble_eq_true rfl) (Nat.le_of_ble_eq_true rfl) jX7_init_1 ?_
  refine sg0 C foX7 coX7 oX7_init_4 rfl rfl rfl ?_
  refine gA (atype := .int) (j := 0) (N' := 4000) (a0 := (4000, .inl (fun _ => 0))) C hN (by decide) rfl ac_int (ca_int C) (fun cA => rfl) (by decide) (by decide) (by decide) ⟨(Nat.le_of_ble_eq_true rfl), (Nat.le_of_ble_eq_true rfl)⟩ rfl rfl rfl jX7_init_8 (fun ad1 hg1 hf1 hAD C => ?_)
  have hg0 := hg0.tr (by decide) hg1
  have hf0 := fr_app hf0 hg1 (fr_one hf1)
  refine pF (t := 7) (ci := 6) (k := 0) (ty := .array .int) C rfl rfl (by decide) rfl (by decide) fl_X7_9 rfl hnm rfl (by decide +kernel) rfl rfl (by simp) rfl jX7_init_10 ?_
  refine sg0 C foX7 coX7 oX7_init_13 rfl rfl rfl ?_
  exact rt_N C hg0 hf0 rfl hr hlk jX7_init_18 (fun H hH => ⟨rfl, hH⟩)
set_option maxRecDepth 100000 in
set_option maxHeartbeats 4000000 in
theorem kX8_init (hAD : AD ad 1) (hN : NS D N)  : CtN l yX8_init cX8_init 1 (rK 4 9 8056) D ca ad [.inr (7, [.null, .null, .null, .int 0, .null, .null, .null, .int 0, .long 0])] 1 [.ref 0] N (fun ws2 H => ∃ q, ws2 = (xW q 0 (fun _ => none) .null (-2) 0 (fun _ => 0) (fun _ => 0) 0 (fun _ => 0) 0 (fun _ => 0) 0) ∧ N H ∧ nodeAt D H (tE q)) := by
  refine enterN (lv := [(0, .ref 0)]) (by decide +kernel) (Nat.le_of_ble_eq_true rfl) rfl hAD (fun U hK => ns_write hK hN) ?_
  intro p e s m below meth c A args hA C hr hlk hnm
  have hg0 : Ag 1 ad ad := Ag.rf
  have hf0 : ∀ k, 1 ≤ k → k < 1 → s.heap.size ≤ ad k := fr_0
  refine sg0 C foX8 coX8 oX8_init_0 rfl rfl rfl ?_
  refine oi C ml_X8_1 (Nat.le_of_ble_eq_true rfl) (Nat.le_of_ble_eq_true rfl) jX8_init_1 ?_
  refine sg0 C foX8 coX8 oX8_init_4 rfl rfl rfl ?_
  refine gQ (N' := 8) C hN (by decide) rfl kl_X8_9 (by decide) (by decide) (by decide) ⟨(Nat.le_of_ble_eq_true rfl), (Nat.le_of_ble_eq_true rfl)⟩ rfl rfl rfl jX8_init_7 (fun ad1 hg1 hf1 hAD C => ?_)
  have hg0 := hg0.tr (by decide) hg1
  have hf0 := fr_app hf0 hg1 (fr_one hf1)
  refine pF (t := 0) (ci := 7) (k := 0) (ty := .array (.object "PathProofs$Node")) C rfl rfl (by decide) rfl (by decide) fl_X8_11 rfl hnm rfl (by decide +kernel) rfl rfl (by simp) rfl jX8_init_10 ?_
  refine sg0 C foX8 coX8 oX8_init_13 rfl rfl rfl ?_
  refine gN (ci := 4) (fs := [.null, .null, .int 0]) C hN (by decide) rfl rfl kl_X8_15 is_X5 in_X5 tyX5 tyX5_ok dfX5 (fun _ => rfl) ⟨(Nat.le_of_ble_eq_true rfl), (Nat.le_of_ble_eq_true rfl)⟩ rfl rfl rfl jX8_init_14 (fun ad2 hg2 hf2 hAD C => ?_)
  have hg0 := hg0.tr (by decide) hg2
  have hf0 := fr_app hf0 hg2 (fr_one hf2)
  refine sg0 C foX8 coX8 oX8_init_17 rfl rfl rfl ?_
  refine cl_iNN C (kX5_init hAD hN) cd_X5_init in_X5 (by decide) im_X5_init rfl hd_X5_init rfl rfl ⟨(Nat.le_of_ble_eq_true rfl), (Nat.le_of_ble_eq_true rfl)⟩ ⟨(Nat.le_of_ble_eq_true rfl), (Nat.le_of_ble_eq_true rfl)⟩ (Nat.le_of_ble_eq_true rfl) rfl rfl jX8_init_18 (fun ad3 ws' hg3 hAD hf3 => Wa.and (fun hv => ?_))
  subst hv
  have hAD : AD ad3 5 := hAD
  have hf3 : ∀ k, 3 ≤ k → k < 5 → s.heap.size ≤ ad3 k := hf3
  have C := C.up (N2 := N) hN hg3 hAD hf3
  have hg0 := hg0.tr (by decide) hg3
  have hf0 := fr_app hf0 hg3 hf3
  refine pF (t := 0) (ci := 7) (k := 1) (ty := .object "PathProofs$Ranges") C rfl rfl (by decide) rfl (by decide) fl_X8_18 rfl hnm rfl (by decide +kernel) rfl rfl (by simp) rfl jX8_init_21 ?_
  refine sg0 C foX8 coX8 oX8_init_24 rfl rfl rfl ?_
  refine nw (ci := 0) (fs := [.long 0]) C hN rfl (by decide) kl_X8_22 is_X0 in_X0 tyX0 tyX0_ok (fun j hj => by rcases (show j = 0 from Nat.lt_one_iff.mp hj) with rfl; rfl) ⟨(Nat.le_of_ble_eq_true rfl), (Nat.le_of_ble_eq_true rfl)⟩ jX8_init_25 (fun H1 q1 hN_q1 hq1 => ?_)
  have C := C.to (N2 := BN D H1 q1 0 [.long 0]) BN.ns
  refine sg0 C foX8 coX8 oX8_init_28 rfl rfl rfl ?_
  refine cl_i C (kX0_init hAD rfl rfl) (C.2.2.2.2.2 _ hq1) cd_X0_init in_X0 ml_X8_24 im_X0_init rfl hd_X0_init rfl rfl ⟨(Nat.le_of_ble_eq_true rfl), (Nat.le_of_ble_eq_true rfl)⟩ ⟨(Nat.le_of_ble_eq_true rfl), (Nat.le_of_ble_eq_true rfl)⟩ (Nat.le_of_ble_eq_true rfl) jX8_init_29 (fun v ws' => Wa.and (fun hv => ?_))
  obtain ⟨rfl, rfl⟩ := hv
  have C := C.to (N2 := BN D H1 q1 0 [.long emptyF]) BN.ns
  refine sg0 C foX8 coX8 oX8_init_32 rfl rfl rfl ?_
  refine gN (ci := 6) (fs := [.null, .int 0]) C BN.ns (by decide) rfl rfl kl_X8_33 is_X7 in_X7 tyX7 tyX7_ok dfX7 (fun _ => rfl) ⟨(Nat.le_of_ble_eq_true rfl), (Nat.le_of_ble_eq_true rfl)⟩ rfl rfl rfl jX8_init_41 (fun ad4 hg4 hf4 hAD C => ?_)
  have hg0 := hg0.tr (by decide) hg4
  have hf0 := fr_app hf0 hg4 (fr_one hf4)
  refine sg0 C foX8 coX8 oX8_init_44 rfl rfl rfl ?_
  refine cl_iNN C (kX7_init5 hAD BN.ns q1) cd_X7_init in_X7 (by decide) im_X7_init rfl hd_X7_init rfl rfl ⟨(Nat.le_of_ble_eq_true rfl), (Nat.le_of_ble_eq_true rfl)⟩ ⟨(Nat.le_of_ble_eq_true rfl), (Nat.le_of_ble_eq_true rfl)⟩ (Nat.le_of_ble_eq_true rfl) rfl rfl jX8_init_45 (fun ad5 ws' hg5 hAD hf5 => Wa.and (fun hv => ?_))
  subst hv
  have hAD : AD ad5 7 := hAD
  have hf5 : ∀ k, 6 ≤ k → k < 7 → s.heap.size ≤ ad5 k := hf5
  have C := C.up (N2 := BN D H1 q1 0 [.long emptyF]) BN.ns hg5 hAD hf5
  have hg0 := hg0.tr (by decide) hg5
  have hf0 := fr_app hf0 hg5 hf5
  refine sg0 C foX8 coX8 oX8_init_48 rfl rfl rfl ?_
  refine gN (ci := 6) (fs := [.null, .int 0]) C BN.ns (by decide) rfl rfl kl_X8_33 is_X7 in_X7 tyX7 tyX7_ok dfX7 (fun _ => rfl) ⟨(Nat.le_of_ble_eq_true rfl), (Nat.le_of_ble_eq_true rfl)⟩ rfl rfl rfl jX8_init_52 (fun ad6 hg6 hf6 hAD C => ?_)
  have hg0 := hg0.tr (by decide) hg6
  have hf0 := fr_app hf0 hg6 (fr_one hf6)
  refine sg0 C foX8 coX8 oX8_init_55 rfl rfl rfl ?_
  refine cl_iNN C (kX7_init7 hAD BN.ns q1) cd_X7_init in_X7 (by decide) im_X7_init rfl hd_X7_init rfl rfl ⟨(Nat.le_of_ble_eq_true rfl), (Nat.le_of_ble_eq_true rfl)⟩ ⟨(Nat.le_of_ble_eq_true rfl), (Nat.le_of_ble_eq_true rfl)⟩ (Nat.le_of_ble_eq_true rfl) rfl rfl jX8_init_56 (fun ad7 ws' hg7 hAD hf7 => Wa.and (fun hv => ?_))
  subst hv
  have hAD : AD ad7 9 := hAD
  have hf7 : ∀ k, 8 ≤ k → k < 9 → s.heap.size ≤ ad7 k := hf7
  have C := C.up (N2 := BN D H1 q1 0 [.long emptyF]) BN.ns hg7 hAD hf7
  have hg0 := hg0.tr (by decide) hg7
  have hf0 := fr_app hf0 hg7 hf7
  refine sg0 C foX8 coX8 oX8_init_59 rfl rfl rfl ?_
  exact rt_N C hg0 hf0 rfl hr hlk jX8_init_78 (fun H hH => ⟨q1, rfl, hN _ _ hN_q1 hH.2.1, hH.2.2⟩)
/-- the cells of the model: 0 it, then its rows in the order in which they are made -/
abbrev mW (pa : Nat → Int32) (va : Nat → Int64) (sz : Nat → Int32) (fr : Nat → Int32) (tw : Nat → Int32) (ta : Nat → Int32) (wd : Nat → Int64) (wb : Nat → Int32) (wp : Nat → Int32) (ou : Nat → Int32) (o1 : Nat → Int32) (o2 : Nat → Int32) (pf : Nat → Int32) (pt : Nat → Int32) (ki : Nat → Int32) (bi : Nat → Int32) (ste : Nat → Int32) (hel : Nat → Int64) (low : Nat → Int32) (hgh : Nat → Int32) (su : Nat → Int64) (ro : Nat → Int32) (fe : Nat → Int32) (vs : Int32) (wn : Int32) (tp : Int32) (dp : Int32) (la : Int32) (rst : Int32) (hlf : Int32) (nd : Int32) (rt : Int32) (frd : Int32) (fa : Int32) (at_ : Int32) (end_ : Int32) (ab : Int32) (fo : Int64) (co : Int32) (ll : Int32) (lh : Int32) (hm : Int32) : List va_E := [.inr (8, [.ref 1, .ref 2, .ref 3, .int vs, .ref 4, .ref 5, .int wn, .ref 6, .int tp, .ref 7, .ref 8, .ref 9, .int dp, .ref 10, .int la, .ref 11, .ref 12, .ref 13, .ref 14, .int rst, .ref 15, .ref 16, .ref 17, .ref 18, .ref 19, .ref 20, .ref 21, .ref 22, .int hlf, .int nd, .int rt, .ref 23, .int frd, .int fa, .int at_, .int end_, .int ab, .long fo, .int co, .int ll, .int lh, .int hm]), .inl (0, 2701, .inl pa), .inl (1, 2701, .inr (.inl va)), .inl (0, 9, .inl sz), .inl (0, 20, .inl fr), .inl (0, 20, .inl tw), .inl (0, 4000, .inl ta), .inl (1, 302, .inr (.inl wd)), .inl (0, 302, .inl wb), .inl (0, 302, .inl wp), .inl (0, 4000, .inl ou), .inl (0, 800, .inl o1), .inl (0, 800, .inl o2), .inl (0, 800, .inl pf), .inl (0, 800, .inl pt), .inl (0, 1600, .inl ki), .inl (0, 1600, .inl bi), .inl (0, 1600, .inl ste), .inl (1, 1600, .inr (.inl hel)), .inl (0, 1600, .inl low), .inl (0, 1600, .inl hgh), .inl (1, 1600, .inr (.inl su)), .inl (0, 1600, .inl ro), .inl (0, 800, .inl fe)]
set_option maxRecDepth 100000 in
set_option maxHeartbeats 4000000 in
theorem kX9_init (hAD : AD ad 1) (hN : NS D N)  : CtN l yX9_init cX9_init 1 (rK 1 23 31157) D ca ad [.inr (8, [.null, .null, .null, .int 0, .null, .null, .int 0, .null, .int 0, .null, .null, .null, .int 0, .null, .int 0, .null, .null, .null, .null, .int 0, .null, .null, .null, .null, .null, .null, .null, .null, .int 0, .int 0, .int 0, .null, .int 0, .int 0, .int 0, .int 0, .int 0, .long 0, .int 0, .int 0, .int 0, .int 0])] 1 [.ref 0] N (fun ws2 H => ws2 = (mW (fun _ => 0) (fun _ => 0) (fun _ => 0) (fun _ => 0) (fun _ => 0) (fun _ => 0) (fun _ => 0) (fun _ => 0) (fun _ => 0) (fun _ => 0) (fun _ => 0) (fun _ => 0) (fun _ => 0) (fun _ => 0) (fun _ => 0) (fun _ => 0) (fun _ => 0) (fun _ => 0) (fun _ => 0) (fun _ => 0) (fun _ => 0) (fun _ => 0) (fun _ => 0) 0 0 0 0 0 0 0 0 (-2) 0 (-2) 0 0 0 0 0 0 0 0) ∧ N H) := by
  refine enterN (lv := [(0, .ref 0)]) (by decide +kernel) (Nat.le_of_ble_eq_true rfl) rfl hAD (fun U hK => ns_write hK hN) ?_
  intro p e s m below meth c A args hA C hr hlk hnm
  have hg0 : Ag 1 ad ad := Ag.rf
  have hf0 : ∀ k, 1 ≤ k → k < 1 → s.heap.size ≤ ad k := fr_0
  refine sg0 C foX9 coX9 oX9_init_0 rfl rfl rfl ?_
  refine oi C ml_X9_1 (Nat.le_of_ble_eq_true rfl) (Nat.le_of_ble_eq_true rfl) jX9_init_1 ?_
  refine sg0 C foX9 coX9 oX9_init_4 rfl rfl rfl ?_
  refine gA (atype := .int) (j := 0) (N' := 2701) (a0 := (2701, .inl (fun _ => 0))) C hN (by decide) rfl ac_int (ca_int C) (fun cA => rfl) (by decide) (by decide) (by decide) ⟨(Nat.le_of_ble_eq_true rfl), (Nat.le_of_ble_eq_true rfl)⟩ rfl rfl rfl jX9_init_8 (fun ad1 hg1 hf1 hAD C => ?_)
  have hg0 := hg0.tr (by decide) hg1
  have hf0 := fr_app hf0 hg1 (fr_one hf1)
  refine pF (t := 0) (ci := 8) (k := 0) (ty := .array .int) C rfl rfl (by decide) rfl (by decide) fl_X9_7 rfl hnm rfl (by decide +kernel) rfl rfl (by simp) rfl jX9_init_10 ?_
  refine sg0 C foX9 coX9 oX9_init_13 rfl rfl rfl ?_
  refine gA (atype := .long) (j := 1) (N' := 2701) (a0 := (2701, .inr (.inl (fun _ => 0)))) C hN (by decide) rfl ac_long (ca_long C) (fun cA => rfl) (by decide) (by decide) (by decide) ⟨(Nat.le_of_ble_eq_true rfl), (Nat.le_of_ble_eq_true rfl)⟩ rfl rfl rfl jX9_init_17 (fun ad2 hg2 hf2 hAD C => ?_)
  have hg0 := hg0.tr (by decide) hg2
  have hf0 := fr_app hf0 hg2 (fr_one hf2)
  refine pF (t := 0) (ci := 8) (k := 1) (ty := .array .long) C rfl rfl (by decide) rfl (by decide) fl_X9_13 rfl hnm rfl (by decide +kernel) rfl rfl (by simp) rfl jX9_init_19 ?_
  refine sg0 C foX9 coX9 oX9_init_22 rfl rfl rfl ?_
  refine gA (atype := .int) (j := 0) (N' := 9) (a0 := (9, .inl (fun _ => 0))) C hN (by decide) rfl ac_int (ca_int C) (fun cA => rfl) (by decide) (by decide) (by decide) ⟨(Nat.le_of_ble_eq_true rfl), (Nat.le_of_ble_eq_true rfl)⟩ rfl rfl rfl jX9_init_25 (fun ad3 hg3 hf3 hAD C => ?_)
  have hg0 := hg0.tr (by decide) hg3
  have hf0 := fr_app hf0 hg3 (fr_one hf3)
  refine pF (t := 0) (ci := 8) (k := 2) (ty := .array .int) C rfl rfl (by decide) rfl (by decide) fl_X9_17 rfl hnm rfl (by decide +kernel) rfl rfl (by simp) rfl jX9_init_27 ?_
  refine sg0 C foX9 coX9 oX9_init_30 rfl rfl rfl ?_
  refine gA (atype := .int) (j := 0) (N' := 20) (a0 := (20, .inl (fun _ => 0))) C hN (by decide) rfl ac_int (ca_int C) (fun cA => rfl) (by decide) (by decide) (by decide) ⟨(Nat.le_of_ble_eq_true rfl), (Nat.le_of_ble_eq_true rfl)⟩ rfl rfl rfl jX9_init_33 (fun ad4 hg4 hf4 hAD C => ?_)
  have hg0 := hg0.tr (by decide) hg4
  have hf0 := fr_app hf0 hg4 (fr_one hf4)
  refine pF (t := 0) (ci := 8) (k := 4) (ty := .array .int) C rfl rfl (by decide) rfl (by decide) fl_X9_20 rfl hnm rfl (by decide +kernel) rfl rfl (by simp) rfl jX9_init_35 ?_
  refine sg0 C foX9 coX9 oX9_init_38 rfl rfl rfl ?_
  refine gA (atype := .int) (j := 0) (N' := 20) (a0 := (20, .inl (fun _ => 0))) C hN (by decide) rfl ac_int (ca_int C) (fun cA => rfl) (by decide) (by decide) (by decide) ⟨(Nat.le_of_ble_eq_true rfl), (Nat.le_of_ble_eq_true rfl)⟩ rfl rfl rfl jX9_init_41 (fun ad5 hg5 hf5 hAD C => ?_)
  have hg0 := hg0.tr (by decide) hg5
  have hf0 := fr_app hf0 hg5 (fr_one hf5)
  refine pF (t := 0) (ci := 8) (k := 5) (ty := .array .int) C rfl rfl (by decide) rfl (by decide) fl_X9_23 rfl hnm rfl (by decide +kernel) rfl rfl (by simp) rfl jX9_init_43 ?_
  refine sg0 C foX9 coX9 oX9_init_46 rfl rfl rfl ?_
  refine gA (atype := .int) (j := 0) (N' := 4000) (a0 := (4000, .inl (fun _ => 0))) C hN (by decide) rfl ac_int (ca_int C) (fun cA => rfl) (by decide) (by decide) (by decide) ⟨(Nat.le_of_ble_eq_true rfl), (Nat.le_of_ble_eq_true rfl)⟩ rfl rfl rfl jX9_init_50 (fun ad6 hg6 hf6 hAD C => ?_)
  have hg0 := hg0.tr (by decide) hg6
  have hf0 := fr_app hf0 hg6 (fr_one hf6)
  refine pF (t := 0) (ci := 8) (k := 7) (ty := .array .int) C rfl rfl (by decide) rfl (by decide) fl_X9_26 rfl hnm rfl (by decide +kernel) rfl rfl (by simp) rfl jX9_init_52 ?_
  refine sg0 C foX9 coX9 oX9_init_55 rfl rfl rfl ?_
  refine gA (atype := .long) (j := 1) (N' := 302) (a0 := (302, .inr (.inl (fun _ => 0)))) C hN (by decide) rfl ac_long (ca_long C) (fun cA => rfl) (by decide) (by decide) (by decide) ⟨(Nat.le_of_ble_eq_true rfl), (Nat.le_of_ble_eq_true rfl)⟩ rfl rfl rfl jX9_init_59 (fun ad7 hg7 hf7 hAD C => ?_)
  have hg0 := hg0.tr (by decide) hg7
  have hf0 := fr_app hf0 hg7 (fr_one hf7)
  refine pF (t := 0) (ci := 8) (k := 9) (ty := .array .long) C rfl rfl (by decide) rfl (by decide) fl_X9_29 rfl hnm rfl (by decide +kernel) rfl rfl (by simp) rfl jX9_init_61 ?_
  refine sg0 C foX9 coX9 oX9_init_64 rfl rfl rfl ?_
  refine gA (atype := .int) (j := 0) (N' := 302) (a0 := (302, .inl (fun _ => 0))) C hN (by decide) rfl ac_int (ca_int C) (fun cA => rfl) (by decide) (by decide) (by decide) ⟨(Nat.le_of_ble_eq_true rfl), (Nat.le_of_ble_eq_true rfl)⟩ rfl rfl rfl jX9_init_68 (fun ad8 hg8 hf8 hAD C => ?_)
  have hg0 := hg0.tr (by decide) hg8
  have hf0 := fr_app hf0 hg8 (fr_one hf8)
  refine pF (t := 0) (ci := 8) (k := 10) (ty := .array .int) C rfl rfl (by decide) rfl (by decide) fl_X9_32 rfl hnm rfl (by decide +kernel) rfl rfl (by simp) rfl jX9_init_70 ?_
  refine sg0 C foX9 coX9 oX9_init_73 rfl rfl rfl ?_
  refine gA (atype := .int) (j := 0) (N' := 302) (a0 := (302, .inl (fun _ => 0))) C hN (by decide) rfl ac_int (ca_int C) (fun cA => rfl) (by decide) (by decide) (by decide) ⟨(Nat.le_of_ble_eq_true rfl), (Nat.le_of_ble_eq_true rfl)⟩ rfl rfl rfl jX9_init_77 (fun ad9 hg9 hf9 hAD C => ?_)
  have hg0 := hg0.tr (by decide) hg9
  have hf0 := fr_app hf0 hg9 (fr_one hf9)
  refine pF (t := 0) (ci := 8) (k := 11) (ty := .array .int) C rfl rfl (by decide) rfl (by decide) fl_X9_35 rfl hnm rfl (by decide +kernel) rfl rfl (by simp) rfl jX9_init_79 ?_
  refine sg0 C foX9 coX9 oX9_init_82 rfl rfl rfl ?_
  refine gA (atype := .int) (j := 0) (N' := 4000) (a0 := (4000, .inl (fun _ => 0))) C hN (by decide) rfl ac_int (ca_int C) (fun cA => rfl) (by decide) (by decide) (by decide) ⟨(Nat.le_of_ble_eq_true rfl), (Nat.le_of_ble_eq_true rfl)⟩ rfl rfl rfl jX9_init_86 (fun ad10 hg10 hf10 hAD C => ?_)
  have hg0 := hg0.tr (by decide) hg10
  have hf0 := fr_app hf0 hg10 (fr_one hf10)
  refine pF (t := 0) (ci := 8) (k := 13) (ty := .array .int) C rfl rfl (by decide) rfl (by decide) fl_X9_38 rfl hnm rfl (by decide +kernel) rfl rfl (by simp) rfl jX9_init_88 ?_
  refine sg0 C foX9 coX9 oX9_init_91 rfl rfl rfl ?_
  refine gA (atype := .int) (j := 0) (N' := 800) (a0 := (800, .inl (fun _ => 0))) C hN (by decide) rfl ac_int (ca_int C) (fun cA => rfl) (by decide) (by decide) (by decide) ⟨(Nat.le_of_ble_eq_true rfl), (Nat.le_of_ble_eq_true rfl)⟩ rfl rfl rfl jX9_init_95 (fun ad11 hg11 hf11 hAD C => ?_)
  have hg0 := hg0.tr (by decide) hg11
  have hf0 := fr_app hf0 hg11 (fr_one hf11)
  refine pF (t := 0) (ci := 8) (k := 15) (ty := .array .int) C rfl rfl (by decide) rfl (by decide) fl_X9_41 rfl hnm rfl (by decide +kernel) rfl rfl (by simp) rfl jX9_init_97 ?_
  refine sg0 C foX9 coX9 oX9_init_100 rfl rfl rfl ?_
  refine gA (atype := .int) (j := 0) (N' := 800) (a0 := (800, .inl (fun _ => 0))) C hN (by decide) rfl ac_int (ca_int C) (fun cA => rfl) (by decide) (by decide) (by decide) ⟨(Nat.le_of_ble_eq_true rfl), (Nat.le_of_ble_eq_true rfl)⟩ rfl rfl rfl jX9_init_104 (fun ad12 hg12 hf12 hAD C => ?_)
  have hg0 := hg0.tr (by decide) hg12
  have hf0 := fr_app hf0 hg12 (fr_one hf12)
  refine pF (t := 0) (ci := 8) (k := 16) (ty := .array .int) C rfl rfl (by decide) rfl (by decide) fl_X9_44 rfl hnm rfl (by decide +kernel) rfl rfl (by simp) rfl jX9_init_106 ?_
  refine sg0 C foX9 coX9 oX9_init_109 rfl rfl rfl ?_
  refine gA (atype := .int) (j := 0) (N' := 800) (a0 := (800, .inl (fun _ => 0))) C hN (by decide) rfl ac_int (ca_int C) (fun cA => rfl) (by decide) (by decide) (by decide) ⟨(Nat.le_of_ble_eq_true rfl), (Nat.le_of_ble_eq_true rfl)⟩ rfl rfl rfl jX9_init_113 (fun ad13 hg13 hf13 hAD C => ?_)
  have hg0 := hg0.tr (by decide) hg13
  have hf0 := fr_app hf0 hg13 (fr_one hf13)
  refine pF (t := 0) (ci := 8) (k := 17) (ty := .array .int) C rfl rfl (by decide) rfl (by decide) fl_X9_47 rfl hnm rfl (by decide +kernel) rfl rfl (by simp) rfl jX9_init_115 ?_
  refine sg0 C foX9 coX9 oX9_init_118 rfl rfl rfl ?_
  refine gA (atype := .int) (j := 0) (N' := 800) (a0 := (800, .inl (fun _ => 0))) C hN (by decide) rfl ac_int (ca_int C) (fun cA => rfl) (by decide) (by decide) (by decide) ⟨(Nat.le_of_ble_eq_true rfl), (Nat.le_of_ble_eq_true rfl)⟩ rfl rfl rfl jX9_init_122 (fun ad14 hg14 hf14 hAD C => ?_)
  have hg0 := hg0.tr (by decide) hg14
  have hf0 := fr_app hf0 hg14 (fr_one hf14)
  refine pF (t := 0) (ci := 8) (k := 18) (ty := .array .int) C rfl rfl (by decide) rfl (by decide) fl_X9_50 rfl hnm rfl (by decide +kernel) rfl rfl (by simp) rfl jX9_init_124 ?_
  refine sg0 C foX9 coX9 oX9_init_127 rfl rfl rfl ?_
  refine gA (atype := .int) (j := 0) (N' := 1600) (a0 := (1600, .inl (fun _ => 0))) C hN (by decide) rfl ac_int (ca_int C) (fun cA => rfl) (by decide) (by decide) (by decide) ⟨(Nat.le_of_ble_eq_true rfl), (Nat.le_of_ble_eq_true rfl)⟩ rfl rfl rfl jX9_init_131 (fun ad15 hg15 hf15 hAD C => ?_)
  have hg0 := hg0.tr (by decide) hg15
  have hf0 := fr_app hf0 hg15 (fr_one hf15)
  refine pF (t := 0) (ci := 8) (k := 20) (ty := .array .int) C rfl rfl (by decide) rfl (by decide) fl_X9_53 rfl hnm rfl (by decide +kernel) rfl rfl (by simp) rfl jX9_init_133 ?_
  refine sg0 C foX9 coX9 oX9_init_136 rfl rfl rfl ?_
  refine gA (atype := .int) (j := 0) (N' := 1600) (a0 := (1600, .inl (fun _ => 0))) C hN (by decide) rfl ac_int (ca_int C) (fun cA => rfl) (by decide) (by decide) (by decide) ⟨(Nat.le_of_ble_eq_true rfl), (Nat.le_of_ble_eq_true rfl)⟩ rfl rfl rfl jX9_init_140 (fun ad16 hg16 hf16 hAD C => ?_)
  have hg0 := hg0.tr (by decide) hg16
  have hf0 := fr_app hf0 hg16 (fr_one hf16)
  refine pF (t := 0) (ci := 8) (k := 21) (ty := .array .int) C rfl rfl (by decide) rfl (by decide) fl_X9_56 rfl hnm rfl (by decide +kernel) rfl rfl (by simp) rfl jX9_init_142 ?_
  refine sg0 C foX9 coX9 oX9_init_145 rfl rfl rfl ?_
  refine gA (atype := .int) (j := 0) (N' := 1600) (a0 := (1600, .inl (fun _ => 0))) C hN (by decide) rfl ac_int (ca_int C) (fun cA => rfl) (by decide) (by decide) (by decide) ⟨(Nat.le_of_ble_eq_true rfl), (Nat.le_of_ble_eq_true rfl)⟩ rfl rfl rfl jX9_init_149 (fun ad17 hg17 hf17 hAD C => ?_)
  have hg0 := hg0.tr (by decide) hg17
  have hf0 := fr_app hf0 hg17 (fr_one hf17)
  refine pF (t := 0) (ci := 8) (k := 22) (ty := .array .int) C rfl rfl (by decide) rfl (by decide) fl_X9_59 rfl hnm rfl (by decide +kernel) rfl rfl (by simp) rfl jX9_init_151 ?_
  refine sg0 C foX9 coX9 oX9_init_154 rfl rfl rfl ?_
  refine gA (atype := .long) (j := 1) (N' := 1600) (a0 := (1600, .inr (.inl (fun _ => 0)))) C hN (by decide) rfl ac_long (ca_long C) (fun cA => rfl) (by decide) (by decide) (by decide) ⟨(Nat.le_of_ble_eq_true rfl), (Nat.le_of_ble_eq_true rfl)⟩ rfl rfl rfl jX9_init_158 (fun ad18 hg18 hf18 hAD C => ?_)
  have hg0 := hg0.tr (by decide) hg18
  have hf0 := fr_app hf0 hg18 (fr_one hf18)
  refine pF (t := 0) (ci := 8) (k := 23) (ty := .array .long) C rfl rfl (by decide) rfl (by decide) fl_X9_62 rfl hnm rfl (by decide +kernel) rfl rfl (by simp) rfl jX9_init_160 ?_
  refine sg0 C foX9 coX9 oX9_init_163 rfl rfl rfl ?_
  refine gA (atype := .int) (j := 0) (N' := 1600) (a0 := (1600, .inl (fun _ => 0))) C hN (by decide) rfl ac_int (ca_int C) (fun cA => rfl) (by decide) (by decide) (by decide) ⟨(Nat.le_of_ble_eq_true rfl), (Nat.le_of_ble_eq_true rfl)⟩ rfl rfl rfl jX9_init_167 (fun ad19 hg19 hf19 hAD C => ?_)
  have hg0 := hg0.tr (by decide) hg19
  have hf0 := fr_app hf0 hg19 (fr_one hf19)
  refine pF (t := 0) (ci := 8) (k := 24) (ty := .array .int) C rfl rfl (by decide) rfl (by decide) fl_X9_65 rfl hnm rfl (by decide +kernel) rfl rfl (by simp) rfl jX9_init_169 ?_
  refine sg0 C foX9 coX9 oX9_init_172 rfl rfl rfl ?_
  refine gA (atype := .int) (j := 0) (N' := 1600) (a0 := (1600, .inl (fun _ => 0))) C hN (by decide) rfl ac_int (ca_int C) (fun cA => rfl) (by decide) (by decide) (by decide) ⟨(Nat.le_of_ble_eq_true rfl), (Nat.le_of_ble_eq_true rfl)⟩ rfl rfl rfl jX9_init_176 (fun ad20 hg20 hf20 hAD C => ?_)
  have hg0 := hg0.tr (by decide) hg20
  have hf0 := fr_app hf0 hg20 (fr_one hf20)
  refine pF (t := 0) (ci := 8) (k := 25) (ty := .array .int) C rfl rfl (by decide) rfl (by decide) fl_X9_68 rfl hnm rfl (by decide +kernel) rfl rfl (by simp) rfl jX9_init_178 ?_
  refine sg0 C foX9 coX9 oX9_init_181 rfl rfl rfl ?_
  refine gA (atype := .long) (j := 1) (N' := 1600) (a0 := (1600, .inr (.inl (fun _ => 0)))) C hN (by decide) rfl ac_long (ca_long C) (fun cA => rfl) (by decide) (by decide) (by decide) ⟨(Nat.le_of_ble_eq_true rfl), (Nat.le_of_ble_eq_true rfl)⟩ rfl rfl rfl jX9_init_185 (fun ad21 hg21 hf21 hAD C => ?_)
  have hg0 := hg0.tr (by decide) hg21
  have hf0 := fr_app hf0 hg21 (fr_one hf21)
  refine pF (t := 0) (ci := 8) (k := 26) (ty := .array .long) C rfl rfl (by decide) rfl (by decide) fl_X9_71 rfl hnm rfl (by decide +kernel) rfl rfl (by simp) rfl jX9_init_187 ?_
  refine sg0 C foX9 coX9 oX9_init_190 rfl rfl rfl ?_
  refine gA (atype := .int) (j := 0) (N' := 1600) (a0 := (1600, .inl (fun _ => 0))) C hN (by decide) rfl ac_int (ca_int C) (fun cA => rfl) (by decide) (by decide) (by decide) ⟨(Nat.le_of_ble_eq_true rfl), (Nat.le_of_ble_eq_true rfl)⟩ rfl rfl rfl jX9_init_194 (fun ad22 hg22 hf22 hAD C => ?_)
  have hg0 := hg0.tr (by decide) hg22
  have hf0 := fr_app hf0 hg22 (fr_one hf22)
  refine pF (t := 0) (ci := 8) (k := 27) (ty := .array .int) C rfl rfl (by decide) rfl (by decide) fl_X9_74 rfl hnm rfl (by decide +kernel) rfl rfl (by simp) rfl jX9_init_196 ?_
  refine sg0 C foX9 coX9 oX9_init_199 rfl rfl rfl ?_
  refine gA (atype := .int) (j := 0) (N' := 800) (a0 := (800, .inl (fun _ => 0))) C hN (by decide) rfl ac_int (ca_int C) (fun cA => rfl) (by decide) (by decide) (by decide) ⟨(Nat.le_of_ble_eq_true rfl), (Nat.le_of_ble_eq_true rfl)⟩ rfl rfl rfl jX9_init_209 (fun ad23 hg23 hf23 hAD C => ?_)
  have hg0 := hg0.tr (by decide) hg23
  have hf0 := fr_app hf0 hg23 (fr_one hf23)
  refine pF (t := 0) (ci := 8) (k := 31) (ty := .array .int) C rfl rfl (by decide) rfl (by decide) fl_X9_81 rfl hnm rfl (by decide +kernel) rfl rfl (by simp) rfl jX9_init_211 ?_
  refine sg0 C foX9 coX9 oX9_init_214 rfl rfl rfl ?_
  exact rt_N C hg0 hf0 rfl hr hlk jX9_init_220 (fun H hH => ⟨rfl, hH⟩)
end
