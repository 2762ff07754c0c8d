theorem hi_0 {P B : Nat} (h : ¬ nI (bitA P B) = 1) : nI (bitA P B) = 0 := by
  have h1 : bitA P B < 2 := Nat.mod_lt _ (by decide)
  rcases (show bitA P B = 0 ∨ bitA P B = 1 by omega) with e | e
  · rw [e]; rfl
  · rw [e] at h; exact absurd rfl h
theorem bitA_lt (P B : Nat) : bitA P B < 2 := Nat.mod_lt _ (by decide)
/-! small methods without cells, of the class -/
section
variable {l : Launch} {D : va_G} {ca : Nat → ClassId} {ad : Nat → Nat} {ws : List va_E} {n : Nat} {N : Heap → Prop}
set_option maxRecDepth 100000 in
set_option maxHeartbeats 4000000 in
theorem kX8_isPath (hAD : AD ad n) (hn : ws.length = n) (hN : NS D N) (x : Int32) : Ct l yX8_isPath cX8_isPath 1 (some .boolean) (rK 0 0 0) D ca ad ws n [.int x] N (pG ws N (some (.int (if 0 ≤ x ∧ x ≤ 65535 then 1 else 0)))) := by
  refine enter (lv := [(0, .int x)]) (by decide +kernel) (Nat.le_of_ble_eq_true rfl) rfl hAD (fun U hK => ns_write hK hN) ?_
  intro p e s m below meth c A args hA C hr hlk hnm
  refine sg0 C foX8 coX8 oX8_isPath_0 rfl rfl hn ?_
  refine b1_lt (tgt := 14) C jX8_isPath_1 (by decide) (fun h1 => ?_) (fun h1 => ?_)
  · refine sg0 C foX8 coX8 oX8_isPath_14 rfl rfl hn ?_
    exact rt_z C hr hlk (by decide) jX8_isPath_15 (fun H hN => ⟨⟨by rw [if_neg (fun h => absurd h.1 (Int32.not_le.mpr h1))], rfl⟩, hN⟩)
  · refine sg0 C foX8 coX8 oX8_isPath_4 rfl rfl hn ?_
    refine b2_gt (tgt := 14) C jX8_isPath_7 (by decide) (fun h7 => ?_) (fun h7 => ?_)
    · refine sg0 C foX8 coX8 oX8_isPath_14 rfl rfl hn ?_
      exact rt_z C hr hlk (by decide) jX8_isPath_15 (fun H hN => ⟨⟨by rw [if_neg (fun h => absurd h.2 (Int32.not_le.mpr h7))], rfl⟩, hN⟩)
    · refine sg0 C foX8 coX8 oX8_isPath_10 rfl rfl hn ?_
      exact rt_z C hr hlk (by decide) jX8_isPath_15 (fun H hN => ⟨⟨by rw [if_pos ⟨Int32.not_lt.mp h1, Int32.not_lt.mp h7⟩], rfl⟩, hN⟩)
set_option maxRecDepth 100000 in
set_option maxHeartbeats 4000000 in
theorem kX8_mix (hAD : AD ad n) (hn : ws.length = n) (hN : NS D N) (x y : Int64) : Ct l yX8_mix cX8_mix 6 (some .long) (rK 0 0 0) D ca ad ws n [.long x, .long y] N (pG ws N (some (.long (mixF x y)))) := by
  refine enter (lv := [(0, .long x), (2, .long y)]) (by decide +kernel) (Nat.le_of_ble_eq_true rfl) rfl hAD (fun U hK => ns_write hK hN) ?_
  intro p e s m below meth c A args hA C hr hlk hnm
  refine sg0 C foX8 coX8 oX8_mix_0 rfl rfl hn ?_
  exact rt_l C hr hlk jX8_mix_31 (fun H hN => ⟨⟨rfl, rfl⟩, hN⟩)
set_option maxRecDepth 100000 in
set_option maxHeartbeats 4000000 in
theorem kX8_leafDigest (hAD : AD ad n) (hn : ws.length = n) (hN : NS D N) (P : Nat) (v : Int64) : Ct l yX8_leafDigest cX8_leafDigest 3 (some .long) (rK 1 0 0) D ca ad ws n [.int (nI P), .long v] N (pG ws N (some (.long (leafF P v)))) := by
  refine enter (lv := [(0, .int (nI P)), (1, .long v)]) (by decide +kernel) (Nat.le_of_ble_eq_true rfl) rfl hAD (fun U hK => ns_write hK hN) ?_
  intro p e s m below meth c A args hA C hr hlk hnm
  refine sg0 C foX8 coX8 oX8_leafDigest_0 rfl rfl hn ?_
  refine cl_s C (kX8_mix hAD hn hN 0 1) cd_X8_mix in_X8 ml_X8_161 sm_X8_mix hd_X8_mix rfl rfl ⟨(Nat.le_of_ble_eq_true rfl), (Nat.le_of_ble_eq_true rfl)⟩ ⟨(Nat.le_of_ble_eq_true rfl), (Nat.le_of_ble_eq_true rfl)⟩ (Nat.le_of_ble_eq_true rfl) jX8_leafDigest_2 (fun v ws' => Wa.and (fun hv => ?_))
  obtain ⟨rfl, rfl⟩ := hv
  refine sg0 C foX8 coX8 oX8_leafDigest_5 rfl rfl hn ?_
  refine cl_s C (kX8_mix hAD hn hN _ _) cd_X8_mix in_X8 ml_X8_161 sm_X8_mix hd_X8_mix rfl rfl ⟨(Nat.le_of_ble_eq_true rfl), (Nat.le_of_ble_eq_true rfl)⟩ ⟨(Nat.le_of_ble_eq_true rfl), (Nat.le_of_ble_eq_true rfl)⟩ (Nat.le_of_ble_eq_true rfl) jX8_leafDigest_7 (fun v ws' => Wa.and (fun hv => ?_))
  obtain ⟨rfl, rfl⟩ := hv
  refine sg0 C foX8 coX8 oX8_leafDigest_10 rfl rfl hn ?_
  refine cl_s C (kX8_mix hAD hn hN _ _) cd_X8_mix in_X8 ml_X8_161 sm_X8_mix hd_X8_mix rfl rfl ⟨(Nat.le_of_ble_eq_true rfl), (Nat.le_of_ble_eq_true rfl)⟩ ⟨(Nat.le_of_ble_eq_true rfl), (Nat.le_of_ble_eq_true rfl)⟩ (Nat.le_of_ble_eq_true rfl) jX8_leafDigest_11 (fun v ws' => Wa.and (fun hv => ?_))
  obtain ⟨rfl, rfl⟩ := hv
  exact rt_l C hr hlk jX8_leafDigest_14 (fun H hN => ⟨⟨rfl, rfl⟩, hN⟩)
set_option maxRecDepth 100000 in
set_option maxHeartbeats 4000000 in
theorem kX8_forkDigest (hAD : AD ad n) (hn : ws.length = n) (hN : NS D N) (B S : Nat) (x y : Int64) : Ct l yX8_forkDigest cX8_forkDigest 6 (some .long) (rK 1 0 0) D ca ad ws n [.int (nI B), .int (nI S), .long x, .long y] N (pG ws N (some (.long (forkF B S x y)))) := by
  refine enter (lv := [(0, .int (nI B)), (1, .int (nI S)), (2, .long x), (4, .long y)]) (by decide +kernel) (Nat.le_of_ble_eq_true rfl) rfl hAD (fun U hK => ns_write hK hN) ?_
  intro p e s m below meth c A args hA C hr hlk hnm
  refine sg0 C foX8 coX8 oX8_forkDigest_0 rfl rfl hn ?_
  refine cl_s C (kX8_mix hAD hn hN _ _) cd_X8_mix in_X8 ml_X8_161 sm_X8_mix hd_X8_mix rfl rfl ⟨(Nat.le_of_ble_eq_true rfl), (Nat.le_of_ble_eq_true rfl)⟩ ⟨(Nat.le_of_ble_eq_true rfl), (Nat.le_of_ble_eq_true rfl)⟩ (Nat.le_of_ble_eq_true rfl) jX8_forkDigest_4 (fun v ws' => Wa.and (fun hv => ?_))
  obtain ⟨rfl, rfl⟩ := hv
  refine sg0 C foX8 coX8 oX8_forkDigest_7 rfl rfl hn ?_
  refine cl_s C (kX8_mix hAD hn hN _ _) cd_X8_mix in_X8 ml_X8_161 sm_X8_mix hd_X8_mix rfl rfl ⟨(Nat.le_of_ble_eq_true rfl), (Nat.le_of_ble_eq_true rfl)⟩ ⟨(Nat.le_of_ble_eq_true rfl), (Nat.le_of_ble_eq_true rfl)⟩ (Nat.le_of_ble_eq_true rfl) jX8_forkDigest_9 (fun v ws' => Wa.and (fun hv => ?_))
  obtain ⟨rfl, rfl⟩ := hv
  refine sg0 C foX8 coX8 oX8_forkDigest_12 rfl rfl hn ?_
  refine cl_s C (kX8_mix hAD hn hN _ _) cd_X8_mix in_X8 ml_X8_161 sm_X8_mix hd_X8_mix rfl rfl ⟨(Nat.le_of_ble_eq_true rfl), (Nat.le_of_ble_eq_true rfl)⟩ ⟨(Nat.le_of_ble_eq_true rfl), (Nat.le_of_ble_eq_true rfl)⟩ (Nat.le_of_ble_eq_true rfl) jX8_forkDigest_14 (fun v ws' => Wa.and (fun hv => ?_))
  obtain ⟨rfl, rfl⟩ := hv
  refine sg0 C foX8 coX8 oX8_forkDigest_17 rfl rfl hn ?_
  refine cl_s C (kX8_mix hAD hn hN _ _) cd_X8_mix in_X8 ml_X8_161 sm_X8_mix hd_X8_mix rfl rfl ⟨(Nat.le_of_ble_eq_true rfl), (Nat.le_of_ble_eq_true rfl)⟩ ⟨(Nat.le_of_ble_eq_true rfl), (Nat.le_of_ble_eq_true rfl)⟩ (Nat.le_of_ble_eq_true rfl) jX8_forkDigest_18 (fun v ws' => Wa.and (fun hv => ?_))
  obtain ⟨rfl, rfl⟩ := hv
  refine sg0 C foX8 coX8 oX8_forkDigest_21 rfl rfl hn ?_
  refine cl_s C (kX8_mix hAD hn hN _ _) cd_X8_mix in_X8 ml_X8_161 sm_X8_mix hd_X8_mix rfl rfl ⟨(Nat.le_of_ble_eq_true rfl), (Nat.le_of_ble_eq_true rfl)⟩ ⟨(Nat.le_of_ble_eq_true rfl), (Nat.le_of_ble_eq_true rfl)⟩ (Nat.le_of_ble_eq_true rfl) jX8_forkDigest_23 (fun v ws' => Wa.and (fun hv => ?_))
  obtain ⟨rfl, rfl⟩ := hv
  exact rt_l C hr hlk jX8_forkDigest_26 (fun H hN => ⟨⟨rfl, rfl⟩, hN⟩)
set_option maxRecDepth 100000 in
set_option maxHeartbeats 4000000 in
theorem kX9_isPath (hAD : AD ad n) (hn : ws.length = n) (hN : NS D N) (x : Int32) : Ct l yX9_isPath cX9_isPath 1 (some .boolean) (rK 0 0 0) D ca ad ws n [.int x] N (pG ws N (some (.int (if 0 ≤ x ∧ x ≤ 65535 then 1 else 0)))) := by
  refine enter (lv := [(0, .int x)]) (by decide +kernel) (Nat.le_of_ble_eq_true rfl) rfl hAD (fun U hK => ns_write hK hN) ?_
  intro p e s m below meth c A args hA C hr hlk hnm
  refine sg0 C foX9 coX9 oX9_isPath_0 rfl rfl hn ?_
  refine b1_lt (tgt := 14) C jX9_isPath_1 (by decide) (fun h1 => ?_) (fun h1 => ?_)
  · refine sg0 C foX9 coX9 oX9_isPath_14 rfl rfl hn ?_
    exact rt_z C hr hlk (by decide) jX9_isPath_15 (fun H hN => ⟨⟨by rw [if_neg (fun h => absurd h.1 (Int32.not_le.mpr h1))], rfl⟩, hN⟩)
  · refine sg0 C foX9 coX9 oX9_isPath_4 rfl rfl hn ?_
    refine b2_gt (tgt := 14) C jX9_isPath_7 (by decide) (fun h7 => ?_) (fun h7 => ?_)
    · refine sg0 C foX9 coX9 oX9_isPath_14 rfl rfl hn ?_
      exact rt_z C hr hlk (by decide) jX9_isPath_15 (fun H hN => ⟨⟨by rw [if_neg (fun h => absurd h.2 (Int32.not_le.mpr h7))], rfl⟩, hN⟩)
    · refine sg0 C foX9 coX9 oX9_isPath_10 rfl rfl hn ?_
      exact rt_z C hr hlk (by decide) jX9_isPath_15 (fun H hN => ⟨⟨by rw [if_pos ⟨Int32.not_lt.mp h1, Int32.not_lt.mp h7⟩], rfl⟩, hN⟩)
set_option maxRecDepth 100000 in
set_option maxHeartbeats 4000000 in
theorem kX9_mix (hAD : AD ad n) (hn : ws.length = n) (hN : NS D N) (x y : Int64) : Ct l yX9_mix cX9_mix 6 (some .long) (rK 0 0 0) D ca ad ws n [.long x, .long y] N (pG ws N (some (.long (mixF x y)))) := by
  refine enter (lv := [(0, .long x), (2, .long y)]) (by decide +kernel) (Nat.le_of_ble_eq_true rfl) rfl hAD (fun U hK => ns_write hK hN) ?_
  intro p e s m below meth c A args hA C hr hlk hnm
  refine sg0 C foX9 coX9 oX9_mix_0 rfl rfl hn ?_
  exact rt_l C hr hlk jX9_mix_31 (fun H hN => ⟨⟨rfl, rfl⟩, hN⟩)
set_option maxRecDepth 100000 in
set_option maxHeartbeats 4000000 in
theorem kX9_leafDigest (hAD : AD ad n) (hn : ws.length = n) (hN : NS D N) (P : Nat) (v : Int64) : Ct l yX9_leafDigest cX9_leafDigest 3 (some .long) (rK 1 0 0) D ca ad ws n [.int (nI P), .long v] N (pG ws N (some (.long (leafF P v)))) := by
  refine enter (lv := [(0, .int (nI P)), (1, .long v)]) (by decide +kernel) (Nat.le_of_ble_eq_true rfl) rfl hAD (fun U hK => ns_write hK hN) ?_
  intro p e s m below meth c A args hA C hr hlk hnm
  refine sg0 C foX9 coX9 oX9_leafDigest_0 rfl rfl hn ?_
  refine cl_s C (kX9_mix hAD hn hN 0 1) cd_X9_mix in_X9 ml_X9_92 sm_X9_mix hd_X9_mix rfl rfl ⟨(Nat.le_of_ble_eq_true rfl), (Nat.le_of_ble_eq_true rfl)⟩ ⟨(Nat.le_of_ble_eq_true rfl), (Nat.le_of_ble_eq_true rfl)⟩ (Nat.le_of_ble_eq_true rfl) jX9_leafDigest_2 (fun v ws' => Wa.and (fun hv => ?_))
  obtain ⟨rfl, rfl⟩ := hv
  refine sg0 C foX9 coX9 oX9_leafDigest_5 rfl rfl hn ?_
  refine cl_s C (kX9_mix hAD hn hN _ _) cd_X9_mix in_X9 ml_X9_92 sm_X9_mix hd_X9_mix rfl rfl ⟨(Nat.le_of_ble_eq_true rfl), (Nat.le_of_ble_eq_true rfl)⟩ ⟨(Nat.le_of_ble_eq_true rfl), (Nat.le_of_ble_eq_true rfl)⟩ (Nat.le_of_ble_eq_true rfl) jX9_leafDigest_7 (fun v ws' => Wa.and (fun hv => ?_))
  obtain ⟨rfl, rfl⟩ := hv
  refine sg0 C foX9 coX9 oX9_leafDigest_10 rfl rfl hn ?_
  refine cl_s C (kX9_mix hAD hn hN _ _) cd_X9_mix in_X9 ml_X9_92 sm_X9_mix hd_X9_mix rfl rfl ⟨(Nat.le_of_ble_eq_true rfl), (Nat.le_of_ble_eq_true rfl)⟩ ⟨(Nat.le_of_ble_eq_true rfl), (Nat.le_of_ble_eq_true rfl)⟩ (Nat.le_of_ble_eq_true rfl) jX9_leafDigest_11 (fun v ws' => Wa.and (fun hv => ?_))
  obtain ⟨rfl, rfl⟩ := hv
  exact rt_l C hr hlk jX9_leafDigest_14 (fun H hN => ⟨⟨rfl, rfl⟩, hN⟩)
set_option maxRecDepth 100000 in
set_option maxHeartbeats 4000000 in
theorem kX9_forkDigest (hAD : AD ad n) (hn : ws.length = n) (hN : NS D N) (B S : Nat) (x y : Int64) : Ct l yX9_forkDigest cX9_forkDigest 6 (some .long) (rK 1 0 0) D ca ad ws n [.int (nI B), .int (nI S), .long x, .long y] N (pG ws N (some (.long (forkF B S x y)))) := by
  refine enter (lv := [(0, .int (nI B)), (1, .int (nI S)), (2, .long x), (4, .long y)]) (by decide +kernel) (Nat.le_of_ble_eq_true rfl) rfl hAD (fun U hK => ns_write hK hN) ?_
  intro p e s m below meth c A args hA C hr hlk hnm
  refine sg0 C foX9 coX9 oX9_forkDigest_0 rfl rfl hn ?_
  refine cl_s C (kX9_mix hAD hn hN _ _) cd_X9_mix in_X9 ml_X9_92 sm_X9_mix hd_X9_mix rfl rfl ⟨(Nat.le_of_ble_eq_true rfl), (Nat.le_of_ble_eq_true rfl)⟩ ⟨(Nat.le_of_ble_eq_true rfl), (Nat.le_of_ble_eq_true rfl)⟩ (Nat.le_of_ble_eq_true rfl) jX9_forkDigest_4 (fun v ws' => Wa.and (fun hv => ?_))
  obtain ⟨rfl, rfl⟩ := hv
  refine sg0 C foX9 coX9 oX9_forkDigest_7 rfl rfl hn ?_
  refine cl_s C (kX9_mix hAD hn hN _ _) cd_X9_mix in_X9 ml_X9_92 sm_X9_mix hd_X9_mix rfl rfl ⟨(Nat.le_of_ble_eq_true rfl), (Nat.le_of_ble_eq_true rfl)⟩ ⟨(Nat.le_of_ble_eq_true rfl), (Nat.le_of_ble_eq_true rfl)⟩ (Nat.le_of_ble_eq_true rfl) jX9_forkDigest_9 (fun v ws' => Wa.and (fun hv => ?_))
  obtain ⟨rfl, rfl⟩ := hv
  refine sg0 C foX9 coX9 oX9_forkDigest_12 rfl rfl hn ?_
  refine cl_s C (kX9_mix hAD hn hN _ _) cd_X9_mix in_X9 ml_X9_92 sm_X9_mix hd_X9_mix rfl rfl ⟨(Nat.le_of_ble_eq_true rfl), (Nat.le_of_ble_eq_true rfl)⟩ ⟨(Nat.le_of_ble_eq_true rfl), (Nat.le_of_ble_eq_true rfl)⟩ (Nat.le_of_ble_eq_true rfl) jX9_forkDigest_14 (fun v ws' => Wa.and (fun hv => ?_))
  obtain ⟨rfl, rfl⟩ := hv
  refine sg0 C foX9 coX9 oX9_forkDigest_17 rfl rfl hn ?_
  refine cl_s C (kX9_mix hAD hn hN _ _) cd_X9_mix in_X9 ml_X9_92 sm_X9_mix hd_X9_mix rfl rfl ⟨(Nat.le_of_ble_eq_true rfl), (Nat.le_of_ble_eq_true rfl)⟩ ⟨(Nat.le_of_ble_eq_true rfl), (Nat.le_of_ble_eq_true rfl)⟩ (Nat.le_of_ble_eq_true rfl) jX9_forkDigest_18 (fun v ws' => Wa.and (fun hv => ?_))
  obtain ⟨rfl, rfl⟩ := hv
  refine sg0 C foX9 coX9 oX9_forkDigest_21 rfl rfl hn ?_
  refine cl_s C (kX9_mix hAD hn hN _ _) cd_X9_mix in_X9 ml_X9_92 sm_X9_mix hd_X9_mix rfl rfl ⟨(Nat.le_of_ble_eq_true rfl), (Nat.le_of_ble_eq_true rfl)⟩ ⟨(Nat.le_of_ble_eq_true rfl), (Nat.le_of_ble_eq_true rfl)⟩ (Nat.le_of_ble_eq_true rfl) jX9_forkDigest_23 (fun v ws' => Wa.and (fun hv => ?_))
  obtain ⟨rfl, rfl⟩ := hv
  exact rt_l C hr hlk jX9_forkDigest_26 (fun H hN => ⟨⟨rfl, rfl⟩, hN⟩)
set_option maxRecDepth 100000 in
set_option maxHeartbeats 4000000 in
theorem kX8_emptyDigest (hAD : AD ad n) (hn : ws.length = n) (hN : NS D N)  : Ct l yX8_emptyDigest cX8_emptyDigest 0 (some .long) (rK 1 0 0) D ca ad ws n [] N (pG ws N (some (.long emptyF))) := by
  refine enter (lv := []) (by decide +kernel) (Nat.le_of_ble_eq_true rfl) rfl hAD (fun U hK => ns_write hK hN) ?_
  intro p e s m below meth c A args hA C hr hlk hnm
  refine sg0 C foX8 coX8 oX8_emptyDigest_0 rfl rfl hn ?_
  refine cl_s C (kX8_mix hAD hn hN _ _) cd_X8_mix in_X8 ml_X8_161 sm_X8_mix hd_X8_mix rfl rfl ⟨(Nat.le_of_ble_eq_true rfl), (Nat.le_of_ble_eq_true rfl)⟩ ⟨(Nat.le_of_ble_eq_true rfl), (Nat.le_of_ble_eq_true rfl)⟩ (Nat.le_of_ble_eq_true rfl) jX8_emptyDigest_4 (fun v ws' => Wa.and (fun hv => ?_))
  obtain ⟨rfl, rfl⟩ := hv
  exact rt_l C hr hlk jX8_emptyDigest_7 (fun H hN => ⟨⟨rfl, rfl⟩, hN⟩)
set_option maxRecDepth 100000 in
set_option maxHeartbeats 4000000 in
theorem kX8_isRange (hAD : AD ad n) (hn : ws.length = n) (hN : NS D N) (x y : Int32) : Ct l yX8_isRange cX8_isRange 2 (some .boolean) (rK 1 0 0) D ca ad ws n [.int x, .int y] N (pG ws N (some (.int (if (0 ≤ x ∧ x ≤ 65535) ∧ (0 ≤ y ∧ y ≤ 65535) ∧ x ≤ y then 1 else 0)))) := by
  refine enter (lv := [(0, .int x), (1, .int y)]) (by decide +kernel) (Nat.le_of_ble_eq_true rfl) rfl hAD (fun U hK => ns_write hK hN) ?_
  intro p e s m below meth c A args hA C hr hlk hnm
  refine sg0 C foX8 coX8 oX8_isRange_0 rfl rfl hn ?_
  refine cl_s C (kX8_isPath hAD hn hN _) cd_X8_isPath in_X8 ml_X8_53 sm_X8_isPath hd_X8_isPath rfl rfl ⟨(Nat.le_of_ble_eq_true rfl), (Nat.le_of_ble_eq_true rfl)⟩ ⟨(Nat.le_of_ble_eq_true rfl), (Nat.le_of_ble_eq_true rfl)⟩ (Nat.le_of_ble_eq_true rfl) jX8_isRange_1 (fun v ws' => Wa.and (fun hv => ?_))
  obtain ⟨rfl, rfl⟩ := hv
  refine b1_eq (tgt := 23) C jX8_isRange_4 (by decide) (fun h4 => ?_) (fun h4 => ?_)
  · refine sg0 C foX8 coX8 oX8_isRange_23 rfl rfl hn ?_
    exact rt_z C hr hlk (by decide) jX8_isRange_24 (fun H hN => ⟨⟨by rw [if_neg (fun h => by rw [if_pos h.1] at h4; cases h4)], rfl⟩, hN⟩)
  · refine sg0 C foX8 coX8 oX8_isRange_7 rfl rfl hn ?_
    refine cl_s C (kX8_isPath hAD hn hN _) cd_X8_isPath in_X8 ml_X8_53 sm_X8_isPath hd_X8_isPath rfl rfl ⟨(Nat.le_of_ble_eq_true rfl), (Nat.le_of_ble_eq_true rfl)⟩ ⟨(Nat.le_of_ble_eq_true rfl), (Nat.le_of_ble_eq_true rfl)⟩ (Nat.le_of_ble_eq_true rfl) jX8_isRange_8 (fun v ws' => Wa.and (fun hv => ?_))
    obtain ⟨rfl, rfl⟩ := hv
    refine b1_eq (tgt := 23) C jX8_isRange_11 (by decide) (fun h11 => ?_) (fun h11 => ?_)
    · refine sg0 C foX8 coX8 oX8_isRange_23 rfl rfl hn ?_
      exact rt_z C hr hlk (by decide) jX8_isRange_24 (fun H hN => ⟨⟨by rw [if_neg (fun h => by rw [if_pos h.2.1] at h11; cases h11)], rfl⟩, hN⟩)
    · refine sg0 C foX8 coX8 oX8_isRange_14 rfl rfl hn ?_
      refine b2_gt (tgt := 23) C jX8_isRange_16 (by decide) (fun h16 => ?_) (fun h16 => ?_)
      · refine sg0 C foX8 coX8 oX8_isRange_23 rfl rfl hn ?_
        exact rt_z C hr hlk (by decide) jX8_isRange_24 (fun H hN => ⟨⟨by rw [if_neg (fun h => absurd h.2.2 (Int32.not_le.mpr h16))], rfl⟩, hN⟩)
      · refine sg0 C foX8 coX8 oX8_isRange_19 rfl rfl hn ?_
        exact rt_z C hr hlk (by decide) jX8_isRange_24 (fun H hN => ⟨⟨by rw [if_pos ⟨Decidable.byContradiction fun h => h4 (if_neg h), Decidable.byContradiction fun h => h11 (if_neg h), Int32.not_lt.mp h16⟩], rfl⟩, hN⟩)
set_option maxRecDepth 100000 in
set_option maxHeartbeats 4000000 in
theorem kX8_isHigh (hAD : AD ad n) (hn : ws.length = n) (hN : NS D N) {P B : Nat} (hP : P < 65536) (hB : B ≤ 15) : Ct l yX8_isHigh cX8_isHigh 2 (some .boolean) (rK 0 0 0) D ca ad ws n [.int (nI P), .int (nI B)] N (pG ws N (some (.int (nI (bitA P B))))) := by
  refine enter (lv := [(0, .int (nI P)), (1, .int (nI B))]) (by decide +kernel) (Nat.le_of_ble_eq_true rfl) rfl hAD (fun U hK => ns_write hK hN) ?_
  intro p e s m below meth c A args hA C hr hlk hnm
  refine sg0 C foX8 coX8 oX8_isHigh_0 rfl rfl hn ?_
  refine b2_ne (tgt := 16) C jX8_isHigh_9 (by decide) (fun h9 => ?_) (fun h9 => ?_)
  · rw [bit_u hP hB] at h9
    refine sg0 C foX8 coX8 oX8_isHigh_16 rfl rfl hn ?_
    exact rt_z C hr hlk (by decide) jX8_isHigh_17 (fun H hN => ⟨⟨by rw [hi_0 h9], rfl⟩, hN⟩)
  · rw [bit_u hP hB] at h9
    refine sg0 C foX8 coX8 oX8_isHigh_12 rfl rfl hn ?_
    exact rt_z C hr hlk (by decide) jX8_isHigh_17 (fun H hN => ⟨⟨by rw [h9], rfl⟩, hN⟩)
set_option maxRecDepth 100000 in
set_option maxHeartbeats 4000000 in
theorem kX8_stemOf (hAD : AD ad n) (hn : ws.length = n) (hN : NS D N) {P B : Nat} (hP : P < 65536) (hB : B ≤ 16) : Ct l yX8_stemOf cX8_stemOf 2 (some .int) (rK 0 0 0) D ca ad ws n [.int (nI P), .int (nI B)] N (pG ws N (some (.int (nI (stm P B))))) := by
  refine enter (lv := [(0, .int (nI P)), (1, .int (nI B))]) (by decide +kernel) (Nat.le_of_ble_eq_true rfl) rfl hAD (fun U hK => ns_write hK hN) ?_
  intro p e s m below meth c A args hA C hr hlk hnm
  refine sg0 C foX8 coX8 oX8_stemOf_0 rfl rfl hn ?_
  exact rt_i C hr hlk jX8_stemOf_11 (fun H hN => ⟨⟨by rw [stm_u hP hB], rfl⟩, hN⟩)
set_option maxRecDepth 100000 in
set_option maxHeartbeats 4000000 in
theorem kX9_stemOf (hAD : AD ad n) (hn : ws.length = n) (hN : NS D N) {P B : Nat} (hP : P < 65536) (hB : B ≤ 16) : Ct l yX9_stemOf cX9_stemOf 2 (some .int) (rK 0 0 0) D ca ad ws n [.int (nI P), .int (nI B)] N (pG ws N (some (.int (nI (stm P B))))) := by
  refine enter (lv := [(0, .int (nI P)), (1, .int (nI B))]) (by decide +kernel) (Nat.le_of_ble_eq_true rfl) rfl hAD (fun U hK => ns_write hK hN) ?_
  intro p e s m below meth c A args hA C hr hlk hnm
  refine sg0 C foX9 coX9 oX9_stemOf_0 rfl rfl hn ?_
  exact rt_i C hr hlk jX9_stemOf_11 (fun H hN => ⟨⟨by rw [stm_s hP hB], rfl⟩, hN⟩)
end
