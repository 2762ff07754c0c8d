abbrev rZ : Room := { frames := 0, cells := 0, slots := 0, locals := 0 }
abbrev pG (ws : List va_E) (N : Heap → Prop) (r : Option Value) : Option Value → List va_E → Heap → Prop := fun v ws' H => (v = r ∧ ws' = ws) ∧ N H
def mixF (h x : Int64) : Int64 := ((((h ^^^ x) * (-7046029254386353131)) ^^^ (((h ^^^ x) * (-7046029254386353131)).toUInt64 >>> ((29 : Int32).toInt64.toUInt64 &&& Int64.toUInt64 63)).toInt64) * (-4658895280553007687)) ^^^ ((((((h ^^^ x) * (-7046029254386353131)) ^^^ (((h ^^^ x) * (-7046029254386353131)).toUInt64 >>> ((29 : Int32).toInt64.toUInt64 &&& Int64.toUInt64 63)).toInt64) * (-4658895280553007687))).toUInt64 >>> ((32 : Int32).toInt64.toUInt64 &&& Int64.toUInt64 63)).toInt64
section
variable {l : Launch} {D : va_G} {ca : Nat → ClassId} {ad : Nat → Nat} {ws : List va_E} {n : Nat} {N : Heap → Prop}
set_option maxRecDepth 100000 in
theorem c_isPath (hAD : AD ad n) (hn : ws.length = n) (hNS : ∀ U, KS D ca U → NSt D ca ad N) (x : Int32) : Ct l yX8_isPath cX8_isPath 1 (some .boolean) rZ D ca ad ws n [.int x] N (pG ws N (some (.int (if 0 ≤ x ∧ x ≤ 65535 then 1 else 0)))) := by
  refine enter (lv := [(0, .int x)]) (by decide +kernel) (Nat.le_of_ble_eq_true rfl) rfl hAD hNS ?_
  intro p e s m below meth c A args hA C hr hlk hnm
  refine sg0 C foX8 coX8 oX8_isPath_0 rfl rfl hn ?_
  refine b1_lt (tgt := 14) C jX8_isPath_1 (by decide) (fun h1 => ?_) (fun h1 => ?_)
  · refine sg0 C foX8 coX8 oX8_isPath_14 rfl rfl hn ?_
    exact rt_z C hr hlk rfl jX8_isPath_15 (fun H hN => ⟨⟨by rw [if_neg (fun h => absurd h.1 (Int32.not_le.mpr h1))], rfl⟩, hN⟩)
  · refine sg0 C foX8 coX8 oX8_isPath_4 rfl rfl hn ?_
    refine b2_gt (tgt := 14) C jX8_isPath_7 (by decide) (fun h2 => ?_) (fun h2 => ?_)
    · refine sg0 C foX8 coX8 oX8_isPath_14 rfl rfl hn ?_
      exact rt_z C hr hlk rfl jX8_isPath_15 (fun H hN => ⟨⟨by rw [if_neg (fun h => absurd h.2 (Int32.not_le.mpr h2))], rfl⟩, hN⟩)
    · refine sg0 C foX8 coX8 oX8_isPath_10 rfl rfl hn ?_
      exact rt_z C hr hlk rfl jX8_isPath_15 (fun H hN => ⟨⟨by rw [if_pos ⟨Int32.not_lt.mp h1, Int32.not_lt.mp h2⟩], rfl⟩, hN⟩)
set_option maxRecDepth 100000 in
theorem c_mix (hAD : AD ad n) (hn : ws.length = n) (hNS : ∀ U, KS D ca U → NSt D ca ad N) (x y : Int64) : Ct l yX8_mix cX8_mix 6 (some .long) rZ D ca ad ws n [.long x, .long y] N (pG ws N (some (.long (mixF x y)))) := by
  refine enter (lv := [(0, .long x), (2, .long y)]) (by decide +kernel) (Nat.le_of_ble_eq_true rfl) rfl hAD hNS ?_
  intro p e s m below meth c A args hA C hr hlk hnm
  refine sg0 C foX8 coX8 oX8_mix_0 rfl rfl hn ?_
  exact rt_l C hr hlk jX8_mix_31 (fun H hN => ⟨⟨rfl, rfl⟩, hN⟩)
abbrev rA : Room := { frames := 1, cells := 0, slots := 0, locals := 25 }
set_option maxRecDepth 100000 in
theorem c_leafDigest (hAD : AD ad n) (hn : ws.length = n) (hNS : ∀ U, KS D ca U → NSt D ca ad N) (x : Int32) (y : Int64) : Ct l yX8_leafDigest cX8_leafDigest 3 (some .long) rA D ca ad ws n [.int x, .long y] N (pG ws N (some (.long (mixF (mixF (mixF 0 1) x.toInt64) y)))) := by
  refine enter (lv := [(0, .int x), (1, .long y)]) (by decide +kernel) (Nat.le_of_ble_eq_true rfl) rfl hAD hNS ?_
  intro p e s m below meth c A args hA C hr hlk hnm
  refine sg0 C foX8 coX8 oX8_leafDigest_0 rfl rfl hn ?_
  refine cl_s C (c_mix hAD hn hNS 0 1) cd_X8_mix in_X8 ml_X8_161 sm_X8_mix hd_X8_mix rfl rfl ⟨Nat.le_of_ble_eq_true rfl, Nat.le_of_ble_eq_true rfl⟩ ⟨Nat.le_of_ble_eq_true rfl, Nat.le_of_ble_eq_true rfl⟩ (Nat.le_of_ble_eq_true rfl) jX8_leafDigest_2 (fun v ws' => Wa.and (fun hv => ?_))
  obtain ⟨rfl, rfl⟩ := hv
  refine sg0 C foX8 coX8 oX8_leafDigest_5 rfl rfl hn ?_
  refine cl_s C (c_mix hAD hn hNS _ _) cd_X8_mix in_X8 ml_X8_161 sm_X8_mix hd_X8_mix rfl rfl ⟨Nat.le_of_ble_eq_true rfl, Nat.le_of_ble_eq_true rfl⟩ ⟨Nat.le_of_ble_eq_true rfl, Nat.le_of_ble_eq_true rfl⟩ (Nat.le_of_ble_eq_true rfl) jX8_leafDigest_7 (fun v ws' => Wa.and (fun hv => ?_))
  obtain ⟨rfl, rfl⟩ := hv
  refine sg0 C foX8 coX8 oX8_leafDigest_10 rfl rfl hn ?_
  refine cl_s C (c_mix hAD hn hNS _ _) cd_X8_mix in_X8 ml_X8_161 sm_X8_mix hd_X8_mix rfl rfl ⟨Nat.le_of_ble_eq_true rfl, Nat.le_of_ble_eq_true rfl⟩ ⟨Nat.le_of_ble_eq_true rfl, Nat.le_of_ble_eq_true rfl⟩ (Nat.le_of_ble_eq_true rfl) jX8_leafDigest_11 (fun v ws' => Wa.and (fun hv => ?_))
  obtain ⟨rfl, rfl⟩ := hv
  exact rt_l C hr hlk jX8_leafDigest_14 (fun H hN => ⟨⟨rfl, rfl⟩, hN⟩)
end
