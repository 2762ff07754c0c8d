/-! public methods of the class: the tape, the ranges, single fields -/
/-- the object's cells: 0 it, 1 kept, 2 its ranges with 3 and 4, 5 the tape with 6, 7 the spare one with 8 -/
def xW (qt nv : Nat) (kf : Nat → Option Nat) (fv : Value) (fp : Int32) (fd : Int64) (ra rb : Nat → Int32) (wn : Nat) (to : Nat → Int32) (tl : Nat) (so : Nat → Int32) (sl : Nat) : List va_E := [.inr (7, [.ref 1, .ref 2, .ref (qt + 100), .int (nI nv), .ref 5, .ref 7, fv, .int fp, .long fd]), .inl (2, 8, .inr (.inr (.inr (.inr kf)))), .inr (4, [.ref 3, .ref 4, .int (nI wn)]), .inl (0, 20, .inl ra), .inl (0, 20, .inl rb), .inr (6, [.ref 6, .int (nI tl)]), .inl (0, 4000, .inl to), .inr (6, [.ref 8, .int (nI sl)]), .inl (0, 4000, .inl so)]
def vF : Option Term → Value
  | none => .null
  | some V => .ref (adr V + 100)
theorem pth_ok {P : Nat} (hP : P < 65536) : (0 : Int32) ≤ nI P ∧ nI P ≤ 65535 := ⟨nI_pos' (by omega), by rw [show (65535 : Int32) = nI 65535 from rfl]; exact nI_le (by omega) (by decide)⟩
theorem pth_of {x : Int32} (h : 0 ≤ x ∧ x ≤ 65535) : ∃ P : Nat, P < 65536 ∧ x = nI P := by
  obtain ⟨j, h1, h2⟩ := nI_of2 (M := 65535) (n := 65535) rfl (Int32.not_lt.mpr h.1) h.2
  exact ⟨j, by omega, h2⟩
section
variable {l : Launch} {D : va_G} {ca : Nat → ClassId} {ad : Nat → Nat} {N : Heap → Prop} {qt nv : Nat} {kf : Nat → Option Nat} {fv : Value} {fp : Int32} {fd : Int64} {ra rb : Nat → Int32} {wn : Nat} {to : Nat → Int32} {tl : Nat} {so : Nat → Int32} {sl : Nat}
set_option maxRecDepth 100000 in
set_option maxHeartbeats 4000000 in
theorem kX8_place (hAD : AD ad 9) (hN : NS D N)  : Ct l yX8_place cX8_place 1 (some .int) (rK 0 0 0) D ca ad (xW qt nv kf fv fp fd ra rb wn to tl so sl) 9 [.ref 0] N (pG (xW qt nv kf fv fp fd ra rb wn to tl so sl) N (some (.int fp))) := by
  refine enter (lv := [(0, .ref 0)]) (by decide +kernel) (Nat.le_of_ble_eq_true rfl) rfl hAD (fun U hK => ns_write hK hN) ?_
  intro p e s m below meth c A args hA C hr hlk hnm
  refine sg0 C foX8 coX8 oX8_place_0 rfl rfl rfl ?_
  exact rt_i C hr hlk jX8_place_4 (fun H hN => ⟨⟨rfl, rfl⟩, hN⟩)
set_option maxRecDepth 100000 in
set_option maxHeartbeats 4000000 in
theorem kX8_value (hAD : AD ad 9) (hN : NS D N)  : Ct l yX8_value cX8_value 1 (some .long) (rK 0 0 0) D ca ad (xW qt nv kf fv fp fd ra rb wn to tl so sl) 9 [.ref 0] N (pG (xW qt nv kf fv fp fd ra rb wn to tl so sl) N (some (.long fd))) := by
  refine enter (lv := [(0, .ref 0)]) (by decide +kernel) (Nat.le_of_ble_eq_true rfl) rfl hAD (fun U hK => ns_write hK hN) ?_
  intro p e s m below meth c A args hA C hr hlk hnm
  refine sg0 C foX8 coX8 oX8_value_0 rfl rfl rfl ?_
  exact rt_l C hr hlk jX8_value_4 (fun H hN => ⟨⟨rfl, rfl⟩, hN⟩)
set_option maxRecDepth 100000 in
set_option maxHeartbeats 4000000 in
theorem kX8_forget (hAD : AD ad 9) (hN : NS D N)  : Ct l yX8_forget cX8_forget 2 (some .int) (rK 0 0 0) D ca ad (xW qt nv kf fv fp fd ra rb wn to tl so sl) 9 [.ref 0] N (fun r ws2 H => (r = some (.int (nI wn)) ∧ ws2 = (xW qt nv kf fv fp fd ra rb 0 to tl so sl)) ∧ N H) := by
  refine enter (lv := [(0, .ref 0)]) (by decide +kernel) (Nat.le_of_ble_eq_true rfl) rfl hAD (fun U hK => ns_write hK hN) ?_
  intro p e s m below meth c A args hA C hr hlk hnm
  refine sg0 C foX8 coX8 oX8_forget_0 rfl rfl rfl ?_
  exact rt_i C hr hlk jX8_forget_17 (fun H hN => ⟨⟨rfl, rfl⟩, hN⟩)
set_option maxRecDepth 100000 in
set_option maxHeartbeats 4000000 in
theorem kX8_cut (hAD : AD ad 9) (hN : NS D N) (htl : tl ≤ 4000) (x : Int32) : Ct l yX8_cut cX8_cut 3 (some .int) (rK 0 0 0) D ca ad (xW qt nv kf fv fp fd ra rb wn to tl so sl) 9 [.ref 0, .int x] N (fun r ws2 H => ((¬ (0 ≤ x.toInt ∧ x.toInt ≤ (tl : Int)) ∧ r = some (.int (-1)) ∧ ws2 = (xW qt nv kf fv fp fd ra rb wn to tl so sl)) ∨ ∃ j : Nat, x = nI j ∧ j ≤ tl ∧ r = some (.int (nI (tl - j))) ∧ ws2 = (xW qt nv kf fv fp fd ra rb wn to j so sl)) ∧ N H) := by
  refine enter (lv := [(0, .ref 0), (1, .int x)]) (by decide +kernel) (Nat.le_of_ble_eq_true rfl) rfl hAD (fun U hK => ns_write hK hN) ?_
  intro p e s m below meth c A args hA C hr hlk hnm
  refine sg0 C foX8 coX8 oX8_cut_0 rfl rfl rfl ?_
  refine b1_lt (tgt := 15) C jX8_cut_1 (by decide) (fun h1 => ?_) (fun h1 => ?_)
  · refine sg0 C foX8 coX8 oX8_cut_15 rfl rfl rfl ?_
    exact rt_i C hr hlk jX8_cut_16 (fun H hH => ⟨Or.inl ⟨fun q => absurd h1 (Int32.not_lt.mpr (by rw [Int32.le_iff_toInt_le, Int32.toInt_zero]; exact q.1)), rfl, rfl⟩, hH⟩)
  · refine sg0 C foX8 coX8 oX8_cut_4 rfl rfl rfl ?_
    refine b2_le (tgt := 17) C jX8_cut_12 (by decide) (fun h12 => ?_) (fun h12 => ?_)
    · obtain ⟨j, hj, rfl⟩ := nI_of h1
      have hq : j ≤ tl := (nI_leI hj (by omega)).mp h12
      refine sg0 C foX8 coX8 oX8_cut_17 rfl rfl rfl ?_
      exact rt_i C hr hlk jX8_cut_36 (fun H hH => ⟨Or.inr ⟨j, rfl, hq, by rw [pk_sub hq], rfl⟩, hH⟩)
    · refine sg0 C foX8 coX8 oX8_cut_15 rfl rfl rfl ?_
      exact rt_i C hr hlk jX8_cut_16 (fun H hH => ⟨Or.inl ⟨fun q => h12 (by rw [Int32.le_iff_toInt_le, nI_toInt (by omega)]; exact q.2), rfl, rfl⟩, hH⟩)
set_option maxRecDepth 100000 in
set_option maxHeartbeats 4000000 in
theorem kX8_octet (hAD : AD ad 9) (hN : NS D N) (htl : tl ≤ 4000) (x : Int32) : Ct l yX8_octet cX8_octet 2 (some .int) (rK 1 0 0) D ca ad (xW qt nv kf fv fp fd ra rb wn to tl so sl) 9 [.ref 0, .int x] N (pG (xW qt nv kf fv fp fd ra rb wn to tl so sl) N (some (.int (if (0 ≤ x.toInt ∧ x.toInt < (tl : Int)) then to x.toNatClampNeg else -1)))) := by
  refine enter (lv := [(0, .ref 0), (1, .int x)]) (by decide +kernel) (Nat.le_of_ble_eq_true rfl) rfl hAD (fun U hK => ns_write hK hN) ?_
  intro p e s m below meth c A args hA C hr hlk hnm
  refine sg0 C foX8 coX8 oX8_octet_0 rfl rfl rfl ?_
  refine cl_v C (kX7_has hAD hN (show 7 + _ = 9 from rfl) htl x) (rcv (ci := 6) C.2.1 rfl rfl) cd_X7_has in_X7 ml_X8_110 im_X7_has se_X7_has hd_X7_has rfl rfl ⟨(Nat.le_of_ble_eq_true rfl), (Nat.le_of_ble_eq_true rfl)⟩ ⟨(Nat.le_of_ble_eq_true rfl), (Nat.le_of_ble_eq_true rfl)⟩ (Nat.le_of_ble_eq_true rfl) jX8_octet_5 (fun v ws' => Wa.and (fun hv => ?_))
  obtain ⟨rfl, rfl⟩ := hv
  refine b1_eq (tgt := 23) C jX8_octet_8 (by decide) (fun h8 => ?_) (fun h8 => ?_)
  · have hq : ¬ (0 ≤ x.toInt ∧ x.toInt < (tl : Int)) := fun e1 => by rw [if_pos e1] at h8; exact absurd h8 (by decide)
    refine sg0 C foX8 coX8 oX8_octet_23 rfl rfl rfl ?_
    exact rt_i C hr hlk jX8_octet_24 (fun H hH => ⟨⟨by rw [if_neg hq], rfl⟩, hH⟩)
  · have hq : (0 ≤ x.toInt ∧ x.toInt < (tl : Int)) := Decidable.byContradiction fun e1 => h8 (if_neg e1)
    refine sg C foX8 coX8 oX8_octet_11 rfl rfl rfl ⟨vp_in_iff.mpr ⟨hq.1, by omega⟩, trivial⟩ ?_
    exact rt_i C hr hlk jX8_octet_24 (fun H hH => ⟨⟨by rw [if_pos hq], rfl⟩, hH⟩)
set_option maxRecDepth 100000 in
set_option maxHeartbeats 4000000 in
theorem kX8_spoil (hAD : AD ad 9) (hN : NS D N) (htl : tl ≤ 4000) (x y : Int32) : Ct l yX8_spoil cX8_spoil 3 (some .int) (rK 1 0 0) D ca ad (xW qt nv kf fv fp fd ra rb wn to tl so sl) 9 [.ref 0, .int x, .int y] N (fun r ws2 H => ((¬ ((0 ≤ x.toInt ∧ x.toInt < (tl : Int)) ∧ 0 ≤ y ∧ y ≤ 255) ∧ r = some (.int (-1)) ∧ ws2 = (xW qt nv kf fv fp fd ra rb wn to tl so sl)) ∨ (((0 ≤ x.toInt ∧ x.toInt < (tl : Int)) ∧ 0 ≤ y ∧ y ≤ 255) ∧ r = some (.int (to x.toNatClampNeg ^^^ y)) ∧ ws2 = (xW qt nv kf fv fp fd ra rb wn (upd to x.toNatClampNeg (to x.toNatClampNeg ^^^ y)) tl so sl))) ∧ N H) := by
  refine enter (lv := [(0, .ref 0), (1, .int x), (2, .int y)]) (by decide +kernel) (Nat.le_of_ble_eq_true rfl) rfl hAD (fun U hK => ns_write hK hN) ?_
  intro p e s m below meth c A args hA C hr hlk hnm
  refine sg0 C foX8 coX8 oX8_spoil_0 rfl rfl rfl ?_
  refine cl_v C (kX7_has hAD hN (show 7 + _ = 9 from rfl) htl x) (rcv (ci := 6) C.2.1 rfl rfl) cd_X7_has in_X7 ml_X8_110 im_X7_has se_X7_has hd_X7_has rfl rfl ⟨(Nat.le_of_ble_eq_true rfl), (Nat.le_of_ble_eq_true rfl)⟩ ⟨(Nat.le_of_ble_eq_true rfl), (Nat.le_of_ble_eq_true rfl)⟩ (Nat.le_of_ble_eq_true rfl) jX8_spoil_5 (fun v ws' => Wa.and (fun hv => ?_))
  obtain ⟨rfl, rfl⟩ := hv
  refine b1_eq (tgt := 22) C jX8_spoil_8 (by decide) (fun h8 => ?_) (fun h8 => ?_)
  · have hq : ¬ (0 ≤ x.toInt ∧ x.toInt < (tl : Int)) := fun e1 => by rw [if_pos e1] at h8; exact absurd h8 (by decide)
    refine sg0 C foX8 coX8 oX8_spoil_22 rfl rfl rfl ?_
    exact rt_i C hr hlk jX8_spoil_23 (fun H hH => ⟨Or.inl ⟨fun q => hq q.1, rfl, rfl⟩, hH⟩)
  · have hq : (0 ≤ x.toInt ∧ x.toInt < (tl : Int)) := Decidable.byContradiction fun e1 => h8 (if_neg e1)
    refine sg0 C foX8 coX8 oX8_spoil_11 rfl rfl rfl ?_
    refine b1_lt (tgt := 22) C jX8_spoil_12 (by decide) (fun h12 => ?_) (fun h12 => ?_)
    · refine sg0 C foX8 coX8 oX8_spoil_22 rfl rfl rfl ?_
      exact rt_i C hr hlk jX8_spoil_23 (fun H hH => ⟨Or.inl ⟨fun q => absurd h12 (Int32.not_lt.mpr q.2.1), rfl, rfl⟩, hH⟩)
    · refine sg0 C foX8 coX8 oX8_spoil_15 rfl rfl rfl ?_
      refine b2_le (tgt := 24) C jX8_spoil_19 (by decide) (fun h19 => ?_) (fun h19 => ?_)
      · have hvp : vp_in x 4000 := vp_in_iff.mpr ⟨hq.1, by omega⟩
        refine sg C foX8 coX8 oX8_spoil_24 rfl rfl rfl ⟨hvp, hvp, hvp, trivial⟩ ?_
        exact rt_i C hr hlk jX8_spoil_46 (fun H hH => ⟨Or.inr ⟨⟨hq, Int32.not_lt.mp h12, h19⟩, by simp [upd], rfl⟩, hH⟩)
      · refine sg0 C foX8 coX8 oX8_spoil_22 rfl rfl rfl ?_
        exact rt_i C hr hlk jX8_spoil_23 (fun H hH => ⟨Or.inl ⟨fun q => h19 q.2.2, rfl, rfl⟩, hH⟩)
theorem fd_in {x : Int32} {tl : Nat} (htl : tl ≤ 4000) (h1 : ¬ x < 1) (h2 : x ≤ 8) : ∃ j : Nat, 1 ≤ j ∧ j ≤ 8 ∧ x = nI j := by
  obtain ⟨j, h3, rfl⟩ := nI_of2 (M := 8) (n := 8) rfl (fun q => h1 (Int32.lt_trans q (by decide))) h2
  refine ⟨j, Nat.not_lt.mp fun q => h1 ?_, h3, rfl⟩
  rw [show j = 0 by omega]; decide
set_option maxRecDepth 100000 in
set_option maxHeartbeats 4000000 in
theorem kX8_feed (hAD : AD ad 9) (hN : NS D N) {S : List Int32} (hS : tpR to S) (htl : S.length ≤ 4000) (x : Int32) (v : Int64) : Ct l yX8_feed cX8_feed 4 (some .int) (rK 1 0 0) D ca ad (xW qt nv kf fv fp fd ra rb wn to S.length so sl) 9 [.ref 0, .int x, .long v] N (fun r ws2 H => ((¬ (1 ≤ x ∧ x ≤ 8) ∧ r = some (.int (-1)) ∧ ws2 = (xW qt nv kf fv fp fd ra rb wn to S.length so sl)) ∨ (∃ j : Nat, (x = nI j ∧ 1 ≤ j ∧ j ≤ 8) ∧ 4000 < S.length + j ∧ r = some (.int (-3)) ∧ ws2 = (xW qt nv kf fv fp fd ra rb wn to S.length so sl)) ∨ (∃ (j : Nat) (to2 : Nat → Int32), (x = nI j ∧ 1 ≤ j ∧ j ≤ 8) ∧ S.length + j ≤ 4000 ∧ r = some (.int (nI (S ++ octs j v).length)) ∧ ws2 = (xW qt nv kf fv fp fd ra rb wn to2 (S ++ octs j v).length so sl) ∧ tpR to2 (S ++ octs j v))) ∧ N H) := by
  refine enter (lv := [(0, .ref 0), (1, .int x), (2, .long v)]) (by decide +kernel) (Nat.le_of_ble_eq_true rfl) rfl hAD (fun U hK => ns_write hK hN) ?_
  intro p e s m below meth c A args hA C hr hlk hnm
  refine sg0 C foX8 coX8 oX8_feed_0 rfl rfl rfl ?_
  refine b2_lt (tgt := 11) C jX8_feed_2 (by decide) (fun h2 => ?_) (fun h2 => ?_)
  · refine sg0 C foX8 coX8 oX8_feed_11 rfl rfl rfl ?_
    exact rt_i C hr hlk jX8_feed_12 (fun H hH => ⟨Or.inl ⟨fun q => absurd h2 (Int32.not_lt.mpr q.1), rfl, rfl⟩, hH⟩)
  · refine sg0 C foX8 coX8 oX8_feed_5 rfl rfl rfl ?_
    refine b2_le (tgt := 13) C jX8_feed_8 (by decide) (fun h8 => ?_) (fun h8 => ?_)
    · obtain ⟨j, j1, j2, rfl⟩ := fd_in htl h2 h8
      refine sg0 C foX8 coX8 oX8_feed_13 rfl rfl rfl ?_
      rw [nI_add]
      refine b2_le (tgt := 31) C jX8_feed_25 (by decide) (fun h25 => ?_) (fun h25 => ?_)
      · have hq : S.length + j ≤ 4000 := Nat.not_lt.mp fun q => absurd h25 (by rw [show (4000 : Int32) = nI 4000 from rfl]; exact nI_ge q (by omega))
        refine sg0 C foX8 coX8 oX8_feed_31 rfl rfl rfl ?_
        refine cl_v C (kX7_append5 hAD hN (show 7 + _ = 9 from rfl) (S := S) hS j (by omega) v) (rcv (ci := 6) C.2.1 rfl rfl) cd_X7_append in_X7 ml_X8_107 im_X7_append se_X7_append hd_X7_append rfl rfl ⟨(Nat.le_of_ble_eq_true rfl), (Nat.le_of_ble_eq_true rfl)⟩ ⟨(Nat.le_of_ble_eq_true rfl), (Nat.le_of_ble_eq_true rfl)⟩ (Nat.le_of_ble_eq_true rfl) jX8_feed_37 (fun v ws' => Wa.ex (fun s1 => Wa.and (fun hv => ?_)))
        obtain ⟨rfl, rfl, hs1⟩ := hv
        refine sg0 C foX8 coX8 oX8_feed_40 rfl rfl rfl ?_
        exact rt_i C hr hlk jX8_feed_47 (fun H hH => ⟨Or.inr (Or.inr ⟨j, s1, ⟨rfl, j1, j2⟩, hq, rfl, rfl, hs1⟩), hH⟩)
      · have hq : 4000 < S.length + j := Nat.not_le.mp fun q => h25 (by rw [show (4000 : Int32) = nI 4000 from rfl]; exact nI_le q (by decide))
        refine sg0 C foX8 coX8 oX8_feed_28 rfl rfl rfl ?_
        exact rt_i C hr hlk jX8_feed_30 (fun H hH => ⟨Or.inr (Or.inl ⟨j, ⟨rfl, j1, j2⟩, hq, rfl, rfl⟩), hH⟩)
    · refine sg0 C foX8 coX8 oX8_feed_11 rfl rfl rfl ?_
      exact rt_i C hr hlk jX8_feed_12 (fun H hH => ⟨Or.inl ⟨fun q => h8 q.2, rfl, rfl⟩, hH⟩)
set_option maxRecDepth 100000 in
set_option maxHeartbeats 4000000 in
theorem kX5_add (hAD : AD ad 9) (hN : NS D N) (hwn : wn ≤ 20) (x y : Int32) : Ct l yX5_add cX5_add 3 (some .boolean) (rK 0 0 0) D ca ad (xW qt nv kf fv fp fd ra rb wn to tl so sl) 9 [.ref 2, .int x, .int y] N (fun r ws2 H => ((20 ≤ wn ∧ r = some (.int 0) ∧ ws2 = (xW qt nv kf fv fp fd ra rb wn to tl so sl)) ∨ (wn < 20 ∧ r = some (.int 1) ∧ ws2 = (xW qt nv kf fv fp fd (upd ra (nI wn).toNatClampNeg x) (upd rb (nI wn).toNatClampNeg y) (wn + 1) to tl so sl))) ∧ N H) := by
  refine enter (lv := [(0, .ref 2), (1, .int x), (2, .int y)]) (by decide +kernel) (Nat.le_of_ble_eq_true rfl) rfl hAD (fun U hK => ns_write hK hN) ?_
  intro p e s m below meth c A args hA C hr hlk hnm
  refine sg0 C foX5 coX5 oX5_add_0 rfl rfl rfl ?_
  refine b2_lt (tgt := 11) C jX5_add_6 (by decide) (fun h6 => ?_) (fun h6 => ?_)
  · have hq : wn < 20 := Nat.not_le.mp fun q => absurd h6 (by rw [show (20 : Int32) = nI 20 from rfl]; exact nI_nlt q (by omega))
    refine sg C foX5 coX5 oX5_add_11 rfl rfl rfl ⟨vp_in_nI hq (by decide), vp_in_nI hq (by decide), trivial⟩ ?_
    rw [nI_1]
    exact rt_z C hr hlk (by decide) jX5_add_42 (fun H hH => ⟨Or.inr ⟨hq, rfl, rfl⟩, hH⟩)
  · have hq : 20 ≤ wn := Nat.not_lt.mp fun q => h6 (by rw [show (20 : Int32) = nI 20 from rfl]; exact nI_lt q (by decide))
    refine sg0 C foX5 coX5 oX5_add_9 rfl rfl rfl ?_
    exact rt_z C hr hlk (by decide) jX5_add_10 (fun H hH => ⟨Or.inl ⟨hq, rfl, rfl⟩, hH⟩)
-- want
end
