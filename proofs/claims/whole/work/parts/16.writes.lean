/-! to write and to erase, along the way -/
theorem fkT_strp {T T2 L L2 : Term} {pn P : Nat} (h1 : strp T = strp T2) (h2 : strp L = strp L2) : strp (fkT T pn P L) = strp (fkT T2 pn P L2) := by
  unfold fkT
  split <;> simp only [strp, h1, h2]
section
variable {l : Launch} {D : va_G} {ca : Nat → ClassId} {ad : Nat → Nat} {ws : List va_E} {n : Nat}
set_option maxRecDepth 100000 in
set_option maxHeartbeats 4000000 in
theorem kX8_written (hAD : AD ad n) (hn : ws.length = n) (hww : ws.all nno = true) {ql P : Nat} {v : Int64} (hP : P < 65536) (T : Term) (hT : isT T) : ∀ (k d : Nat) (N : Heap → Prop), fitT (T) k → d + k ≤ 16 → NS D N → (∀ H, N H → nodeAt D H (T)) → (∀ H, N H → nodeAt D H (tL ql P v)) → Ct l yX8_written cX8_written 4 (some (.object "PathProofs$Node")) (rK (k + 4) (k + 1) (5 * (k + 1))) D ca ad ws n [.ref (adr (T) + 100), .ref (ql + 100), .int (nI d)] N (nG D ws N (fun T2 => strp T2 = strp (wrtT (T) P (tL ql P v)))) := by
  refine tr_ind (P := fun T => ∀ (k d : Nat) (N : Heap → Prop), fitT (T) k → d + k ≤ 16 → NS D N → (∀ H, N H → nodeAt D H (T)) → (∀ H, N H → nodeAt D H (tL ql P v)) → Ct l yX8_written cX8_written 4 (some (.object "PathProofs$Node")) (rK (k + 4) (k + 1) (5 * (k + 1))) D ca ad ws n [.ref (adr (T) + 100), .ref (ql + 100), .int (nI d)] N (nG D ws N (fun T2 => strp T2 = strp (wrtT (T) P (tL ql P v))))) ?_ ?_ ?_ ?_ T hT
  · intro q k d N hfit hdk hN hx hl
    refine enter (lv := [(0, .ref (adr (tE q) + 100)), (1, .ref (ql + 100)), (2, .int (nI d))]) (by decide +kernel) (Nat.le_of_ble_eq_true rfl) rfl hAD (fun U hK => ns_write hK hN) ?_
    intro p e s m below meth c A args hA C hr hlk hnm
    refine sg0 C foX8 coX8 oX8_written_0 rfl rfl hn ?_
    refine ni_n (ci := 0) C (fun H hH => hx H hH) rfl kl_X8_167 (by decide) jX8_written_1 ?_
    refine b1_eq (tgt := 63) C jX8_written_4 (by decide) (fun h4 => ?_) (fun h4 => ?_)
    · refine sg0 C foX8 coX8 oX8_written_63 rfl rfl hn ?_
      refine ni_n (ci := 0) C (fun H hH => hx H hH) rfl kl_X8_65 (by decide) jX8_written_64 ?_
      refine b1_eq (tgt := 96) C jX8_written_67 (by decide) (fun h67 => ?_) (fun h67 => ?_)
      · refine sg0 C foX8 coX8 oX8_written_96 rfl rfl hn ?_
        refine Wa.wid (k1 := k + 1) (k2 := 5 * (k + 1)) (by show 0 ≤ k + 1; omega) (by show 0 ≤ 5 * (k + 1); omega) ?_
        exact rt_a C hr (Or.inl ⟨_, rfl⟩) hlk jX8_written_97 (fun H hH => ⟨(tL ql P v), ⟨rfl, rfl, rfl⟩, hH, hl H hH⟩)
      · exact absurd h67 (by decide)
    · exact absurd h4 (by decide)
  · intro q d0 k d N hfit hdk hN hx hl
    refine enter (lv := [(0, .ref (adr (tH q d0) + 100)), (1, .ref (ql + 100)), (2, .int (nI d))]) (by decide +kernel) (Nat.le_of_ble_eq_true rfl) rfl hAD (fun U hK => ns_write hK hN) ?_
    intro p e s m below meth c A args hA C hr hlk hnm
    refine sg0 C foX8 coX8 oX8_written_0 rfl rfl hn ?_
    refine ni_n (ci := 2) C (fun H hH => hx H hH) rfl kl_X8_167 (by decide) jX8_written_1 ?_
    refine b1_eq (tgt := 63) C jX8_written_4 (by decide) (fun h4 => ?_) (fun h4 => ?_)
    · refine sg0 C foX8 coX8 oX8_written_63 rfl rfl hn ?_
      refine ni_n (ci := 2) C (fun H hH => hx H hH) rfl kl_X8_65 (by decide) jX8_written_64 ?_
      refine b1_eq (tgt := 96) C jX8_written_67 (by decide) (fun h67 => ?_) (fun h67 => ?_)
      · refine sg0 C foX8 coX8 oX8_written_96 rfl rfl hn ?_
        refine Wa.wid (k1 := k + 1) (k2 := 5 * (k + 1)) (by show 0 ≤ k + 1; omega) (by show 0 ≤ 5 * (k + 1); omega) ?_
        exact rt_a C hr (Or.inl ⟨_, rfl⟩) hlk jX8_written_97 (fun H hH => ⟨(tL ql P v), ⟨rfl, rfl, rfl⟩, hH, hl H hH⟩)
      · exact absurd h67 (by decide)
    · exact absurd h4 (by decide)
  · intro q p0 v0 k d N hfit hdk hN hx hl
    have hp0 : p0 < 65536 := hfit
    refine enter (lv := [(0, .ref (adr (tL q p0 v0) + 100)), (1, .ref (ql + 100)), (2, .int (nI d))]) (by decide +kernel) (Nat.le_of_ble_eq_true rfl) rfl hAD (fun U hK => ns_write hK hN) ?_
    intro p e s m below meth c A args hA C hr hlk hnm
    refine sg0 C foX8 coX8 oX8_written_0 rfl rfl hn ?_
    refine ni_n (ci := 3) C (fun H hH => hx H hH) rfl kl_X8_167 (by decide) jX8_written_1 ?_
    refine b1_eq (tgt := 63) C jX8_written_4 (by decide) (fun h4 => ?_) (fun h4 => ?_)
    · refine sg0 C foX8 coX8 oX8_written_63 rfl rfl hn ?_
      refine ni_y (ci := 3) C (fun H hH => hx H hH) rfl kl_X8_65 (by decide) jX8_written_64 ?_
      refine b1_eq (tgt := 96) C jX8_written_67 (by decide) (fun h67 => ?_) (fun h67 => ?_)
      · exact absurd h67 (by decide)
      · refine sg0 C foX8 coX8 oX8_written_70 rfl rfl hn ?_
        refine nc_y (ci := 3) C (fun H hH => hx H hH) rfl kl_X8_65 (by decide) jX8_written_71 ?_
        refine sg0 C foX8 coX8 oX8_written_74 rfl rfl hn ?_
        refine ng (ci := 3) (k := 1) (v := .int (nI p0)) C (fun H hH => hx H hH) rfl (by decide) fl_X8_136 rfl jX8_written_76 ?_
        refine sg0 C foX8 coX8 oX8_written_79 rfl rfl hn ?_
        refine ng (ci := 3) (k := 1) (v := .int (nI P)) C (fun H hH => hl H hH) rfl (by decide) fl_X8_136 rfl jX8_written_80 ?_
        refine b2_eq (tgt := 96) C jX8_written_83 (by decide) (fun h83 => ?_) (fun h83 => ?_)
        · have he := lf_eq hP hp0 h83
          refine sg0 C foX8 coX8 oX8_written_96 rfl rfl hn ?_
          refine Wa.wid (k1 := k + 1) (k2 := 5 * (k + 1)) (by show 0 ≤ k + 1; omega) (by show 0 ≤ 5 * (k + 1); omega) ?_
          exact rt_a C hr (Or.inl ⟨_, rfl⟩) hlk jX8_written_97 (fun H hH => ⟨(tL ql P v), ⟨rfl, rfl, by simp only [wrtT]; rw [if_pos he]⟩, hH, hl H hH⟩)
        · have he := lf_ne hP hp0 h83
          refine sg0 C foX8 coX8 oX8_written_86 rfl rfl hn ?_
          refine ng (ci := 3) (k := 1) (v := .int (nI p0)) C (fun H hH => hx H hH) rfl (by decide) fl_X8_136 rfl jX8_written_88 ?_
          refine sg0 C foX8 coX8 oX8_written_91 rfl rfl hn ?_
          refine cl_s C (kX8_forkOf hAD hn hN hww (T := tL q p0 v0) (fun H hH => hx H hH) hl hP hp0 he) cd_X8_forkOf in_X8 ml_X8_182 sm_X8_forkOf hd_X8_forkOf rfl rfl ⟨by show 3 + 1 ≤ k + 4; omega, by show 8 + (5 + 11) + 40 * 3 ≤ 40 * (k + 4); omega⟩ ⟨by show 0 + 1 ≤ k + 1; omega, by show 0 + 5 ≤ 5 * (k + 1); omega⟩ (Nat.le_of_ble_eq_true rfl) jX8_written_92 (fun v ws' => Wa.ex (fun T1 => Wa.and (fun hv => ?_)))
          obtain ⟨rfl, rfl, hK1⟩ := hv
          have hN1 := hN.and (nodeAt.ns (D := D) T1)
          have C := C.to (N2 := fun H => N H ∧ nodeAt D H T1) hN1
          refine Wa.wid (k1 := k + 1) (k2 := 5 * (k + 1)) (by show 0 + 1 ≤ k + 1; omega) (by show 0 + 5 ≤ 5 * (k + 1); omega) ?_
          exact rt_a C hr (Or.inl ⟨_, rfl⟩) hlk jX8_written_95 (fun H hH => ⟨T1, ⟨rfl, rfl, by show strp T1 = _; rw [hK1]; simp only [wrtT]; rw [if_neg he]⟩, hH.1, hH.2⟩)
    · exact absurd h4 (by decide)
  · intro q B S x y hT1 hT2 i1 i2 k d N hfit hdk hN hx hl
    obtain ⟨⟨hB, hkB, hS, hstm⟩, hfx, hfy⟩ := fitF hfit
    have hS2 := fitF2 hfit
    by_cases hb : bitA P B = 1
    · skip
      refine enter (lv := [(0, .ref (adr (tF q B S x y) + 100)), (1, .ref (ql + 100)), (2, .int (nI d))]) (by decide +kernel) (Nat.le_of_ble_eq_true rfl) rfl hAD (fun U hK => ns_write hK hN) ?_
      intro p e s m below meth c A args hA C hr hlk hnm
      refine sg0 C foX8 coX8 oX8_written_0 rfl rfl hn ?_
      refine ni_y (ci := 1) C (fun H hH => (hx H hH).1) rfl kl_X8_167 (by decide) jX8_written_1 ?_
      refine b1_eq (tgt := 63) C jX8_written_4 (by decide) (fun h4 => ?_) (fun h4 => ?_)
      · exact absurd h4 (by decide)
      · refine sg0 C foX8 coX8 oX8_written_7 rfl rfl hn ?_
        refine nc_y (ci := 1) C (fun H hH => (hx H hH).1) rfl kl_X8_167 (by decide) jX8_written_8 ?_
        refine sg0 C foX8 coX8 oX8_written_11 rfl rfl hn ?_
        refine ng (ci := 3) (k := 1) (v := .int (nI P)) C (fun H hH => hl H hH) rfl (by decide) fl_X8_136 rfl jX8_written_14 ?_
        refine cl_v C (kX1_takesIn hAD hn hN (q := q) (B := B) (S := S) (fun H hH => (hx H hH).1) hP hB hS2) (nrc C (fun H hH => (hx H hH).1) rfl) cd_X1_takesIn in_X1 ml_X8_169 im_X1_takesIn se_X1_takesIn hd_X1_takesIn rfl rfl ⟨by show 1 + 1 ≤ k + 4; omega, by show 8 + (2 + 11) + 40 * 1 ≤ 40 * (k + 4); omega⟩ ⟨by show 0 + 0 ≤ k + 1; omega, by show 0 + 0 ≤ 5 * (k + 1); omega⟩ (Nat.le_of_ble_eq_true rfl) jX8_written_17 (fun v ws' => Wa.and (fun hv => ?_))
        obtain ⟨rfl, rfl⟩ := hv
        refine b1_eq (tgt := 53) C jX8_written_20 (by decide) (fun h20 => ?_) (fun h20 => ?_)
        · have hst : ¬ stm P B = S := fun e1 => by rw [if_pos e1] at h20; exact absurd h20 (by decide)
          have hne : S ≠ P := fun e1 => hst (by rw [← e1]; exact hstm)
          refine sg0 C foX8 coX8 oX8_written_53 rfl rfl hn ?_
          refine ng (ci := 1) (k := 2) (v := .int (nI S)) C (fun H hH => (hx H hH).1) rfl (by decide) fl_X8_179 rfl jX8_written_55 ?_
          refine sg0 C foX8 coX8 oX8_written_58 rfl rfl hn ?_
          refine cl_s C (kX8_forkOf hAD hn hN hww (T := tF q B S x y) (pn := S) (fun H hH => hx H hH) hl hP hS2 hne) cd_X8_forkOf in_X8 ml_X8_182 sm_X8_forkOf hd_X8_forkOf rfl rfl ⟨by show 3 + 1 ≤ k + 4; omega, by show 8 + (5 + 11) + 40 * 3 ≤ 40 * (k + 4); omega⟩ ⟨by show 0 + 1 ≤ k + 1; omega, by show 0 + 5 ≤ 5 * (k + 1); omega⟩ (Nat.le_of_ble_eq_true rfl) jX8_written_59 (fun v ws' => Wa.ex (fun T1 => Wa.and (fun hv => ?_)))
          obtain ⟨rfl, rfl, hK1⟩ := hv
          have hN1 := hN.and (nodeAt.ns (D := D) T1)
          have C := C.to (N2 := fun H => N H ∧ nodeAt D H T1) hN1
          refine Wa.wid (k1 := k + 1) (k2 := 5 * (k + 1)) (by show 0 + 1 ≤ k + 1; omega) (by show 0 + 5 ≤ 5 * (k + 1); omega) ?_
          exact rt_a C hr (Or.inl ⟨_, rfl⟩) hlk jX8_written_62 (fun H hH => ⟨T1, ⟨rfl, rfl, by show strp T1 = _; rw [hK1]; simp only [wrtT]; rw [if_neg hst]⟩, hH.1, hH.2⟩)
        · have hst : stm P B = S := Decidable.byContradiction fun e1 => h20 (if_neg e1)
          refine sg0 C foX8 coX8 oX8_written_23 rfl rfl hn ?_
          refine b2_ge (tgt := 53) C jX8_written_26 (by decide) (fun h26 => ?_) (fun h26 => ?_)
          · exact absurd h26 (by rw [show (16 : Int32) = nI 16 from rfl]; exact nI_ge (by omega) (by decide))
          · refine sg0 C foX8 coX8 oX8_written_29 rfl rfl hn ?_
            refine ng (ci := 3) (k := 1) (v := .int (nI P)) C (fun H hH => hl H hH) rfl (by decide) fl_X8_136 rfl jX8_written_31 ?_
            refine sg0 C foX8 coX8 oX8_written_34 rfl rfl hn ?_
            refine ng (ci := 3) (k := 1) (v := .int (nI P)) C (fun H hH => hl H hH) rfl (by decide) fl_X8_136 rfl jX8_written_36 ?_
            refine cl_v C (kX1_toward hAD hn hN (q := q) (B := B) (S := S) (fun H hH => (hx H hH).1) hP hB) (nrc C (fun H hH => (hx H hH).1) rfl) cd_X1_toward in_X1 ml_X8_172 im_X1_toward se_X1_toward hd_X1_toward rfl rfl ⟨by show 1 + 1 ≤ k + 4; omega, by show 8 + (2 + 11) + 40 * 1 ≤ 40 * (k + 4); omega⟩ ⟨by show 0 + 0 ≤ k + 1; omega, by show 0 + 0 ≤ 5 * (k + 1); omega⟩ (Nat.le_of_ble_eq_true rfl) jX8_written_39 (fun v ws' => Wa.and (fun hv => ?_))
            obtain ⟨rfl, rfl⟩ := hv
            rw [if_pos hb]
            refine sg0 C foX8 coX8 oX8_written_42 rfl rfl hn ?_
            rw [nI_1]
            refine cl_s C (i2 (15 - B) (d + 1) N hfy (by omega) hN (fun H hH => (hx H hH).2.2) hl) cd_X8_written in_X8 ml_X8_70 sm_X8_written hd_X8_written rfl rfl ⟨by show (15 - B + 4) + 1 ≤ k + 4; omega, by show 8 + (4 + 11) + 40 * (15 - B + 4) ≤ 40 * (k + 4); omega⟩ ⟨by show 0 + (15 - B + 1) ≤ k + 1; omega, by show 0 + 5 * (15 - B + 1) ≤ 5 * (k + 1); omega⟩ (Nat.le_of_ble_eq_true rfl) jX8_written_46 (fun v ws' => Wa.ex (fun T1 => Wa.and (fun hv => ?_)))
            obtain ⟨rfl, rfl, hK1⟩ := hv
            have hN1 := hN.and (nodeAt.ns (D := D) T1)
            have C := C.to (N2 := fun H => N H ∧ nodeAt D H T1) hN1
            refine cl_v C (kX1_with hAD hn hN1 hww (q := q) (B := B) (S := S) (x := x) (y := y) (z := T1) (fun H hH => hx H hH.1) (fun H hH => hH.2) hP hB) (nrc C (fun H hH => (hx H hH.1).1) rfl) cd_X1_with in_X1 ml_X8_175 im_X1_with se_X1_with hd_X1_with rfl rfl ⟨by show 3 + 1 ≤ k + 4; omega, by show 8 + (3 + 11) + 40 * 3 ≤ 40 * (k + 4); omega⟩ ⟨by show (0 + (15 - B + 1)) + 1 ≤ k + 1; omega, by show (0 + 5 * (15 - B + 1)) + 5 ≤ 5 * (k + 1); omega⟩ (Nat.le_of_ble_eq_true rfl) jX8_written_49 (fun v ws' => Wa.ex (fun T2 => Wa.and (fun hv => ?_)))
            obtain ⟨rfl, rfl, hK2⟩ := hv
            have hN2 := hN1.and (nodeAt.ns (D := D) T2)
            have C := C.to (N2 := fun H => (N H ∧ nodeAt D H T1) ∧ nodeAt D H T2) hN2
            have hK3 : ∃ q2, T2 = tF q2 B S x T1 := by
              rcases hK2 with ⟨q2, e1, e2⟩ | ⟨q2, e1, e2⟩
              · exact ⟨q2, e2⟩
              · exact absurd hb e1
            obtain ⟨q2, rfl⟩ := hK3
            refine Wa.wid (k1 := k + 1) (k2 := 5 * (k + 1)) (by show 0 + (15 - B + 1) + 1 ≤ k + 1; omega) (by show 0 + 5 * (15 - B + 1) + 5 ≤ 5 * (k + 1); omega) ?_
            exact rt_a C hr (Or.inl ⟨_, rfl⟩) hlk jX8_written_52 (fun H hH => ⟨tF q2 B S x T1, ⟨rfl, rfl, by simp only [wrtT]; rw [if_pos hst, if_pos hb]; simp only [strp, hK1]⟩, hH.1.1, hH.2⟩)
    · skip
      refine enter (lv := [(0, .ref (adr (tF q B S x y) + 100)), (1, .ref (ql + 100)), (2, .int (nI d))]) (by decide +kernel) (Nat.le_of_ble_eq_true rfl) rfl hAD (fun U hK => ns_write hK hN) ?_
      intro p e s m below meth c A args hA C hr hlk hnm
      refine sg0 C foX8 coX8 oX8_written_0 rfl rfl hn ?_
      refine ni_y (ci := 1) C (fun H hH => (hx H hH).1) rfl kl_X8_167 (by decide) jX8_written_1 ?_
      refine b1_eq (tgt := 63) C jX8_written_4 (by decide) (fun h4 => ?_) (fun h4 => ?_)
      · exact absurd h4 (by decide)
      · refine sg0 C foX8 coX8 oX8_written_7 rfl rfl hn ?_
        refine nc_y (ci := 1) C (fun H hH => (hx H hH).1) rfl kl_X8_167 (by decide) jX8_written_8 ?_
        refine sg0 C foX8 coX8 oX8_written_11 rfl rfl hn ?_
        refine ng (ci := 3) (k := 1) (v := .int (nI P)) C (fun H hH => hl H hH) rfl (by decide) fl_X8_136 rfl jX8_written_14 ?_
        refine cl_v C (kX1_takesIn hAD hn hN (q := q) (B := B) (S := S) (fun H hH => (hx H hH).1) hP hB hS2) (nrc C (fun H hH => (hx H hH).1) rfl) cd_X1_takesIn in_X1 ml_X8_169 im_X1_takesIn se_X1_takesIn hd_X1_takesIn rfl rfl ⟨by show 1 + 1 ≤ k + 4; omega, by show 8 + (2 + 11) + 40 * 1 ≤ 40 * (k + 4); omega⟩ ⟨by show 0 + 0 ≤ k + 1; omega, by show 0 + 0 ≤ 5 * (k + 1); omega⟩ (Nat.le_of_ble_eq_true rfl) jX8_written_17 (fun v ws' => Wa.and (fun hv => ?_))
        obtain ⟨rfl, rfl⟩ := hv
        refine b1_eq (tgt := 53) C jX8_written_20 (by decide) (fun h20 => ?_) (fun h20 => ?_)
        · have hst : ¬ stm P B = S := fun e1 => by rw [if_pos e1] at h20; exact absurd h20 (by decide)
          have hne : S ≠ P := fun e1 => hst (by rw [← e1]; exact hstm)
          refine sg0 C foX8 coX8 oX8_written_53 rfl rfl hn ?_
          refine ng (ci := 1) (k := 2) (v := .int (nI S)) C (fun H hH => (hx H hH).1) rfl (by decide) fl_X8_179 rfl jX8_written_55 ?_
          refine sg0 C foX8 coX8 oX8_written_58 rfl rfl hn ?_
          refine cl_s C (kX8_forkOf hAD hn hN hww (T := tF q B S x y) (pn := S) (fun H hH => hx H hH) hl hP hS2 hne) cd_X8_forkOf in_X8 ml_X8_182 sm_X8_forkOf hd_X8_forkOf rfl rfl ⟨by show 3 + 1 ≤ k + 4; omega, by show 8 + (5 + 11) + 40 * 3 ≤ 40 * (k + 4); omega⟩ ⟨by show 0 + 1 ≤ k + 1; omega, by show 0 + 5 ≤ 5 * (k + 1); omega⟩ (Nat.le_of_ble_eq_true rfl) jX8_written_59 (fun v ws' => Wa.ex (fun T1 => Wa.and (fun hv => ?_)))
          obtain ⟨rfl, rfl, hK1⟩ := hv
          have hN1 := hN.and (nodeAt.ns (D := D) T1)
          have C := C.to (N2 := fun H => N H ∧ nodeAt D H T1) hN1
          refine Wa.wid (k1 := k + 1) (k2 := 5 * (k + 1)) (by show 0 + 1 ≤ k + 1; omega) (by show 0 + 5 ≤ 5 * (k + 1); omega) ?_
          exact rt_a C hr (Or.inl ⟨_, rfl⟩) hlk jX8_written_62 (fun H hH => ⟨T1, ⟨rfl, rfl, by show strp T1 = _; rw [hK1]; simp only [wrtT]; rw [if_neg hst]⟩, hH.1, hH.2⟩)
        · have hst : stm P B = S := Decidable.byContradiction fun e1 => h20 (if_neg e1)
          refine sg0 C foX8 coX8 oX8_written_23 rfl rfl hn ?_
          refine b2_ge (tgt := 53) C jX8_written_26 (by decide) (fun h26 => ?_) (fun h26 => ?_)
          · exact absurd h26 (by rw [show (16 : Int32) = nI 16 from rfl]; exact nI_ge (by omega) (by decide))
          · refine sg0 C foX8 coX8 oX8_written_29 rfl rfl hn ?_
            refine ng (ci := 3) (k := 1) (v := .int (nI P)) C (fun H hH => hl H hH) rfl (by decide) fl_X8_136 rfl jX8_written_31 ?_
            refine sg0 C foX8 coX8 oX8_written_34 rfl rfl hn ?_
            refine ng (ci := 3) (k := 1) (v := .int (nI P)) C (fun H hH => hl H hH) rfl (by decide) fl_X8_136 rfl jX8_written_36 ?_
            refine cl_v C (kX1_toward hAD hn hN (q := q) (B := B) (S := S) (fun H hH => (hx H hH).1) hP hB) (nrc C (fun H hH => (hx H hH).1) rfl) cd_X1_toward in_X1 ml_X8_172 im_X1_toward se_X1_toward hd_X1_toward rfl rfl ⟨by show 1 + 1 ≤ k + 4; omega, by show 8 + (2 + 11) + 40 * 1 ≤ 40 * (k + 4); omega⟩ ⟨by show 0 + 0 ≤ k + 1; omega, by show 0 + 0 ≤ 5 * (k + 1); omega⟩ (Nat.le_of_ble_eq_true rfl) jX8_written_39 (fun v ws' => Wa.and (fun hv => ?_))
            obtain ⟨rfl, rfl⟩ := hv
            rw [if_neg hb]
            refine sg0 C foX8 coX8 oX8_written_42 rfl rfl hn ?_
            rw [nI_1]
            refine cl_s C (i1 (15 - B) (d + 1) N hfx (by omega) hN (fun H hH => (hx H hH).2.1) hl) cd_X8_written in_X8 ml_X8_70 sm_X8_written hd_X8_written rfl rfl ⟨by show (15 - B + 4) + 1 ≤ k + 4; omega, by show 8 + (4 + 11) + 40 * (15 - B + 4) ≤ 40 * (k + 4); omega⟩ ⟨by show 0 + (15 - B + 1) ≤ k + 1; omega, by show 0 + 5 * (15 - B + 1) ≤ 5 * (k + 1); omega⟩ (Nat.le_of_ble_eq_true rfl) jX8_written_46 (fun v ws' => Wa.ex (fun T1 => Wa.and (fun hv => ?_)))
            obtain ⟨rfl, rfl, hK1⟩ := hv
            have hN1 := hN.and (nodeAt.ns (D := D) T1)
            have C := C.to (N2 := fun H => N H ∧ nodeAt D H T1) hN1
            refine cl_v C (kX1_with hAD hn hN1 hww (q := q) (B := B) (S := S) (x := x) (y := y) (z := T1) (fun H hH => hx H hH.1) (fun H hH => hH.2) hP hB) (nrc C (fun H hH => (hx H hH.1).1) rfl) cd_X1_with in_X1 ml_X8_175 im_X1_with se_X1_with hd_X1_with rfl rfl ⟨by show 3 + 1 ≤ k + 4; omega, by show 8 + (3 + 11) + 40 * 3 ≤ 40 * (k + 4); omega⟩ ⟨by show (0 + (15 - B + 1)) + 1 ≤ k + 1; omega, by show (0 + 5 * (15 - B + 1)) + 5 ≤ 5 * (k + 1); omega⟩ (Nat.le_of_ble_eq_true rfl) jX8_written_49 (fun v ws' => Wa.ex (fun T2 => Wa.and (fun hv => ?_)))
            obtain ⟨rfl, rfl, hK2⟩ := hv
            have hN2 := hN1.and (nodeAt.ns (D := D) T2)
            have C := C.to (N2 := fun H => (N H ∧ nodeAt D H T1) ∧ nodeAt D H T2) hN2
            have hK3 : ∃ q2, T2 = tF q2 B S T1 y := by
              rcases hK2 with ⟨q2, e1, e2⟩ | ⟨q2, e1, e2⟩
              · exact absurd e1 hb
              · exact ⟨q2, e2⟩
            obtain ⟨q2, rfl⟩ := hK3
            refine Wa.wid (k1 := k + 1) (k2 := 5 * (k + 1)) (by show 0 + (15 - B + 1) + 1 ≤ k + 1; omega) (by show 0 + 5 * (15 - B + 1) + 5 ≤ 5 * (k + 1); omega) ?_
            exact rt_a C hr (Or.inl ⟨_, rfl⟩) hlk jX8_written_52 (fun H hH => ⟨tF q2 B S T1 y, ⟨rfl, rfl, by simp only [wrtT]; rw [if_pos hst, if_neg hb]; simp only [strp, hK1]⟩, hH.1.1, hH.2⟩)
set_option maxRecDepth 100000 in
set_option maxHeartbeats 4000000 in
theorem kX8_erased (hAD : AD ad n) (hn : ws.length = n) (hww : ws.all nno = true) {P : Nat} (hP : P < 65536) (T : Term) (hT : isT T) : ∀ (k d : Nat) (N : Heap → Prop), fitT (T) k → d + k ≤ 16 → NS D N → (∀ H, N H → nodeAt D H (T)) → Ct l yX8_erased cX8_erased 5 (some (.object "PathProofs$Node")) (rK (k + 4) (k + 1) (5 * (k + 1))) D ca ad ws n [.ref (adr (T) + 100), .int (nI P), .int (nI d)] N (nG D ws N (fun T2 => strp T2 = strp (delT (T) P))) := by
  refine tr_ind (P := fun T => ∀ (k d : Nat) (N : Heap → Prop), fitT (T) k → d + k ≤ 16 → NS D N → (∀ H, N H → nodeAt D H (T)) → Ct l yX8_erased cX8_erased 5 (some (.object "PathProofs$Node")) (rK (k + 4) (k + 1) (5 * (k + 1))) D ca ad ws n [.ref (adr (T) + 100), .int (nI P), .int (nI d)] N (nG D ws N (fun T2 => strp T2 = strp (delT (T) P)))) ?_ ?_ ?_ ?_ T hT
  · intro q k d N hfit hdk hN hx
    refine enter (lv := [(0, .ref (adr (tE q) + 100)), (1, .int (nI P)), (2, .int (nI d))]) (by decide +kernel) (Nat.le_of_ble_eq_true rfl) rfl hAD (fun U hK => ns_write hK hN) ?_
    intro p e s m below meth c A args hA C hr hlk hnm
    refine sg0 C foX8 coX8 oX8_erased_0 rfl rfl hn ?_
    refine ni_n (ci := 0) C (fun H hH => hx H hH) rfl kl_X8_167 (by decide) jX8_erased_1 ?_
    refine b1_eq (tgt := 54) C jX8_erased_4 (by decide) (fun h4 => ?_) (fun h4 => ?_)
    · refine nw (ci := 0) (fs := [.long 0]) C hN rfl (by decide) kl_X8_22 is_X0 in_X0 tyX0 tyX0_ok (fun j hj => by rcases (show j = 0 from Nat.lt_one_iff.mp hj) with rfl; rfl) ⟨by show 0 + 1 ≤ k + 1; omega, by show 0 + 1 ≤ 5 * (k + 1); omega⟩ jX8_erased_54 (fun H1 q1 hN_q1 hq1 => ?_)
      have C := C.to (N2 := BN D H1 q1 0 [.long 0]) BN.ns
      refine sg0 C foX8 coX8 oX8_erased_57 rfl rfl hn ?_
      refine cl_i C (kX0_init hAD hn hww) (C.2.2.2.2.2 _ hq1) cd_X0_init in_X0 ml_X8_24 im_X0_init rfl hd_X0_init rfl rfl ⟨by show 2 + 1 ≤ k + 4; omega, by show 8 + (1 + 11) + 40 * 2 ≤ 40 * (k + 4); omega⟩ ⟨by show (0 + 1) + 0 ≤ k + 1; omega, by show (0 + 1) + 0 ≤ 5 * (k + 1); omega⟩ (Nat.le_of_ble_eq_true rfl) jX8_erased_58 (fun v ws' => Wa.and (fun hv => ?_))
      obtain ⟨rfl, rfl⟩ := hv
      have C := C.to (N2 := BN D H1 q1 0 [.long emptyF]) BN.ns
      refine Wa.wid (k1 := k + 1) (k2 := 5 * (k + 1)) (by show 0 + 1 + 0 ≤ k + 1; omega) (by show 0 + 1 + 0 ≤ 5 * (k + 1); omega) ?_
      exact rt_a C hr (Or.inl ⟨_, rfl⟩) hlk jX8_erased_61 (fun H hH => ⟨tE q1, ⟨rfl, rfl, rfl⟩, hN _ _ hN_q1 hH.2.1, hH.2.2⟩)
    · exact absurd h4 (by decide)
  · intro q d0 k d N hfit hdk hN hx
    refine enter (lv := [(0, .ref (adr (tH q d0) + 100)), (1, .int (nI P)), (2, .int (nI d))]) (by decide +kernel) (Nat.le_of_ble_eq_true rfl) rfl hAD (fun U hK => ns_write hK hN) ?_
    intro p e s m below meth c A args hA C hr hlk hnm
    refine sg0 C foX8 coX8 oX8_erased_0 rfl rfl hn ?_
    refine ni_n (ci := 2) C (fun H hH => hx H hH) rfl kl_X8_167 (by decide) jX8_erased_1 ?_
    refine b1_eq (tgt := 54) C jX8_erased_4 (by decide) (fun h4 => ?_) (fun h4 => ?_)
    · refine nw (ci := 0) (fs := [.long 0]) C hN rfl (by decide) kl_X8_22 is_X0 in_X0 tyX0 tyX0_ok (fun j hj => by rcases (show j = 0 from Nat.lt_one_iff.mp hj) with rfl; rfl) ⟨by show 0 + 1 ≤ k + 1; omega, by show 0 + 1 ≤ 5 * (k + 1); omega⟩ jX8_erased_54 (fun H1 q1 hN_q1 hq1 => ?_)
      have C := C.to (N2 := BN D H1 q1 0 [.long 0]) BN.ns
      refine sg0 C foX8 coX8 oX8_erased_57 rfl rfl hn ?_
      refine cl_i C (kX0_init hAD hn hww) (C.2.2.2.2.2 _ hq1) cd_X0_init in_X0 ml_X8_24 im_X0_init rfl hd_X0_init rfl rfl ⟨by show 2 + 1 ≤ k + 4; omega, by show 8 + (1 + 11) + 40 * 2 ≤ 40 * (k + 4); omega⟩ ⟨by show (0 + 1) + 0 ≤ k + 1; omega, by show (0 + 1) + 0 ≤ 5 * (k + 1); omega⟩ (Nat.le_of_ble_eq_true rfl) jX8_erased_58 (fun v ws' => Wa.and (fun hv => ?_))
      obtain ⟨rfl, rfl⟩ := hv
      have C := C.to (N2 := BN D H1 q1 0 [.long emptyF]) BN.ns
      refine Wa.wid (k1 := k + 1) (k2 := 5 * (k + 1)) (by show 0 + 1 + 0 ≤ k + 1; omega) (by show 0 + 1 + 0 ≤ 5 * (k + 1); omega) ?_
      exact rt_a C hr (Or.inl ⟨_, rfl⟩) hlk jX8_erased_61 (fun H hH => ⟨tE q1, ⟨rfl, rfl, rfl⟩, hN _ _ hN_q1 hH.2.1, hH.2.2⟩)
    · exact absurd h4 (by decide)
  · intro q p0 v0 k d N hfit hdk hN hx
    have hp0 : p0 < 65536 := hfit
    refine enter (lv := [(0, .ref (adr (tL q p0 v0) + 100)), (1, .int (nI P)), (2, .int (nI d))]) (by decide +kernel) (Nat.le_of_ble_eq_true rfl) rfl hAD (fun U hK => ns_write hK hN) ?_
    intro p e s m below meth c A args hA C hr hlk hnm
    refine sg0 C foX8 coX8 oX8_erased_0 rfl rfl hn ?_
    refine ni_n (ci := 3) C (fun H hH => hx H hH) rfl kl_X8_167 (by decide) jX8_erased_1 ?_
    refine b1_eq (tgt := 54) C jX8_erased_4 (by decide) (fun h4 => ?_) (fun h4 => ?_)
    · refine nw (ci := 0) (fs := [.long 0]) C hN rfl (by decide) kl_X8_22 is_X0 in_X0 tyX0 tyX0_ok (fun j hj => by rcases (show j = 0 from Nat.lt_one_iff.mp hj) with rfl; rfl) ⟨by show 0 + 1 ≤ k + 1; omega, by show 0 + 1 ≤ 5 * (k + 1); omega⟩ jX8_erased_54 (fun H1 q1 hN_q1 hq1 => ?_)
      have C := C.to (N2 := BN D H1 q1 0 [.long 0]) BN.ns
      refine sg0 C foX8 coX8 oX8_erased_57 rfl rfl hn ?_
      refine cl_i C (kX0_init hAD hn hww) (C.2.2.2.2.2 _ hq1) cd_X0_init in_X0 ml_X8_24 im_X0_init rfl hd_X0_init rfl rfl ⟨by show 2 + 1 ≤ k + 4; omega, by show 8 + (1 + 11) + 40 * 2 ≤ 40 * (k + 4); omega⟩ ⟨by show (0 + 1) + 0 ≤ k + 1; omega, by show (0 + 1) + 0 ≤ 5 * (k + 1); omega⟩ (Nat.le_of_ble_eq_true rfl) jX8_erased_58 (fun v ws' => Wa.and (fun hv => ?_))
      obtain ⟨rfl, rfl⟩ := hv
      have C := C.to (N2 := BN D H1 q1 0 [.long emptyF]) BN.ns
      refine Wa.wid (k1 := k + 1) (k2 := 5 * (k + 1)) (by show 0 + 1 + 0 ≤ k + 1; omega) (by show 0 + 1 + 0 ≤ 5 * (k + 1); omega) ?_
      exact rt_a C hr (Or.inl ⟨_, rfl⟩) hlk jX8_erased_61 (fun H hH => ⟨tE q1, ⟨rfl, rfl, rfl⟩, hN _ _ hN_q1 hH.2.1, hH.2.2⟩)
    · exact absurd h4 (by decide)
  · intro q B S x y hT1 hT2 i1 i2 k d N hfit hdk hN hx
    obtain ⟨⟨hB, hkB, hS, hstm⟩, hfx, hfy⟩ := fitF hfit
    have hS2 := fitF2 hfit
    by_cases hb : bitA P B = 1
    · skip
      refine enter (lv := [(0, .ref (adr (tF q B S x y) + 100)), (1, .int (nI P)), (2, .int (nI d))]) (by decide +kernel) (Nat.le_of_ble_eq_true rfl) rfl hAD (fun U hK => ns_write hK hN) ?_
      intro p e s m below meth c A args hA C hr hlk hnm
      refine sg0 C foX8 coX8 oX8_erased_0 rfl rfl hn ?_
      refine ni_y (ci := 1) C (fun H hH => (hx H hH).1) rfl kl_X8_167 (by decide) jX8_erased_1 ?_
      refine b1_eq (tgt := 54) C jX8_erased_4 (by decide) (fun h4 => ?_) (fun h4 => ?_)
      · exact absurd h4 (by decide)
      · refine sg0 C foX8 coX8 oX8_erased_7 rfl rfl hn ?_
        refine nc_y (ci := 1) C (fun H hH => (hx H hH).1) rfl kl_X8_167 (by decide) jX8_erased_8 ?_
        refine sg0 C foX8 coX8 oX8_erased_11 rfl rfl hn ?_
        refine cl_v C (kX1_toward hAD hn hN (q := q) (B := B) (S := S) (fun H hH => (hx H hH).1) hP hB) (nrc C (fun H hH => (hx H hH).1) rfl) cd_X1_toward in_X1 ml_X8_172 im_X1_toward se_X1_toward hd_X1_toward rfl rfl ⟨by show 1 + 1 ≤ k + 4; omega, by show 8 + (2 + 11) + 40 * 1 ≤ 40 * (k + 4); omega⟩ ⟨by show 0 + 0 ≤ k + 1; omega, by show 0 + 0 ≤ 5 * (k + 1); omega⟩ (Nat.le_of_ble_eq_true rfl) jX8_erased_14 (fun v ws' => Wa.and (fun hv => ?_))
        obtain ⟨rfl, rfl⟩ := hv
        rw [if_pos hb]
        refine sg0 C foX8 coX8 oX8_erased_17 rfl rfl hn ?_
        refine ni_F C (T := y) (fun H hH => (hx H hH).2.2) kl_X8_167 jX8_erased_21 ?_
        refine b1_eq (tgt := 48) C jX8_erased_24 (by decide) (fun h24 => ?_) (fun h24 => ?_)
        · have hf : ¬ isF y = true := fun e1 => by rw [if_pos e1] at h24; exact absurd h24 (by decide)
          refine sg0 C foX8 coX8 oX8_erased_48 rfl rfl hn ?_
          refine cl_v C (kX1_besides hAD hn hN (q := q) (B := B) (S := S) (fun H hH => (hx H hH).1) hP hB) (nrc C (fun H hH => (hx H hH).1) rfl) cd_X1_besides in_X1 ml_X8_196 im_X1_besides se_X1_besides hd_X1_besides rfl rfl ⟨by show 1 + 1 ≤ k + 4; omega, by show 8 + (2 + 11) + 40 * 1 ≤ 40 * (k + 4); omega⟩ ⟨by show 0 + 0 ≤ k + 1; omega, by show 0 + 0 ≤ 5 * (k + 1); omega⟩ (Nat.le_of_ble_eq_true rfl) jX8_erased_50 (fun v ws' => Wa.and (fun hv => ?_))
          obtain ⟨rfl, rfl⟩ := hv
          rw [if_pos hb]
          refine Wa.wid (k1 := k + 1) (k2 := 5 * (k + 1)) (by show 0 + 0 ≤ k + 1; omega) (by show 0 + 0 ≤ 5 * (k + 1); omega) ?_
          exact rt_a C hr (Or.inl ⟨_, rfl⟩) hlk jX8_erased_53 (fun H hH => ⟨x, ⟨rfl, rfl, by simp only [delT]; rw [if_pos hb, if_neg hf]⟩, hH, (hx H hH).2.1⟩)
        · have hf : isF y = true := Decidable.byContradiction fun e1 => h24 (if_neg e1)
          refine sg0 C foX8 coX8 oX8_erased_27 rfl rfl hn ?_
          refine b2_ge (tgt := 48) C jX8_erased_30 (by decide) (fun h30 => ?_) (fun h30 => ?_)
          · exact absurd h30 (by rw [show (16 : Int32) = nI 16 from rfl]; exact nI_ge (by omega) (by decide))
          · refine sg0 C foX8 coX8 oX8_erased_33 rfl rfl hn ?_
            rw [nI_1]
            refine cl_s C (i2 (15 - B) (d + 1) N hfy (by omega) hN (fun H hH => (hx H hH).2.2)) cd_X8_erased in_X8 ml_X8_79 sm_X8_erased hd_X8_erased rfl rfl ⟨by show (15 - B + 4) + 1 ≤ k + 4; omega, by show 8 + (5 + 11) + 40 * (15 - B + 4) ≤ 40 * (k + 4); omega⟩ ⟨by show 0 + (15 - B + 1) ≤ k + 1; omega, by show 0 + 5 * (15 - B + 1) ≤ 5 * (k + 1); omega⟩ (Nat.le_of_ble_eq_true rfl) jX8_erased_41 (fun v ws' => Wa.ex (fun T1 => Wa.and (fun hv => ?_)))
            obtain ⟨rfl, rfl, hK1⟩ := hv
            have hN1 := hN.and (nodeAt.ns (D := D) T1)
            have C := C.to (N2 := fun H => N H ∧ nodeAt D H T1) hN1
            refine cl_v C (kX1_with hAD hn hN1 hww (q := q) (B := B) (S := S) (x := x) (y := y) (z := T1) (fun H hH => hx H hH.1) (fun H hH => hH.2) hP hB) (nrc C (fun H hH => (hx H hH.1).1) rfl) cd_X1_with in_X1 ml_X8_175 im_X1_with se_X1_with hd_X1_with rfl rfl ⟨by show 3 + 1 ≤ k + 4; omega, by show 8 + (3 + 11) + 40 * 3 ≤ 40 * (k + 4); omega⟩ ⟨by show (0 + (15 - B + 1)) + 1 ≤ k + 1; omega, by show (0 + 5 * (15 - B + 1)) + 5 ≤ 5 * (k + 1); omega⟩ (Nat.le_of_ble_eq_true rfl) jX8_erased_44 (fun v ws' => Wa.ex (fun T2 => Wa.and (fun hv => ?_)))
            obtain ⟨rfl, rfl, hK2⟩ := hv
            have hN2 := hN1.and (nodeAt.ns (D := D) T2)
            have C := C.to (N2 := fun H => (N H ∧ nodeAt D H T1) ∧ nodeAt D H T2) hN2
            have hK3 : ∃ q2, T2 = tF q2 B S x T1 := by
              rcases hK2 with ⟨q2, e1, e2⟩ | ⟨q2, e1, e2⟩
              · exact ⟨q2, e2⟩
              · exact absurd hb e1
            obtain ⟨q2, rfl⟩ := hK3
            refine Wa.wid (k1 := k + 1) (k2 := 5 * (k + 1)) (by show 0 + (15 - B + 1) + 1 ≤ k + 1; omega) (by show 0 + 5 * (15 - B + 1) + 5 ≤ 5 * (k + 1); omega) ?_
            exact rt_a C hr (Or.inl ⟨_, rfl⟩) hlk jX8_erased_47 (fun H hH => ⟨tF q2 B S x T1, ⟨rfl, rfl, by simp only [delT]; rw [if_pos hb, if_pos hf]; simp only [strp, hK1]⟩, hH.1.1, hH.2⟩)
    · skip
      refine enter (lv := [(0, .ref (adr (tF q B S x y) + 100)), (1, .int (nI P)), (2, .int (nI d))]) (by decide +kernel) (Nat.le_of_ble_eq_true rfl) rfl hAD (fun U hK => ns_write hK hN) ?_
      intro p e s m below meth c A args hA C hr hlk hnm
      refine sg0 C foX8 coX8 oX8_erased_0 rfl rfl hn ?_
      refine ni_y (ci := 1) C (fun H hH => (hx H hH).1) rfl kl_X8_167 (by decide) jX8_erased_1 ?_
      refine b1_eq (tgt := 54) C jX8_erased_4 (by decide) (fun h4 => ?_) (fun h4 => ?_)
      · exact absurd h4 (by decide)
      · refine sg0 C foX8 coX8 oX8_erased_7 rfl rfl hn ?_
        refine nc_y (ci := 1) C (fun H hH => (hx H hH).1) rfl kl_X8_167 (by decide) jX8_erased_8 ?_
        refine sg0 C foX8 coX8 oX8_erased_11 rfl rfl hn ?_
        refine cl_v C (kX1_toward hAD hn hN (q := q) (B := B) (S := S) (fun H hH => (hx H hH).1) hP hB) (nrc C (fun H hH => (hx H hH).1) rfl) cd_X1_toward in_X1 ml_X8_172 im_X1_toward se_X1_toward hd_X1_toward rfl rfl ⟨by show 1 + 1 ≤ k + 4; omega, by show 8 + (2 + 11) + 40 * 1 ≤ 40 * (k + 4); omega⟩ ⟨by show 0 + 0 ≤ k + 1; omega, by show 0 + 0 ≤ 5 * (k + 1); omega⟩ (Nat.le_of_ble_eq_true rfl) jX8_erased_14 (fun v ws' => Wa.and (fun hv => ?_))
        obtain ⟨rfl, rfl⟩ := hv
        rw [if_neg hb]
        refine sg0 C foX8 coX8 oX8_erased_17 rfl rfl hn ?_
        refine ni_F C (T := x) (fun H hH => (hx H hH).2.1) kl_X8_167 jX8_erased_21 ?_
        refine b1_eq (tgt := 48) C jX8_erased_24 (by decide) (fun h24 => ?_) (fun h24 => ?_)
        · have hf : ¬ isF x = true := fun e1 => by rw [if_pos e1] at h24; exact absurd h24 (by decide)
          refine sg0 C foX8 coX8 oX8_erased_48 rfl rfl hn ?_
          refine cl_v C (kX1_besides hAD hn hN (q := q) (B := B) (S := S) (fun H hH => (hx H hH).1) hP hB) (nrc C (fun H hH => (hx H hH).1) rfl) cd_X1_besides in_X1 ml_X8_196 im_X1_besides se_X1_besides hd_X1_besides rfl rfl ⟨by show 1 + 1 ≤ k + 4; omega, by show 8 + (2 + 11) + 40 * 1 ≤ 40 * (k + 4); omega⟩ ⟨by show 0 + 0 ≤ k + 1; omega, by show 0 + 0 ≤ 5 * (k + 1); omega⟩ (Nat.le_of_ble_eq_true rfl) jX8_erased_50 (fun v ws' => Wa.and (fun hv => ?_))
          obtain ⟨rfl, rfl⟩ := hv
          rw [if_neg hb]
          refine Wa.wid (k1 := k + 1) (k2 := 5 * (k + 1)) (by show 0 + 0 ≤ k + 1; omega) (by show 0 + 0 ≤ 5 * (k + 1); omega) ?_
          exact rt_a C hr (Or.inl ⟨_, rfl⟩) hlk jX8_erased_53 (fun H hH => ⟨y, ⟨rfl, rfl, by simp only [delT]; rw [if_neg hb, if_neg hf]⟩, hH, (hx H hH).2.2⟩)
        · have hf : isF x = true := Decidable.byContradiction fun e1 => h24 (if_neg e1)
          refine sg0 C foX8 coX8 oX8_erased_27 rfl rfl hn ?_
          refine b2_ge (tgt := 48) C jX8_erased_30 (by decide) (fun h30 => ?_) (fun h30 => ?_)
          · exact absurd h30 (by rw [show (16 : Int32) = nI 16 from rfl]; exact nI_ge (by omega) (by decide))
          · refine sg0 C foX8 coX8 oX8_erased_33 rfl rfl hn ?_
            rw [nI_1]
            refine cl_s C (i1 (15 - B) (d + 1) N hfx (by omega) hN (fun H hH => (hx H hH).2.1)) cd_X8_erased in_X8 ml_X8_79 sm_X8_erased hd_X8_erased rfl rfl ⟨by show (15 - B + 4) + 1 ≤ k + 4; omega, by show 8 + (5 + 11) + 40 * (15 - B + 4) ≤ 40 * (k + 4); omega⟩ ⟨by show 0 + (15 - B + 1) ≤ k + 1; omega, by show 0 + 5 * (15 - B + 1) ≤ 5 * (k + 1); omega⟩ (Nat.le_of_ble_eq_true rfl) jX8_erased_41 (fun v ws' => Wa.ex (fun T1 => Wa.and (fun hv => ?_)))
            obtain ⟨rfl, rfl, hK1⟩ := hv
            have hN1 := hN.and (nodeAt.ns (D := D) T1)
            have C := C.to (N2 := fun H => N H ∧ nodeAt D H T1) hN1
            refine cl_v C (kX1_with hAD hn hN1 hww (q := q) (B := B) (S := S) (x := x) (y := y) (z := T1) (fun H hH => hx H hH.1) (fun H hH => hH.2) hP hB) (nrc C (fun H hH => (hx H hH.1).1) rfl) cd_X1_with in_X1 ml_X8_175 im_X1_with se_X1_with hd_X1_with rfl rfl ⟨by show 3 + 1 ≤ k + 4; omega, by show 8 + (3 + 11) + 40 * 3 ≤ 40 * (k + 4); omega⟩ ⟨by show (0 + (15 - B + 1)) + 1 ≤ k + 1; omega, by show (0 + 5 * (15 - B + 1)) + 5 ≤ 5 * (k + 1); omega⟩ (Nat.le_of_ble_eq_true rfl) jX8_erased_44 (fun v ws' => Wa.ex (fun T2 => Wa.and (fun hv => ?_)))
            obtain ⟨rfl, rfl, hK2⟩ := hv
            have hN2 := hN1.and (nodeAt.ns (D := D) T2)
            have C := C.to (N2 := fun H => (N H ∧ nodeAt D H T1) ∧ nodeAt D H T2) hN2
            have hK3 : ∃ q2, T2 = tF q2 B S T1 y := by
              rcases hK2 with ⟨q2, e1, e2⟩ | ⟨q2, e1, e2⟩
              · exact absurd e1 hb
              · exact ⟨q2, e2⟩
            obtain ⟨q2, rfl⟩ := hK3
            refine Wa.wid (k1 := k + 1) (k2 := 5 * (k + 1)) (by show 0 + (15 - B + 1) + 1 ≤ k + 1; omega) (by show 0 + 5 * (15 - B + 1) + 5 ≤ 5 * (k + 1); omega) ?_
            exact rt_a C hr (Or.inl ⟨_, rfl⟩) hlk jX8_erased_47 (fun H hH => ⟨tF q2 B S T1 y, ⟨rfl, rfl, by simp only [delT]; rw [if_neg hb, if_pos hf]; simp only [strp, hK1]⟩, hH.1.1, hH.2⟩)
end
