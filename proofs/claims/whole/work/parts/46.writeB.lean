/-! the model: write, erase -/
theorem rep_nod (T : Term) (hT : isT T) (P : Nat) (R : Term) : nodT (repW T P R) + nodT (wayT T P) = nodT T + nodT R := by
  refine tr_ind (P := fun T => nodT (repW T P R) + nodT (wayT T P) = nodT T + nodT R) ?_ ?_ ?_ ?_ T hT
  · exact fun q => Nat.add_comm _ _
  · exact fun q d => Nat.add_comm _ _
  · exact fun q p v => Nat.add_comm _ _
  · intro q B S x y t1 t2 i1 i2
    by_cases h1 : stm P B = S
    · by_cases h2 : bitA P B = 1
      · obtain ⟨e1, -, e3⟩ := way1 (q := q) (x := x) (y := y) h1 h2 0 R
        rw [e1, e3]
        simp only [nodT]
        omega
      · obtain ⟨e1, -, e3⟩ := way0 (q := q) (x := x) (y := y) h1 h2 0 R
        rw [e1, e3]
        simp only [nodT]
        omega
    · obtain ⟨e1, -, e3⟩ := way_no (T := tF q B S x y) (P := P) ⟨t1, t2⟩ h1 0 R
      rw [e1, e3]
      exact Nat.add_comm _ _
theorem ins_nod {U : Term} (hT : isT U) {P pn : Nat} {v : Int64} (hfk : fkT (strp (wayT U P)) pn P (tL 0 P v) = wrtT (strp (wayT U P)) P (tL 0 P v)) : nodT (wrtT (strp U) P (tL 0 P v)) = nodT U + 2 := by
  have hTE := way_T U hT P
  have hTR : isT (fkT (wayT U P) pn P (tL 0 P v)) := by unfold fkT; split <;> first | exact ⟨hTE, trivial⟩ | exact ⟨trivial, hTE⟩
  have hnR : nodT (fkT (wayT U P) pn P (tL 0 P v)) = nodT (wayT U P) + 2 := by
    unfold fkT
    split <;> simp only [nodT] <;> omega
  have h1 := rep_wrt U hT P (R := fkT (wayT U P) pn P (tL 0 P v)) (L := tL 0 P v) (by rw [← hfk]; unfold fkT; split <;> rfl)
  have h2 := rep_nod U hT P (fkT (wayT U P) pn P (tL 0 P v))
  rw [← h1, strp_nod _ (rep_T U hT P hTR)]
  omega
/-- the end of a way, changed where it stands: what follows -/
theorem set_all {V V2 : VA} {U : Term} {P h0 : Nat} {v : Int64} {Fl : List Nat} (hT : isT U) (hv : vtR V U) (hpo : poR h0 U Fl) (hnF : ¬ isF (wayT U P) = true) (hL : wrtT (strp (wayT U P)) P (tL 0 P v) = tL 0 P v) (hag : agV (fun q => ¬ q = adr (wayT U P)) V V2) (hR : vtR V2 (tL (adr (wayT U P)) P v)) : isT (repW U P (tL (adr (wayT U P)) P v)) ∧ strp (repW U P (tL (adr (wayT U P)) P v)) = wrtT (strp U) P (tL 0 P v) ∧ vtR V2 (repW U P (tL (adr (wayT U P)) P v)) ∧ poR h0 (repW U P (tL (adr (wayT U P)) P v)) Fl ∧ nodT (repW U P (tL (adr (wayT U P)) P v)) = nodT U ∧ adr (repW U P (tL (adr (wayT U P)) P v)) = adr U := by
  obtain ⟨g1, g2⟩ := vt_set U hT P (R := tL (adr (wayT U P)) P v) hag hR (List.nodup_append.mp hpo.1).1 hv rfl
  have h1 := rep_nod U hT P (tL (adr (wayT U P)) P v)
  have h2 : nodT (wayT U P) = 1 := by rw [← ids_len _ (way_T U hT P), ids_nF (way_T U hT P) hnF]; rfl
  have h3 : nodT (tL (adr (wayT U P)) P v) = 1 := rfl
  refine ⟨rep_T U hT P trivial, rep_wrt U hT P hL.symm, g1, po_perm (fun z => ?_) hpo, by omega, g2⟩
  have h4 := rep_cnt U hT P (tL (adr (wayT U P)) P v) z
  have h5 : ids (tL (adr (wayT U P)) P v) = ids (wayT U P) := (ids_nF (way_T U hT P) hnF).symm
  rw [h5] at h4
  omega
theorem way_end {U : Term} (hT : isT U) {P q B S : Nat} {x y : Term} : wayT U P = tF q B S x y → ¬ stm P B = S := by
  refine tr_ind (P := fun U => wayT U P = tF q B S x y → ¬ stm P B = S) ?_ ?_ ?_ ?_ U hT
  · intro q h; cases h
  · intro q d h; cases h
  · intro q p v h; cases h
  · intro q1 B1 S1 x1 y1 t1 t2 i1 i2 h
    by_cases h1 : stm P B1 = S1
    · by_cases h2 : bitA P B1 = 1
      · rw [(way1 (q := q1) (x := x1) (y := y1) h1 h2 0 (tE 0)).1] at h
        exact i2 h
      · rw [(way0 (q := q1) (x := x1) (y := y1) h1 h2 0 (tE 0)).1] at h
        exact i1 h
    · rw [(way_no (T := tF q1 B1 S1 x1 y1) (P := P) ⟨t1, t2⟩ h1 0 (tE 0)).1] at h
      cases h
      exact h1
section
variable {l : Launch} {D : va_G} {ca : Nat → ClassId} {ad : Nat → Nat} {N : Heap → Prop} {pa : Nat → Int32} {va : Nat → Int64} {sz : Nat → Int32} {fr : Nat → Int32} {tw : Nat → Int32} {ta : Nat → Int32} {wd : Nat → Int64} {wb : Nat → Int32} {wp : Nat → Int32} {ou : Nat → Int32} {o1 : Nat → Int32} {o2 : Nat → Int32} {pf : Nat → Int32} {pt : Nat → Int32} {ki : Nat → Int32} {bi : Nat → Int32} {ste : Nat → Int32} {hel : Nat → Int64} {low : Nat → Int32} {hgh : Nat → Int32} {su : Nat → Int64} {ro : Nat → Int32} {fe : Nat → Int32} {vs : Int32} {wn : Int32} {tp : Int32} {dp : Int32} {la : Int32} {rst : Int32} {hlf : Int32} {nd : Int32} {rt : Int32} {frd : Int32} {fa : Int32} {at_ : Int32} {end_ : Int32} {ab : Int32} {fo : Int64} {co : Int32} {ll : Int32} {lh : Int32} {hm : Int32}
set_option maxRecDepth 100000 in
set_option maxHeartbeats 4000000 in
theorem kX9_write (hAD : AD ad 24) (hN : NS D N) {U : Term} {Fl : List Nat} {h0 : Nat} (hh0 : h0 ≤ 800) (hT : isT U) (hv : vtR (ki, bi, ste, hel, low, hgh) U) (hfit : fitT U 16) (hpo : poR h0 U Fl) (hfe : feR fe Fl) (hn7 : nodT U ≤ 700) {P : Nat} (hP : P < 65536) (v : Int64) : Ct l yX9_write cX9_write 8 (some .int) (rK 3 0 0) D ca ad (mW pa va sz fr tw ta wd wb wp ou o1 o2 pf pt ki bi ste hel low hgh su ro fe vs wn tp dp la rst hlf (nI (nodT U)) (nI (adr U)) (nI Fl.length) fa at_ end_ ab fo co ll lh hm) 24 [.ref 0, .int (nI P), .long v] N (fun r ws2 H => ∃ e2 a2 : Int32, ((isH (wayT U P) = true ∧ r = some (.int (-4)) ∧ ws2 = (mW pa va sz fr tw ta wd wb wp ou o1 o2 pf pt ki bi ste hel low hgh su ro fe vs wn tp dp la rst hlf (nI (nodT U)) (nI (adr U)) (nI Fl.length) fa at_ e2 a2 fo co ll lh hm)) ∨ (¬ isH (wayT U P) = true ∧ 700 < nodT (wrtT (strp U) P (tL 0 P v)) ∧ r = some (.int (-3)) ∧ ws2 = (mW pa va sz fr tw ta wd wb wp ou o1 o2 pf pt ki bi ste hel low hgh su ro fe vs wn tp dp la rst hlf (nI (nodT U)) (nI (adr U)) (nI Fl.length) fa at_ e2 a2 fo co ll lh hm)) ∨ (∃ (U2 : Term) (Fl2 : List Nat) (ki2 bi2 ste2 : Nat → Int32) (hel2 : Nat → Int64) (low2 hgh2 : Nat → Int32), ¬ isH (wayT U P) = true ∧ (isT U2 ∧ strp U2 = wrtT (strp U) P (tL 0 P v) ∧ vtR (ki2, bi2, ste2, hel2, low2, hgh2) U2 ∧ poR h0 U2 Fl2 ∧ feR fe Fl2 ∧ nodT U2 ≤ 700) ∧ r = some (.int (if lfT (wayT U P) P = true then 0 else 1)) ∧ ws2 = (mW pa va sz fr tw ta wd wb wp ou o1 o2 pf pt ki2 bi2 ste2 hel2 low2 hgh2 su ro fe vs wn tp dp la rst hlf (nI (nodT U2)) (nI (adr U2)) (nI Fl2.length) fa at_ e2 a2 fo co ll lh hm))) ∧ N H) := by
  have hgd : gdV (ki, bi, ste, hel, low, hgh) U := ⟨hT, hv, po_bd hh0 hpo⟩
  have hb : adr U < 1600 := hgd.2.2 _ (adr_ids _ hgd.1)
  have hP1 : 0 ≤ nI P ∧ nI P ≤ 65535 := ⟨show nI 0 ≤ nI P from nI_le (by omega) (by omega), show nI P ≤ nI 65535 from nI_le (by omega) (by decide)⟩
  have hge := way_gd U P hgd
  have hbe : adr (wayT U P) < 1600 := hge.2.2 _ (adr_ids _ hge.1)
  have hcl : (nI (adr (wayT U P))).toNatClampNeg = adr (wayT U P) := nI_clamp (by omega)
  obtain ⟨j, hj, hfe9⟩ := way_ft U hgd.1 P 16 (by decide) hfit
  have hl8 := po_len hT hpo
  refine enter (lv := [(0, .ref 0), (1, .int (nI P)), (2, .long v)]) (by decide +kernel) (Nat.le_of_ble_eq_true rfl) rfl hAD (fun U hK => ns_write hK hN) ?_
  intro p e s m below meth c A args hA C hr hlk hnm
  refine sg0 C foX9 coX9 oX9_write_0 rfl rfl rfl ?_
  refine cl_s C (kX9_isPath hAD rfl hN (nI P)) cd_X9_isPath in_X9 ml_X9_101 sm_X9_isPath hd_X9_isPath rfl rfl ⟨(Nat.le_of_ble_eq_true rfl), (Nat.le_of_ble_eq_true rfl)⟩ ⟨(Nat.le_of_ble_eq_true rfl), (Nat.le_of_ble_eq_true rfl)⟩ (Nat.le_of_ble_eq_true rfl) jX9_write_1 (fun v ws' => Wa.and (fun hv => ?_))
  obtain ⟨rfl, rfl⟩ := hv
  refine b1_eq (tgt := 16) C jX9_write_4 (by decide) (fun h4 => ?_) (fun h4 => ?_)
  · exact absurd h4 (by rw [if_pos hP1]; decide)
  · refine sg0 C foX9 coX9 oX9_write_7 rfl rfl rfl ?_
    refine b2_ne (tgt := 30) C jX9_write_13 (by decide) (fun h13 => ?_) (fun h13 => ?_)
    · refine sg0 C foX9 coX9 oX9_write_30 rfl rfl rfl ?_
      refine cl_v C (kX9_way hAD hN hgd hfit hP) (rcv (ci := 8) C.2.1 rfl rfl) cd_X9_way in_X9 ml_X9_206 im_X9_way se_X9_way hd_X9_way rfl rfl ⟨(Nat.le_of_ble_eq_true rfl), (Nat.le_of_ble_eq_true rfl)⟩ ⟨(Nat.le_of_ble_eq_true rfl), (Nat.le_of_ble_eq_true rfl)⟩ (Nat.le_of_ble_eq_true rfl) jX9_write_32 (fun v ws' => Wa.and (fun hv => ?_))
      obtain ⟨rfl, rfl⟩ := hv
      refine sg C foX9 coX9 oX9_write_35 rfl rfl rfl ⟨vp_in_nI (by omega) (by decide), trivial⟩ ?_
      rw [hcl]
      rcases shp (wayT U P) hge.1 with ⟨q0, hE⟩ | ⟨q0, d0, hE⟩ | ⟨q0, p0, v0, hE⟩ | ⟨q0, B0, S0, x0, y0, hE⟩
      · have h9 := hge.2.1
        rw [hE] at h9
        have hk : ki (adr (wayT U P)) = 3 := by rw [hE]; exact h9
        have hnH : ¬ isH (wayT U P) = true := by rw [hE]; intro e9; cases e9
        have hlf : ¬ lfT (wayT U P) P = true := by rw [hE]; intro e9; cases e9
        refine b1_ne (tgt := 50) C jX9_write_44 (by decide) (fun h44 => ?_) (fun h44 => ?_)
        · refine sg0 C foX9 coX9 oX9_write_50 rfl rfl rfl ?_
          refine cl_v C (kX9_isThere hAD hN hge hfe9 hP) (rcv (ci := 8) C.2.1 rfl rfl) cd_X9_isThere in_X9 ml_X9_210 im_X9_isThere se_X9_isThere hd_X9_isThere rfl rfl ⟨(Nat.le_of_ble_eq_true rfl), (Nat.le_of_ble_eq_true rfl)⟩ ⟨(Nat.le_of_ble_eq_true rfl), (Nat.le_of_ble_eq_true rfl)⟩ (Nat.le_of_ble_eq_true rfl) jX9_write_52 (fun v ws' => Wa.and (fun hv => ?_))
          obtain ⟨rfl, rfl⟩ := hv
          refine b1_eq (tgt := 70) C jX9_write_55 (by decide) (fun h55 => ?_) (fun h55 => ?_)
          · refine sg C foX9 coX9 oX9_write_70 rfl rfl rfl ⟨vp_in_nI (by omega) (by decide), trivial⟩ ?_
            rw [hcl]
            refine b2_ne (tgt := 115) C jX9_write_80 (by decide) (fun h80 => ?_) (fun h80 => ?_)
            · exact absurd hk h80
            · refine sg C foX9 coX9 oX9_write_83 rfl rfl rfl ⟨vp_in_nI (by omega) (by decide), vp_in_nI (by omega) (by decide), vp_in_nI (by omega) (by decide), trivial⟩ ?_
              rw [hcl]
              obtain ⟨n1, n2, n3, n4, n5, n6⟩ := set_all (V2 := (upd ki (adr (wayT U P)) 2, bi, upd ste (adr (wayT U P)) (nI P), vp_updL hel (adr (wayT U P)) v, low, hgh)) (v := v) hT hv hpo (by rw [hE]; intro e9; cases e9) (by rw [hE]; rfl) (fun q hq => ⟨if_neg hq, rfl, if_neg hq, if_neg hq, rfl, rfl⟩) ⟨if_pos rfl, if_pos rfl, if_pos rfl⟩
              exact rt_i C hr hlk jX9_write_114 (fun H hH => ⟨_, _, Or.inr (Or.inr ⟨_, Fl, _, _, _, _, _, _, hnH, ⟨n1, n2, n3, n4, hfe, by omega⟩, by rw [if_neg hlf], by rw [n5, n6]⟩), hH⟩)
          · exact absurd (if_neg hlf) h55
        · exact absurd (hk.symm.trans h44) (by decide)
      · have h9 := hge.2.1
        rw [hE] at h9
        have hk : ki (adr (wayT U P)) = 0 := by rw [hE]; exact h9.1
        refine b1_ne (tgt := 50) C jX9_write_44 (by decide) (fun h44 => ?_) (fun h44 => ?_)
        · exact absurd hk h44
        · refine sg0 C foX9 coX9 oX9_write_47 rfl rfl rfl ?_
          exact rt_i C hr hlk jX9_write_49 (fun H hH => ⟨_, _, Or.inl ⟨by rw [hE]; rfl, rfl, rfl⟩, hH⟩)
      · have h9 := hge.2.1
        rw [hE] at h9
        have hk : ki (adr (wayT U P)) = 2 := by rw [hE]; exact h9.1
        have hnH : ¬ isH (wayT U P) = true := by rw [hE]; intro e9; cases e9
        refine b1_ne (tgt := 50) C jX9_write_44 (by decide) (fun h44 => ?_) (fun h44 => ?_)
        · refine sg0 C foX9 coX9 oX9_write_50 rfl rfl rfl ?_
          refine cl_v C (kX9_isThere hAD hN hge hfe9 hP) (rcv (ci := 8) C.2.1 rfl rfl) cd_X9_isThere in_X9 ml_X9_210 im_X9_isThere se_X9_isThere hd_X9_isThere rfl rfl ⟨(Nat.le_of_ble_eq_true rfl), (Nat.le_of_ble_eq_true rfl)⟩ ⟨(Nat.le_of_ble_eq_true rfl), (Nat.le_of_ble_eq_true rfl)⟩ (Nat.le_of_ble_eq_true rfl) jX9_write_52 (fun v ws' => Wa.and (fun hv => ?_))
          obtain ⟨rfl, rfl⟩ := hv
          refine b1_eq (tgt := 70) C jX9_write_55 (by decide) (fun h55 => ?_) (fun h55 => ?_)
          · have hlf : ¬ lfT (wayT U P) P = true := fun e9 => by rw [if_pos e9] at h55; exact absurd h55 (by decide)
            have hpP : ¬ p0 = P := fun e9 => hlf (by rw [hE]; exact decide_eq_true e9)
            refine sg C foX9 coX9 oX9_write_70 rfl rfl rfl ⟨vp_in_nI (by omega) (by decide), trivial⟩ ?_
            rw [hcl]
            refine b2_ne (tgt := 115) C jX9_write_80 (by decide) (fun h80 => ?_) (fun h80 => ?_)
            · have hs : ste (adr (wayT U P)) = nI p0 := by rw [hE]; exact h9.2.1
              have hpn : p0 < 65536 := by rw [hE] at hfe9; exact hfe9
              have hne : P ≠ p0 := fun e9 => hpP e9.symm
              have hfk : fkT (strp (wayT U P)) p0 P (tL 0 P v) = wrtT (strp (wayT U P)) P (tL 0 P v) := by rw [hE]; exact (if_neg hpP).symm
              refine sg0 C foX9 coX9 oX9_write_115 rfl rfl rfl ?_
              rw [show nI (nodT U) + 2 = nI (nodT U + 2) from nI_add (nodT U) 2]
              refine b2_le (tgt := 130) C jX9_write_124 (by decide) (fun h124 => ?_) (fun h124 => ?_)
              · have h7 : nodT U + 2 ≤ 700 := (nI_leI (by omega) (by decide)).mp (show nI (nodT U + 2) ≤ nI 700 from h124)
                refine wr_ins C hAD hN ⟨(Nat.le_of_ble_eq_true rfl), (Nat.le_of_ble_eq_true rfl), (Nat.le_of_ble_eq_true rfl), (Nat.le_of_ble_eq_true rfl)⟩ hh0 hT hv hpo hfe hn7 hP hpn hne hs hfk (fun U2 Fl2 ki2 bi2 ste2 hel2 low2 hgh2 m1 m2 m3 m4 m5 m6 => ?_)
                exact rt_i C hr hlk jX9_write_298 (fun H hH => ⟨_, _, Or.inr (Or.inr ⟨U2, Fl2, ki2, bi2, ste2, hel2, low2, hgh2, hnH, ⟨m1, m2, m3, m4, m5, by omega⟩, by rw [if_neg hlf], rfl⟩), hH⟩)
              · have h7 : 700 < nodT U + 2 := Nat.not_le.mp fun q9 => h124 (show nI (nodT U + 2) ≤ nI 700 from nI_le q9 (by decide))
                refine sg0 C foX9 coX9 oX9_write_127 rfl rfl rfl ?_
                exact rt_i C hr hlk jX9_write_129 (fun H hH => ⟨_, _, Or.inr (Or.inl ⟨hnH, by rw [ins_nod hT hfk]; exact h7, rfl, rfl⟩), hH⟩)
            · exact absurd (hk.symm.trans h80) (by decide)
          · have hlf : lfT (wayT U P) P = true := Decidable.byContradiction fun e9 => h55 (if_neg e9)
            have hpP : p0 = P := by rw [hE] at hlf; exact of_decide_eq_true hlf
            have hs : ste (adr (wayT U P)) = nI P := by rw [hE, ← hpP]; exact h9.2.1
            obtain ⟨n1, n2, n3, n4, n5, n6⟩ := set_all (V2 := (ki, bi, ste, vp_updL hel (adr (wayT U P)) v, low, hgh)) (v := v) hT hv hpo (by rw [hE]; intro e9; cases e9) (by rw [hE]; exact if_pos hpP) (fun q hq => ⟨rfl, rfl, rfl, if_neg hq, rfl, rfl⟩) ⟨hk, hs, if_pos rfl⟩
            refine sg C foX9 coX9 oX9_write_58 rfl rfl rfl ⟨vp_in_nI (by omega) (by decide), trivial⟩ ?_
            rw [hcl]
            exact rt_i C hr hlk jX9_write_69 (fun H hH => ⟨_, _, Or.inr (Or.inr ⟨_, Fl, _, _, _, _, _, _, hnH, ⟨n1, n2, n3, n4, hfe, by omega⟩, by rw [if_pos hlf], by rw [n5, n6]⟩), hH⟩)
        · exact absurd (hk.symm.trans h44) (by decide)
      · have h9 := hge.2.1
        rw [hE] at h9
        have hk : ki (adr (wayT U P)) = 1 := by rw [hE]; exact h9.1.1
        have hnH : ¬ isH (wayT U P) = true := by rw [hE]; intro e9; cases e9
        have hlf : ¬ lfT (wayT U P) P = true := by rw [hE]; intro e9; cases e9
        refine b1_ne (tgt := 50) C jX9_write_44 (by decide) (fun h44 => ?_) (fun h44 => ?_)
        · refine sg0 C foX9 coX9 oX9_write_50 rfl rfl rfl ?_
          refine cl_v C (kX9_isThere hAD hN hge hfe9 hP) (rcv (ci := 8) C.2.1 rfl rfl) cd_X9_isThere in_X9 ml_X9_210 im_X9_isThere se_X9_isThere hd_X9_isThere rfl rfl ⟨(Nat.le_of_ble_eq_true rfl), (Nat.le_of_ble_eq_true rfl)⟩ ⟨(Nat.le_of_ble_eq_true rfl), (Nat.le_of_ble_eq_true rfl)⟩ (Nat.le_of_ble_eq_true rfl) jX9_write_52 (fun v ws' => Wa.and (fun hv => ?_))
          obtain ⟨rfl, rfl⟩ := hv
          refine b1_eq (tgt := 70) C jX9_write_55 (by decide) (fun h55 => ?_) (fun h55 => ?_)
          · refine sg C foX9 coX9 oX9_write_70 rfl rfl rfl ⟨vp_in_nI (by omega) (by decide), trivial⟩ ?_
            rw [hcl]
            refine b2_ne (tgt := 115) C jX9_write_80 (by decide) (fun h80 => ?_) (fun h80 => ?_)
            · have hs : ste (adr (wayT U P)) = nI S0 := by rw [hE]; exact h9.1.2.2.1
              have hpn : S0 < 65536 := by rw [hE] at hfe9; exact fitF2 hfe9
              have hst : stm S0 B0 = S0 := by rw [hE] at hfe9; exact (fitF hfe9).1.2.2.2
              have htk : ¬ stm P B0 = S0 := way_end hT hE
              have hne : P ≠ S0 := fun e9 => htk (by rw [e9]; exact hst)
              have hfk : fkT (strp (wayT U P)) S0 P (tL 0 P v) = wrtT (strp (wayT U P)) P (tL 0 P v) := by rw [hE]; exact (if_neg htk).symm
              refine sg0 C foX9 coX9 oX9_write_115 rfl rfl rfl ?_
              rw [show nI (nodT U) + 2 = nI (nodT U + 2) from nI_add (nodT U) 2]
              refine b2_le (tgt := 130) C jX9_write_124 (by decide) (fun h124 => ?_) (fun h124 => ?_)
              · have h7 : nodT U + 2 ≤ 700 := (nI_leI (by omega) (by decide)).mp (show nI (nodT U + 2) ≤ nI 700 from h124)
                refine wr_ins C hAD hN ⟨(Nat.le_of_ble_eq_true rfl), (Nat.le_of_ble_eq_true rfl), (Nat.le_of_ble_eq_true rfl), (Nat.le_of_ble_eq_true rfl)⟩ hh0 hT hv hpo hfe hn7 hP hpn hne hs hfk (fun U2 Fl2 ki2 bi2 ste2 hel2 low2 hgh2 m1 m2 m3 m4 m5 m6 => ?_)
                exact rt_i C hr hlk jX9_write_298 (fun H hH => ⟨_, _, Or.inr (Or.inr ⟨U2, Fl2, ki2, bi2, ste2, hel2, low2, hgh2, hnH, ⟨m1, m2, m3, m4, m5, by omega⟩, by rw [if_neg hlf], rfl⟩), hH⟩)
              · have h7 : 700 < nodT U + 2 := Nat.not_le.mp fun q9 => h124 (show nI (nodT U + 2) ≤ nI 700 from nI_le q9 (by decide))
                refine sg0 C foX9 coX9 oX9_write_127 rfl rfl rfl ?_
                exact rt_i C hr hlk jX9_write_129 (fun H hH => ⟨_, _, Or.inr (Or.inl ⟨hnH, by rw [ins_nod hT hfk]; exact h7, rfl, rfl⟩), hH⟩)
            · exact absurd (hk.symm.trans h80) (by decide)
          · exact absurd (if_neg hlf) h55
        · exact absurd (hk.symm.trans h44) (by decide) --end
    · exact absurd h13 (nI_m2 (by omega))
end
