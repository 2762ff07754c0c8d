/-! the model: erase -/
theorem dl_po {h0 : Nat} {U U2 : Term} {Fl : List Nat} {a c : Nat} (hT : isT U) (hT2 : isT U2) (hpo : poR h0 U Fl) (h : ∀ z, (ids U2).count z + [a, c].count z = (ids U).count z) : poR h0 U2 (Fl ++ [a, c]) ∧ nodT U2 + 2 = nodT U := by
  have hp2 : poR h0 U2 (Fl ++ [a, c]) := po_perm (fun z => by
    have := h z
    rw [List.count_append]
    omega) hpo
  refine ⟨hp2, ?_⟩
  have h1 := po_len hT hpo
  have h2 := po_len hT2 hp2
  rw [List.length_append] at h2
  have h3 : [a, c].length = 2 := rfl
  omega
theorem fe_two {fe : Nat → Int32} {Fl : List Nat} {a c : Nat} (h : feR fe Fl) : feR (upd (upd fe Fl.length (nI a)) (Fl.length + 1) (nI c)) (Fl ++ [a, c]) := by
  intro j q hj
  by_cases h1 : j < Fl.length
  · rw [List.getElem?_append_left h1] at hj
    exact (if_neg (by omega)).trans ((if_neg (by omega)).trans (h j q hj))
  · rw [List.getElem?_append_right (by omega)] at hj
    by_cases h2 : j = Fl.length
    · subst h2
      rw [Nat.sub_self] at hj
      have hj : a = q := Option.some.inj hj
      subst hj
      exact (if_neg (by omega)).trans (if_pos rfl)
    · by_cases h3 : j = Fl.length + 1
      · subst h3
        rw [Nat.add_sub_cancel_left] at hj
        have hj : c = q := Option.some.inj hj
        subst hj
        exact if_pos rfl
      · rw [List.getElem?_eq_none (by show 2 ≤ j - Fl.length; omega)] at hj
        cases hj
section
variable {p : Program} {l : Launch} {e : Env} {R : Room} {s : State} {m : MethodId} {args : Array Value} {below : List Frame} {meth : Method} {c : Code} {cells slots : Nat} {QQ : State → Prop} {D : va_G} {ca : Nat → ClassId} {ad : Nat → Nat} {A : Nat → Prop} {N : Heap → Prop} {pa : Nat → Int32} {va : Nat → Int64} {sz : Nat → Int32} {fr : Nat → Int32} {tw : Nat → Int32} {ta : Nat → Int32} {wd : Nat → Int64} {wb : Nat → Int32} {wp : Nat → Int32} {ou : Nat → Int32} {o1 : Nat → Int32} {o2 : Nat → Int32} {pf : Nat → Int32} {pt : Nat → Int32} {ki : Nat → Int32} {bi : Nat → Int32} {ste : Nat → Int32} {hel : Nat → Int64} {low : Nat → Int32} {hgh : Nat → Int32} {su : Nat → Int64} {ro : Nat → Int32} {fe : Nat → Int32} {vs : Int32} {wn : Int32} {tp : Int32} {dp : Int32} {la : Int32} {rst : Int32} {hlf : Int32} {nd : Int32} {rt : Int32} {frd : Int32} {fa : Int32} {at_ : Int32} {end_ : Int32} {ab : Int32} {fo : Int64} {co : Int32} {ll : Int32} {lh : Int32} {hm : Int32}
set_option maxRecDepth 100000 in
set_option maxHeartbeats 4000000 in
theorem er_loop (C : Cx p s m args c cX9_erase 7 RX9 D ca ad A N 24) {P c0 : Nat} {x2 x4 : Int32} (hP : P < 65536) (hc0 : c0 < 1600) (U : Term) (hT : isT U) : ∀ (k : Nat) (a a0 : Int32), gdV (ki, bi, ste, hel, low, hgh) (U) → fitT (U) k → isF (U) = true → lfT (wayT (U) P) P = true → (ids (U)).Nodup → abT (U) P a0 = nI c0 → Wa p l e R s m args below meth c cells slots QQ D ca ad A 7 N ([(0, .ref 0), (1, .int (nI P)), (2, .int x2), (3, .int (nI c0)), (4, .int x4), (5, .int (upT (U) P a)), (6, .int (nI c0))], [], (mW pa va sz fr tw ta wd wb wp ou o1 o2 pf pt ki bi ste hel low hgh su ro fe vs wn tp dp la rst hlf nd rt frd fa at_ end_ ab fo co ll lh hm)) 177 → Wa p l e R s m args below meth c cells slots QQ D ca ad A 7 N ([(0, .ref 0), (1, .int (nI P)), (2, .int x2), (3, .int (nI c0)), (4, .int x4), (5, .int a), (6, .int (nI (adr (U))))], [], (mW pa va sz fr tw ta wd wb wp ou o1 o2 pf pt ki bi ste hel low hgh su ro fe vs wn tp dp la rst hlf nd rt frd fa at_ end_ ab fo co ll lh hm)) 128 := by
  refine tr_ind (P := fun U => ∀ (k : Nat) (a a0 : Int32), gdV (ki, bi, ste, hel, low, hgh) (U) → fitT (U) k → isF (U) = true → lfT (wayT (U) P) P = true → (ids (U)).Nodup → abT (U) P a0 = nI c0 → Wa p l e R s m args below meth c cells slots QQ D ca ad A 7 N ([(0, .ref 0), (1, .int (nI P)), (2, .int x2), (3, .int (nI c0)), (4, .int x4), (5, .int (upT (U) P a)), (6, .int (nI c0))], [], (mW pa va sz fr tw ta wd wb wp ou o1 o2 pf pt ki bi ste hel low hgh su ro fe vs wn tp dp la rst hlf nd rt frd fa at_ end_ ab fo co ll lh hm)) 177 → Wa p l e R s m args below meth c cells slots QQ D ca ad A 7 N ([(0, .ref 0), (1, .int (nI P)), (2, .int x2), (3, .int (nI c0)), (4, .int x4), (5, .int a), (6, .int (nI (adr (U))))], [], (mW pa va sz fr tw ta wd wb wp ou o1 o2 pf pt ki bi ste hel low hgh su ro fe vs wn tp dp la rst hlf nd rt frd fa at_ end_ ab fo co ll lh hm)) 128) ?_ ?_ ?_ ?_ U hT
  · exact fun q k a a0 _ _ h => by cases h
  · exact fun q d k a a0 _ _ h => by cases h
  · exact fun q p v k a a0 _ _ h => by cases h
  · intro q B S x y t1 t2 i1 i2 k a a0 hgd hfit _ hlw hnd hab hK
    obtain ⟨n1, n2, n3, n4, n5⟩ := nd_F hnd
    have hb : q < 1600 := hgd.2.2 q List.mem_cons_self
    obtain ⟨⟨hk1, hb1, hs1, hlo, hhi⟩, g1, g2⟩ : (ki q = 1 ∧ bi q = nI B ∧ ste q = nI S ∧ low q = nI (adr x) ∧ hgh q = nI (adr y)) ∧ vtR (ki, bi, ste, hel, low, hgh) x ∧ vtR (ki, bi, ste, hel, low, hgh) y := hgd.2.1
    obtain ⟨⟨a1, a2, a3, a4⟩, a5, a6⟩ := fitF hfit
    have hcl : (nI q).toNatClampNeg = q := nI_clamp (by omega)
    have gx := gd_kids hgd x List.mem_cons_self
    have gy := gd_kids hgd y (List.mem_cons_of_mem _ List.mem_cons_self)
    have h1 : stm P B = S := Decidable.byContradiction fun h => by
      rw [(way_no (T := tF q B S x y) (P := P) ⟨t1, t2⟩ h 0 (tE 0)).1] at hlw
      cases hlw
    show Wa p l e R s m args below meth c cells slots QQ D ca ad A 7 N ([(0, .ref 0), (1, .int (nI P)), (2, .int x2), (3, .int (nI c0)), (4, .int x4), (5, .int a), (6, .int (nI q))], [], (mW pa va sz fr tw ta wd wb wp ou o1 o2 pf pt ki bi ste hel low hgh su ro fe vs wn tp dp la rst hlf nd rt frd fa at_ end_ ab fo co ll lh hm)) 128
    have hb2 : bitA P B < 2 := by unfold bitA; omega
    by_cases h2 : bitA P B = 1
    · obtain ⟨e1, e2, -⟩ := way1 (q := q) (x := x) (y := y) h1 h2 a0 (tE 0)
      rw [e1] at hlw
      rw [e2] at hab
      by_cases h3 : isF y = true
      · obtain ⟨c', -, c1, c2, -⟩ := vt_del y t2 P n4 gy.2.2 gy.2.1 h3 hlw (nI q) 0
        have hcc : c' = c0 := (nI_eq (lt16 (gy.2.2 _ c1)) (lt16 hc0)).mp (c2.symm.trans hab)
        subst hcc
        have hne : ¬ nI q = nI c' := fun e9 => n2 (((nI_eq (lt16 hb) (lt16 hc0)).mp e9) ▸ c1)
        rw [show upT (tF q B S x y) P a = upT y P (nI q) by simp only [upT]; rw [if_pos h2, if_pos h3]] at hK
        refine sg0 C foX9 coX9 oX9_erase_128 rfl rfl rfl ?_
        refine b2_eq (tgt := 177) C jX9_erase_131 (by decide) (fun h131 => ?_) (fun h131 => ?_)
        · exact absurd h131 hne
        · refine sg C foX9 coX9 oX9_erase_134 rfl rfl rfl ⟨vp_in_nI (by omega) (by decide), trivial⟩ ?_
          rw [hcl, hb1, bit_s hP a1]
          refine b1_ne (tgt := 165) C jX9_erase_152 (by decide) (fun h152 => ?_) (fun h152 => ?_)
          · refine sg C foX9 coX9 oX9_erase_165 rfl rfl rfl ⟨vp_in_nI (by omega) (by decide), trivial⟩ ?_
            refine sg0 C foX9 coX9 oX9_erase_172 rfl rfl rfl ?_
            rw [hcl, hhi]
            exact i2 (15 - B) (nI q) (nI q) gy a6 h3 hlw n4 hab hK
          · exact absurd h152 (by rw [h2]; decide)
      · rw [(way_no t2 (nF t2 h3 P) (nI q) (tE 0)).2.1] at hab
        rw [show upT (tF q B S x y) P a = a by simp only [upT]; rw [if_pos h2, if_neg h3]] at hK
        refine sg0 C foX9 coX9 oX9_erase_128 rfl rfl rfl ?_
        refine b2_eq (tgt := 177) C jX9_erase_131 (by decide) (fun h131 => ?_) (fun h131 => ?_)
        · rw [hab]
          exact hK
        · exact absurd hab h131
    · obtain ⟨e1, e2, -⟩ := way0 (q := q) (x := x) (y := y) h1 h2 a0 (tE 0)
      rw [e1] at hlw
      rw [e2] at hab
      by_cases h3 : isF x = true
      · obtain ⟨c', -, c1, c2, -⟩ := vt_del x t1 P n3 gx.2.2 gx.2.1 h3 hlw (nI q) 0
        have hcc : c' = c0 := (nI_eq (lt16 (gx.2.2 _ c1)) (lt16 hc0)).mp (c2.symm.trans hab)
        subst hcc
        have hne : ¬ nI q = nI c' := fun e9 => n1 (((nI_eq (lt16 hb) (lt16 hc0)).mp e9) ▸ c1)
        rw [show upT (tF q B S x y) P a = upT x P (nI q) by simp only [upT]; rw [if_neg h2, if_pos h3]] at hK
        refine sg0 C foX9 coX9 oX9_erase_128 rfl rfl rfl ?_
        refine b2_eq (tgt := 177) C jX9_erase_131 (by decide) (fun h131 => ?_) (fun h131 => ?_)
        · exact absurd h131 hne
        · refine sg C foX9 coX9 oX9_erase_134 rfl rfl rfl ⟨vp_in_nI (by omega) (by decide), trivial⟩ ?_
          rw [hcl, hb1, bit_s hP a1]
          refine b1_ne (tgt := 165) C jX9_erase_152 (by decide) (fun h152 => ?_) (fun h152 => ?_)
          · exact absurd (show nI (bitA P B) = nI 0 from by rw [show bitA P B = 0 by omega]) h152
          · refine sg C foX9 coX9 oX9_erase_155 rfl rfl rfl ⟨vp_in_nI (by omega) (by decide), trivial⟩ ?_
            refine sg0 C foX9 coX9 oX9_erase_172 rfl rfl rfl ?_
            rw [hcl, hlo]
            exact i1 (15 - B) (nI q) (nI q) gx a5 h3 hlw n3 hab hK
      · rw [(way_no t1 (nF t1 h3 P) (nI q) (tE 0)).2.1] at hab
        rw [show upT (tF q B S x y) P a = a by simp only [upT]; rw [if_neg h2, if_neg h3]] at hK
        refine sg0 C foX9 coX9 oX9_erase_128 rfl rfl rfl ?_
        refine b2_eq (tgt := 177) C jX9_erase_131 (by decide) (fun h131 => ?_) (fun h131 => ?_)
        · rw [hab]
          exact hK
        · exact absurd hab h131
end
section
variable {l : Launch} {D : va_G} {ca : Nat → ClassId} {ad : Nat → Nat} {N : Heap → Prop} {pa : Nat → Int32} {va : Nat → Int64} {sz : Nat → Int32} {fr : Nat → Int32} {tw : Nat → Int32} {ta : Nat → Int32} {wd : Nat → Int64} {wb : Nat → Int32} {wp : Nat → Int32} {ou : Nat → Int32} {o1 : Nat → Int32} {o2 : Nat → Int32} {pf : Nat → Int32} {pt : Nat → Int32} {ki : Nat → Int32} {bi : Nat → Int32} {ste : Nat → Int32} {hel : Nat → Int64} {low : Nat → Int32} {hgh : Nat → Int32} {su : Nat → Int64} {ro : Nat → Int32} {fe : Nat → Int32} {vs : Int32} {wn : Int32} {tp : Int32} {dp : Int32} {la : Int32} {rst : Int32} {hlf : Int32} {nd : Int32} {rt : Int32} {frd : Int32} {fa : Int32} {at_ : Int32} {end_ : Int32} {ab : Int32} {fo : Int64} {co : Int32} {ll : Int32} {lh : Int32} {hm : Int32}
set_option maxRecDepth 100000 in
set_option maxHeartbeats 4000000 in
theorem kX9_erase (hAD : AD ad 24) (hN : NS D N) {U : Term} {Fl : List Nat} {h0 : Nat} (hh0 : h0 ≤ 800) (hT : isT U) (hv : vtR (ki, bi, ste, hel, low, hgh) U) (hfit : fitT U 16) (hpo : poR h0 U Fl) (hfe : feR fe Fl) (hn7 : nodT U ≤ 700) {P : Nat} (hP : P < 65536) : Ct l yX9_erase cX9_erase 7 (some .int) (rK 3 0 0) D ca ad (mW pa va sz fr tw ta wd wb wp ou o1 o2 pf pt ki bi ste hel low hgh su ro fe vs wn tp dp la rst hlf (nI (nodT U)) (nI (adr U)) (nI Fl.length) fa at_ end_ ab fo co ll lh hm) 24 [.ref 0, .int (nI P)] N (fun r ws2 H => ∃ e2 a2 : Int32, ((isH (wayT U P) = true ∧ r = some (.int (-4)) ∧ ws2 = (mW pa va sz fr tw ta wd wb wp ou o1 o2 pf pt ki bi ste hel low hgh su ro fe vs wn tp dp la rst hlf (nI (nodT U)) (nI (adr U)) (nI Fl.length) fa at_ e2 a2 fo co ll lh hm)) ∨ (¬ isH (wayT U P) = true ∧ ¬ lfT (wayT U P) P = true ∧ r = some (.int 0) ∧ ws2 = (mW pa va sz fr tw ta wd wb wp ou o1 o2 pf pt ki bi ste hel low hgh su ro fe vs wn tp dp la rst hlf (nI (nodT U)) (nI (adr U)) (nI Fl.length) fa at_ e2 a2 fo co ll lh hm)) ∨ (∃ (U2 : Term) (Fl2 : List Nat) (ki2 bi2 ste2 : Nat → Int32) (hel2 : Nat → Int64) (low2 hgh2 : Nat → Int32) (fe2 : Nat → Int32), ¬ isH (wayT U P) = true ∧ lfT (wayT U P) P = true ∧ (isT U2 ∧ strp U2 = delT (strp U) P ∧ vtR (ki2, bi2, ste2, hel2, low2, hgh2) U2 ∧ poR h0 U2 Fl2 ∧ feR fe2 Fl2 ∧ nodT U2 ≤ 700) ∧ r = some (.int 1) ∧ ws2 = (mW pa va sz fr tw ta wd wb wp ou o1 o2 pf pt ki2 bi2 ste2 hel2 low2 hgh2 su ro fe2 vs wn tp dp la rst hlf (nI (nodT U2)) (nI (adr U2)) (nI Fl2.length) fa at_ e2 a2 fo co ll lh hm))) ∧ N H) := by
  have hgd : gdV (ki, bi, ste, hel, low, hgh) U := ⟨hT, hv, po_bd hh0 hpo⟩
  have hb : adr U < 1600 := hgd.2.2 _ (adr_ids _ hgd.1)
  have hP1 : 0 ≤ nI P ∧ nI P ≤ 65535 := ⟨show nI 0 ≤ nI P from nI_le (by omega) (by omega), show nI P ≤ nI 65535 from nI_le (by omega) (by decide)⟩
  have hge := way_gd U P hgd
  have hbe : adr (wayT U P) < 1600 := hge.2.2 _ (adr_ids _ hge.1)
  have hcl : (nI (adr (wayT U P))).toNatClampNeg = adr (wayT U P) := nI_clamp (by omega)
  obtain ⟨j, hj, hfe9⟩ := way_ft U hgd.1 P 16 (by decide) hfit
  have hl8 := po_len hT hpo
  refine enter (lv := [(0, .ref 0), (1, .int (nI P))]) (by decide +kernel) (Nat.le_of_ble_eq_true rfl) rfl hAD (fun U hK => ns_write hK hN) ?_
  intro p e s m below meth c A args hA C hr hlk hnm
  refine sg0 C foX9 coX9 oX9_erase_0 rfl rfl rfl ?_
  refine cl_s C (kX9_isPath hAD rfl hN (nI P)) cd_X9_isPath in_X9 ml_X9_101 sm_X9_isPath hd_X9_isPath rfl rfl ⟨(Nat.le_of_ble_eq_true rfl), (Nat.le_of_ble_eq_true rfl)⟩ ⟨(Nat.le_of_ble_eq_true rfl), (Nat.le_of_ble_eq_true rfl)⟩ (Nat.le_of_ble_eq_true rfl) jX9_erase_1 (fun v ws' => Wa.and (fun hv => ?_))
  obtain ⟨rfl, rfl⟩ := hv
  refine b1_eq (tgt := 16) C jX9_erase_4 (by decide) (fun h4 => ?_) (fun h4 => ?_)
  · exact absurd h4 (by rw [if_pos hP1]; decide)
  · refine sg0 C foX9 coX9 oX9_erase_7 rfl rfl rfl ?_
    refine b2_ne (tgt := 30) C jX9_erase_13 (by decide) (fun h13 => ?_) (fun h13 => ?_)
    · refine sg0 C foX9 coX9 oX9_erase_30 rfl rfl rfl ?_
      refine cl_v C (kX9_way hAD hN hgd hfit hP) (rcv (ci := 8) C.2.1 rfl rfl) cd_X9_way in_X9 ml_X9_206 im_X9_way se_X9_way hd_X9_way rfl rfl ⟨(Nat.le_of_ble_eq_true rfl), (Nat.le_of_ble_eq_true rfl)⟩ ⟨(Nat.le_of_ble_eq_true rfl), (Nat.le_of_ble_eq_true rfl)⟩ (Nat.le_of_ble_eq_true rfl) jX9_erase_32 (fun v ws' => Wa.and (fun hv => ?_))
      obtain ⟨rfl, rfl⟩ := hv
      refine sg C foX9 coX9 oX9_erase_35 rfl rfl rfl ⟨vp_in_nI (by omega) (by decide), trivial⟩ ?_
      rw [hcl]
      refine b1_ne (tgt := 50) C jX9_erase_44 (by decide) (fun h44 => ?_) (fun h44 => ?_)
      · have hnH : ¬ isH (wayT U P) = true := fun e9 => h44 ((vt_k0 hge).mpr e9)
        refine sg0 C foX9 coX9 oX9_erase_50 rfl rfl rfl ?_
        refine cl_v C (kX9_isThere hAD hN hge hfe9 hP) (rcv (ci := 8) C.2.1 rfl rfl) cd_X9_isThere in_X9 ml_X9_210 im_X9_isThere se_X9_isThere hd_X9_isThere rfl rfl ⟨(Nat.le_of_ble_eq_true rfl), (Nat.le_of_ble_eq_true rfl)⟩ ⟨(Nat.le_of_ble_eq_true rfl), (Nat.le_of_ble_eq_true rfl)⟩ (Nat.le_of_ble_eq_true rfl) jX9_erase_52 (fun v ws' => Wa.and (fun hv => ?_))
        obtain ⟨rfl, rfl⟩ := hv
        refine b1_ne (tgt := 60) C jX9_erase_55 (by decide) (fun h55 => ?_) (fun h55 => ?_)
        · have hlw : lfT (wayT U P) P = true := Decidable.byContradiction fun e9 => h55 (if_neg e9)
          refine sg0 C foX9 coX9 oX9_erase_60 rfl rfl rfl ?_
          by_cases hF : isF U = true
          rotate_left
          · obtain ⟨w1, w2, -⟩ := way_no hT (nF hT hF P) (-2) (tE 0)
            rw [w2]
            rw [w1] at hlw hcl hnH
            rw [w1]
            have hcU := hcl
            have hid := ids_nF hT hF
            have hn2 : nodT (tE (adr U)) = nodT U := by rw [← ids_len U hT, hid]; rfl
            have hp2 : poR h0 (tE (adr U)) Fl := po_perm (fun z => by rw [hid]; rfl) hpo
            have hst : strp (tE (adr U)) = delT (strp U) P := by
              rcases shp U hT with ⟨q0, hE⟩ | ⟨q0, d0, hE⟩ | ⟨q0, p0, v0, hE⟩ | ⟨q0, B0, S0, x0, y0, hE⟩
              · rw [hE]; rfl
              · rw [hE]; rfl
              · rw [hE]; rfl
              · rw [hE] at hF; exact absurd rfl hF
            refine b2_ne (tgt := 81) C jX9_erase_66 (by decide) (fun h66 => ?_) (fun h66 => ?_)
            · exact absurd rfl h66
            · refine sg C foX9 coX9 oX9_erase_69 rfl rfl rfl ⟨vp_in_nI (by omega) (by decide), trivial⟩ ?_
              rw [hcU]
              exact rt_i C hr hlk jX9_erase_80 (fun H hH2 => ⟨_, _, Or.inr (Or.inr ⟨tE (adr U), Fl, upd ki (adr U) 3, bi, ste, hel, low, hgh, fe, hnH, hlw, ⟨trivial, hst, if_pos rfl, hp2, hfe, by rw [hn2]; omega⟩, rfl, by rw [hn2]; rfl⟩), hH2⟩)
          · have hnd : (ids U).Nodup := (List.nodup_append.mp hpo.1).1
            have hbd := po_bd hh0 hpo
            obtain ⟨c0, o, c1, c2, ⟨c3, c4, c5⟩, c6, c7⟩ := vt_del U hT P hnd hbd hv hF hlw (-2) (-2)
            have hb0 := hbd c0 c1
            have hTD := dl_T U hT P
            obtain ⟨hp2, hn2⟩ := dl_po hT hTD hpo c5
            have hnp := nod_pos (dlM U P)
            have hcc : (nI c0).toNatClampNeg = c0 := nI_clamp (by omega)
            rw [c2]
            refine b2_ne (tgt := 81) C jX9_erase_66 (by decide) (fun h66 => ?_) (fun h66 => ?_)
            · refine sg C foX9 coX9 oX9_erase_81 rfl rfl rfl ⟨vp_in_nI (by omega) (by decide), trivial⟩ ?_
              rw [hcc]
              suffices hkk : Wa p l e (rK 3 0 0) s m args below meth c (0 + (rK 0 0 0).cells + (rK 2 0 0).cells + (rK 0 0 0).cells) (0 + (rK 0 0 0).slots + (rK 2 0 0).slots + (rK 0 0 0).slots) _ D ca ad A 7 N ([(0, .ref 0), (1, .int (nI P)), (2, .int (nI (adr (wayT U P)))), (3, .int (nI c0))], [.int (nI (adr o))], (mW pa va sz fr tw ta wd wb wp ou o1 o2 pf pt ki bi ste hel low hgh su ro fe vs wn tp dp la rst hlf (nI (nodT U)) (nI (adr U)) (nI Fl.length) fa at_ (nI (adr (wayT U P))) (nI c0) fo co ll lh hm)) 116 by
                rcases c6 with ⟨f1, f2⟩ | ⟨f1, f2⟩
                · refine b2_ne (tgt := 110) C jX9_erase_98 (by decide) (fun h98 => ?_) (fun h98 => ?_)
                  · exact absurd f1 h98
                  · refine sg C foX9 coX9 oX9_erase_101 rfl rfl rfl ⟨vp_in_nI (by omega) (by decide), trivial⟩ ?_
                    rw [hcc, f2]
                    exact hkk
                · refine b2_ne (tgt := 110) C jX9_erase_98 (by decide) (fun h98 => ?_) (fun h98 => ?_)
                  · refine sg C foX9 coX9 oX9_erase_110 rfl rfl rfl ⟨vp_in_nI (by omega) (by decide), trivial⟩ ?_
                    rw [hcc, f2]
                    exact hkk
                  · exact absurd h98 f1
              refine sg0 C foX9 coX9 oX9_erase_116 rfl rfl rfl ?_
              refine er_loop C hP (hbd c0 c1) U hT 16 (-2) (-2) hgd hfit hF hlw hnd c2 ?_
              rcases c7 with ⟨g1, g2, hup, g4⟩ | ⟨g1, u, g2, g3, hup, ⟨k1, k2⟩ | ⟨k1, k2⟩⟩
              · refine sg0 C foX9 coX9 oX9_erase_177 rfl rfl rfl ?_
                rw [hup]
                refine cl_v C (kX9_stand0 hAD hN) (rcv (ci := 8) C.2.1 rfl rfl) cd_X9_stand in_X9 ml_X9_216 im_X9_stand se_X9_stand hd_X9_stand rfl rfl ⟨(Nat.le_of_ble_eq_true rfl), (Nat.le_of_ble_eq_true rfl)⟩ ⟨(Nat.le_of_ble_eq_true rfl), (Nat.le_of_ble_eq_true rfl)⟩ (Nat.le_of_ble_eq_true rfl) jX9_erase_183 (fun v ws' => Wa.and (fun hv => ?_))
                obtain ⟨rfl, rfl⟩ := hv
                refine sg C foX9 coX9 oX9_erase_186 rfl rfl rfl (by rw [nI_1]; exact ⟨vp_in_nI (by omega) (by decide), vp_in_nI (by omega) (by decide), trivial⟩) ?_
                rw [nI_1, nI_clamp (show Fl.length < 2 ^ 31 by omega), nI_clamp (show Fl.length + 1 < 2 ^ 31 by omega), show nI Fl.length + 2 = nI (Fl.length + 2) from nI_add Fl.length 2, show nI (nodT U) - 2 = nI (nodT U - 2) from (show nI (nodT U) - nI 2 = _ from pk_sub (by omega)), show nodT U - 2 = nodT (dlM U P) by omega]
                exact rt_i C hr hlk jX9_erase_229 (fun H hH2 => ⟨_, _, Or.inr (Or.inr ⟨dlM U P, Fl ++ [adr (wayT U P), c0], _, _, _, _, _, _, _, hnH, hlw, ⟨hTD, dl_strp U hT P, (by rw [g2]; exact g4), hp2, fe_two hfe, by omega⟩, rfl, by rw [g2, ← hn2, List.length_append]; rfl⟩), hH2⟩)
              · refine sg0 C foX9 coX9 oX9_erase_177 rfl rfl rfl ?_
                rw [hup]
                refine cl_v C (kX9_stand1 hAD hN (hbd u g2) k1) (rcv (ci := 8) C.2.1 rfl rfl) cd_X9_stand in_X9 ml_X9_216 im_X9_stand se_X9_stand hd_X9_stand rfl rfl ⟨(Nat.le_of_ble_eq_true rfl), (Nat.le_of_ble_eq_true rfl)⟩ ⟨(Nat.le_of_ble_eq_true rfl), (Nat.le_of_ble_eq_true rfl)⟩ (Nat.le_of_ble_eq_true rfl) jX9_erase_183 (fun v ws' => Wa.and (fun hv => ?_))
                obtain ⟨rfl, rfl⟩ := hv
                refine sg C foX9 coX9 oX9_erase_186 rfl rfl rfl (by rw [nI_1]; exact ⟨vp_in_nI (by omega) (by decide), vp_in_nI (by omega) (by decide), trivial⟩) ?_
                rw [nI_1, nI_clamp (show Fl.length < 2 ^ 31 by omega), nI_clamp (show Fl.length + 1 < 2 ^ 31 by omega), show nI Fl.length + 2 = nI (Fl.length + 2) from nI_add Fl.length 2, show nI (nodT U) - 2 = nI (nodT U - 2) from (show nI (nodT U) - nI 2 = _ from pk_sub (by omega)), show nodT U - 2 = nodT (dlM U P) by omega]
                exact rt_i C hr hlk jX9_erase_229 (fun H hH2 => ⟨_, _, Or.inr (Or.inr ⟨dlM U P, Fl ++ [adr (wayT U P), c0], _, _, _, _, _, _, _, hnH, hlw, ⟨hTD, dl_strp U hT P, k2, hp2, fe_two hfe, by omega⟩, rfl, by rw [g1, ← hn2, List.length_append]; rfl⟩), hH2⟩)
              · refine sg0 C foX9 coX9 oX9_erase_177 rfl rfl rfl ?_
                rw [hup]
                refine cl_v C (kX9_stand2 hAD hN (hbd u g2) k1) (rcv (ci := 8) C.2.1 rfl rfl) cd_X9_stand in_X9 ml_X9_216 im_X9_stand se_X9_stand hd_X9_stand rfl rfl ⟨(Nat.le_of_ble_eq_true rfl), (Nat.le_of_ble_eq_true rfl)⟩ ⟨(Nat.le_of_ble_eq_true rfl), (Nat.le_of_ble_eq_true rfl)⟩ (Nat.le_of_ble_eq_true rfl) jX9_erase_183 (fun v ws' => Wa.and (fun hv => ?_))
                obtain ⟨rfl, rfl⟩ := hv
                refine sg C foX9 coX9 oX9_erase_186 rfl rfl rfl (by rw [nI_1]; exact ⟨vp_in_nI (by omega) (by decide), vp_in_nI (by omega) (by decide), trivial⟩) ?_
                rw [nI_1, nI_clamp (show Fl.length < 2 ^ 31 by omega), nI_clamp (show Fl.length + 1 < 2 ^ 31 by omega), show nI Fl.length + 2 = nI (Fl.length + 2) from nI_add Fl.length 2, show nI (nodT U) - 2 = nI (nodT U - 2) from (show nI (nodT U) - nI 2 = _ from pk_sub (by omega)), show nodT U - 2 = nodT (dlM U P) by omega]
                exact rt_i C hr hlk jX9_erase_229 (fun H hH2 => ⟨_, _, Or.inr (Or.inr ⟨dlM U P, Fl ++ [adr (wayT U P), c0], _, _, _, _, _, _, _, hnH, hlw, ⟨hTD, dl_strp U hT P, k2, hp2, fe_two hfe, by omega⟩, rfl, by rw [g1, ← hn2, List.length_append]; rfl⟩), hH2⟩)
            · exact absurd h66 (nI_m2 (by omega)) --end
        · have hlw : ¬ lfT (wayT U P) P = true := fun e9 => by rw [if_pos e9] at h55; exact absurd h55 (by decide)
          refine sg0 C foX9 coX9 oX9_erase_58 rfl rfl rfl ?_
          exact rt_i C hr hlk jX9_erase_59 (fun H hH2 => ⟨_, _, Or.inr (Or.inl ⟨hnH, hlw, rfl, rfl⟩), hH2⟩)
      · have hH : isH (wayT U P) = true := (vt_k0 hge).mp h44
        refine sg0 C foX9 coX9 oX9_erase_47 rfl rfl rfl ?_
        exact rt_i C hr hlk jX9_erase_49 (fun H hH2 => ⟨_, _, Or.inl ⟨hH, rfl, rfl⟩, hH2⟩)
    · exact absurd h13 (nI_m2 (by omega))
end
