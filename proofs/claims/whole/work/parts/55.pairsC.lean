/-! the pairs of methods: the view -/
theorem isH_st (T : Term) (hT : isT T) : isH (strp T) = isH T := by
  rcases shp T hT with ⟨q, rfl⟩ | ⟨q, d, rfl⟩ | ⟨q, p, v, rfl⟩ | ⟨q, B, S, x, y, rfl⟩ <;> rfl
theorem lvT_st (T : Term) (hT : isT T) (P : Nat) : lvT (strp T) P = lvT T P := by
  rcases shp T hT with ⟨q, rfl⟩ | ⟨q, d, rfl⟩ | ⟨q, p, v, rfl⟩ | ⟨q, B, S, x, y, rfl⟩ <;> rfl
theorem st_way {U V : Term} (hU : isT U) (hV : isT V) (h : strp U = strp V) (P : Nat) : isH (wayT U P) = isH (wayT V P) ∧ lfT (wayT U P) P = lfT (wayT V P) P ∧ lvT (wayT U P) P = lvT (wayT V P) P := by
  have e : strp (wayT U P) = strp (wayT V P) := by rw [strp_way U hU, strp_way V hV, h]
  have t1 := way_T U hU P
  have t2 := way_T V hV P
  exact ⟨by rw [← isH_st _ t1, e, isH_st _ t2], by rw [← lf_strp _ t1, e, lf_strp _ t2], by rw [← lvT_st _ t1, e, lvT_st _ t2]⟩
theorem vw_cg {W W2 : VA} {fe : Nat → Int32} {nd frd : Int32} {uo : Option Term} {h0 : Nat} (hh : h0 = 0 ∨ h0 = 800) (hT : ∀ U, uo = some U → isT U) (h : ∀ U, uo = some U → vtR W U ∧ nd = nI (nodT U) ∧ ∃ Fl, poR h0 U Fl ∧ feR fe Fl ∧ frd = nI Fl.length) (hag : agV (fun q => h0 ≤ q ∧ q < h0 + 800) W W2) : vwR W2 fe (nI h0) nd frd uo := ⟨h0, hh, rfl, fun U hU => by
  obtain ⟨h1, h2, Fl, h3, h4, h5⟩ := h U hU
  exact ⟨vt_cg U (hT U hU) (hag.mono (fun q hq => h3.2.1 q (List.mem_append_left _ hq))) h1, h2, Fl, h3, h4, h5⟩⟩
section
variable {l : Launch} {D : va_G} {ca : Nat → ClassId}
set_option maxRecDepth 100000 in
set_option maxHeartbeats 4000000 in
theorem pr_pass  : Pr l D ca yX8_pass cX8_pass 1 (some .int) yX9_pass cX9_pass 6 (some .int) [] isI := by
  intro adx adm T Vs Rg S vo uo fp fd wx wm hA1 hA2 hok hvu hx hm
  obtain ⟨⟨hT, hokT, hlT⟩, hVs, hS4, hoc⟩ := id hok
  obtain ⟨kf, ra, rb, to, so, sl, rfl, hkf, hrg, htp⟩ := hx
  obtain ⟨pa, va, sz, fr, tw, ta, wd, wb, wp, ou, o1, o2, pf, pt, ki, bi, ste, hel, low, hgh, su, ro, fe, dp, la, rst, hlf, nd, frd, at_, end_, ab, co, ll, lh, hm, rfl, ⟨hls, hsz⟩, hver, hrg9, htp9, hvw⟩ := hm
  have hN := Nn.ns (D := D) (T := T) (Vs := Vs) (vo := vo)
  have hvo : ∀ V, vo = some V → fitT V 16 ∧ ∀ H, Nn D T Vs vo H → nodeAt D H V := fun V hV => ⟨by
    rcases hvu with ⟨e1, e2⟩ | ⟨V2, U2, e1, e2, t1, t2, t3, t4, t5⟩
    · rw [e1] at hV; cases hV
    · have e3 : V2 = V := Option.some.inj (e1.symm.trans hV)
      rw [← e3]; exact okW_fit t1 t3, fun H h => h.2.2 V hV⟩
  rcases id hvu with ⟨rfl, rfl⟩ | ⟨V, U, rfl, rfl, t1, t2, t3, t4, t5⟩
  · refine ⟨19, 0, 0, 0, _, _, ⟨by decide, by decide, by decide, by decide⟩, kX8_pass hA1 hN hvo hrg, fun H1 => kX9_pass_none hA2 Snap.ns, ?_⟩
    intro v8 wx' H1 v9 wm' H2 hG8 hG9
    obtain ⟨h8a, h8⟩ := hG8
    obtain ⟨⟨rfl, rfl⟩, h9⟩ := hG9
    rcases h8a with ⟨-, rfl, rfl⟩ | ⟨V', e0, -⟩
    · exact ⟨⟨_, rfl, rfl, _, rfl⟩, ⟨T, Vs, Rg, S, none, none, fp, fd, hok, hvu, Or.inl ⟨kf, ra, rb, to, so, sl, rfl, hkf, hrg, htp⟩, ⟨_, _, _, _, _, _, _, _, _, _, _, _, _, _, _, _, _, _, _, _, _, _, _, _, _, _, _, _, _, _, _, _, _, _, _, _, rfl, ⟨hls, hsz⟩, hver, hrg9, htp9, hvw⟩, h8⟩, h9⟩
    · cases e0
  · obtain ⟨h0, hh0, rfl, hvw2⟩ := id hvw
    obtain ⟨w1, rfl, Fl, w2, w3, rfl⟩ := hvw2 U rfl
    have hh8 : h0 ≤ 800 := by omega
    have hgd : gdV (ki, bi, ste, hel, low, hgh) U := ⟨t2, w1, po_bd hh8 w2⟩
    have hoU : okW U := okW_eq t2 t1 t4 t3
    have hfU : fitT U 16 := okW_fit t2 hoU
    have hn8 : nodT U ≤ 800 := by omega
    have hsh : shwT Rg U 0 65535 = shwT Rg V 0 65535 := by rw [← strp_shw Rg U t2, t4, strp_shw Rg V t1]
    refine ⟨19, 0, 0, 4, _, _, ⟨by decide, by decide, by decide, by decide⟩, kX8_pass hA1 hN hvo hrg, fun H1 => kX9_pass hA2 Snap.ns hgd hfU hn8 hrg9, ?_⟩
    intro v8 wx' H1 v9 wm' H2 hG8 hG9
    obtain ⟨h8a, h8⟩ := hG8
    obtain ⟨p1, p2, p3, p4, ou2, su2, ro2, ls2, rs2, h9a, h9⟩ := hG9
    rcases h8a with ⟨e0, -⟩ | ⟨V', e0, so2, ht8, ⟨e1, rfl, rfl⟩ | ⟨e1, rfl, rfl⟩⟩
    · cases e0
    · cases e0
      rcases h9a with ⟨e2, rfl, rfl⟩ | ⟨ta2, e2, rfl, rfl, k4⟩
      · exact ⟨⟨_, rfl, rfl, _, rfl⟩, ⟨T, Vs, Rg, S, (some V), (some U), fp, fd, hok, hvu, Or.inl ⟨kf, ra, rb, to, so2, _, rfl, hkf, hrg, htp⟩, ⟨_, _, _, _, _, _, _, _, _, _, _, _, _, _, _, _, _, _, _, _, _, _, _, _, _, _, _, _, _, _, _, _, _, _, _, _, rfl, ⟨hls, hsz⟩, hver, hrg9, htp9, hvw⟩, h8⟩, h9⟩
      · rw [hsh] at e2
        omega
    · cases e0
      rcases h9a with ⟨e2, rfl, rfl⟩ | ⟨ta2, e2, rfl, rfl, k4⟩
      · rw [hsh] at e2
        omega
      · exact ⟨⟨_, rfl, by rw [hsh], _, rfl⟩, ⟨T, Vs, Rg, (shwT Rg V 0 65535), (some V), (some U), fp, fd, ⟨⟨hT, hokT, hlT⟩, hVs, e1, shw_oc Rg V t1 0 65535⟩, hvu, Or.inr ⟨kf, ra, rb, _, so2, _, rfl, hkf, hrg, ht8⟩, ⟨_, _, _, _, _, _, _, _, _, _, _, _, _, _, _, _, _, _, _, _, _, _, _, _, _, _, _, _, _, _, _, _, _, _, _, _, by rw [hsh]; rfl, ⟨hls, hsz⟩, hver, hrg9, (by rw [hsh] at k4; exact k4), hvw⟩, h8⟩, h9⟩

set_option maxRecDepth 100000 in
set_option maxHeartbeats 4000000 in
theorem pr_view  : Pr l D ca yX8_view cX8_view 1 (some .long) yX9_view cX9_view 1 (some .long) [] isJ := by
  intro adx adm T Vs Rg S vo uo fp fd wx wm hA1 hA2 hok hvu hx hm
  obtain ⟨⟨hT, hokT, hlT⟩, hVs, hS4, hoc⟩ := id hok
  obtain ⟨kf, ra, rb, to, so, sl, rfl, hkf, hrg, htp⟩ := hx
  obtain ⟨pa, va, sz, fr, tw, ta, wd, wb, wp, ou, o1, o2, pf, pt, ki, bi, ste, hel, low, hgh, su, ro, fe, dp, la, rst, hlf, nd, frd, at_, end_, ab, co, ll, lh, hm, rfl, ⟨hls, hsz⟩, hver, hrg9, htp9, hvw⟩ := hm
  have hN := Nn.ns (D := D) (T := T) (Vs := Vs) (vo := vo)
  have hvo : ∀ V, vo = some V → fitT V 16 ∧ ∀ H, Nn D T Vs vo H → nodeAt D H V := fun V hV => ⟨by
    rcases hvu with ⟨e1, e2⟩ | ⟨V2, U2, e1, e2, t1, t2, t3, t4, t5⟩
    · rw [e1] at hV; cases hV
    · have e3 : V2 = V := Option.some.inj (e1.symm.trans hV)
      rw [← e3]; exact okW_fit t1 t3, fun H h => h.2.2 V hV⟩
  rcases id hvu with ⟨rfl, rfl⟩ | ⟨V, U, rfl, rfl, t1, t2, t3, t4, t5⟩
  · refine ⟨0, 0, 0, 0, _, _, ⟨by decide, by decide, by decide, by decide⟩, kX8_view hA1 hN hvo, fun H1 => kX9_view_none hA2 Snap.ns, ?_⟩
    intro v8 wx' H1 v9 wm' H2 hG8 hG9
    obtain ⟨⟨rfl, rfl⟩, h8⟩ := hG8
    obtain ⟨⟨rfl, rfl⟩, h9⟩ := hG9
    exact ⟨⟨_, rfl, rfl, _, rfl⟩, ⟨T, Vs, Rg, S, none, none, fp, fd, hok, hvu, Or.inl ⟨kf, ra, rb, to, so, sl, rfl, hkf, hrg, htp⟩, ⟨_, _, _, _, _, _, _, _, _, _, _, _, _, _, _, _, _, _, _, _, _, _, _, _, _, _, _, _, _, _, _, _, _, _, _, _, rfl, ⟨hls, hsz⟩, hver, hrg9, htp9, hvw⟩, h8⟩, h9⟩
  · obtain ⟨h0, hh0, rfl, hvw2⟩ := id hvw
    obtain ⟨w1, rfl, Fl, w2, w3, rfl⟩ := hvw2 U rfl
    have hh8 : h0 ≤ 800 := by omega
    have hgd : gdV (ki, bi, ste, hel, low, hgh) U := ⟨t2, w1, po_bd hh8 w2⟩
    have hoU : okW U := okW_eq t2 t1 t4 t3
    have hfU : fitT U 16 := okW_fit t2 hoU
    have hn8 : nodT U ≤ 800 := by omega
    refine ⟨0, 0, 0, 4, _, _, ⟨by decide, by decide, by decide, by decide⟩, kX8_view hA1 hN hvo, fun H1 => kX9_view hA2 Snap.ns hgd hn8, ?_⟩
    intro v8 wx' H1 v9 wm' H2 hG8 hG9
    obtain ⟨⟨rfl, rfl⟩, h8⟩ := hG8
    obtain ⟨su2, ro2, ⟨rfl, rfl⟩, h9⟩ := hG9
    exact ⟨⟨_, rfl, by rw [← strp_dig U t2, t4, strp_dig V t1], _, rfl⟩, ⟨T, Vs, Rg, S, (some V), (some U), fp, fd, hok, hvu, Or.inl ⟨kf, ra, rb, to, so, sl, rfl, hkf, hrg, htp⟩, ⟨_, _, _, _, _, _, _, _, _, _, _, _, _, _, _, _, _, _, _, _, _, _, _, _, _, _, _, _, _, _, _, _, _, _, _, _, rfl, ⟨hls, hsz⟩, hver, hrg9, htp9, hvw⟩, h8⟩, h9⟩

set_option maxRecDepth 100000 in
set_option maxHeartbeats 4000000 in
theorem pr_next (x : Int32) : Pr l D ca yX8_next cX8_next 2 (some .int) yX9_next cX9_next 2 (some .int) [.int x] isI := by
  intro adx adm T Vs Rg S vo uo fp fd wx wm hA1 hA2 hok hvu hx hm
  obtain ⟨⟨hT, hokT, hlT⟩, hVs, hS4, hoc⟩ := id hok
  obtain ⟨kf, ra, rb, to, so, sl, rfl, hkf, hrg, htp⟩ := hx
  obtain ⟨pa, va, sz, fr, tw, ta, wd, wb, wp, ou, o1, o2, pf, pt, ki, bi, ste, hel, low, hgh, su, ro, fe, dp, la, rst, hlf, nd, frd, at_, end_, ab, co, ll, lh, hm, rfl, ⟨hls, hsz⟩, hver, hrg9, htp9, hvw⟩ := hm
  have hN := Nn.ns (D := D) (T := T) (Vs := Vs) (vo := vo)
  by_cases hx : 0 ≤ x ∧ x ≤ 65535
  rotate_left
  · refine ⟨1, 0, 0, 1, _, _, ⟨by decide, by decide, by decide, by decide⟩, kX8_next_bad hA1 hN x hx, fun H1 => kX9_next_bad hA2 Snap.ns hx, ?_⟩
    intro v8 wx' H1 v9 wm' H2 hG8 hG9
    obtain ⟨⟨rfl, rfl⟩, h8⟩ := hG8
    obtain ⟨⟨rfl, rfl⟩, h9⟩ := hG9
    exact ⟨⟨_, rfl, rfl, _, rfl⟩, ⟨T, Vs, Rg, S, vo, uo, fp, fd, hok, hvu, Or.inl ⟨kf, ra, rb, to, so, sl, rfl, hkf, hrg, htp⟩, ⟨_, _, _, _, _, _, _, _, _, _, _, _, _, _, _, _, _, _, _, _, _, _, _, _, _, _, _, _, _, _, _, _, _, _, _, _, rfl, ⟨hls, hsz⟩, hver, hrg9, htp9, hvw⟩, h8⟩, h9⟩
  · obtain ⟨P, hP, rfl⟩ := isP hx
    have hvo : ∀ V, vo = some V → fitT V 16 ∧ ∀ H, Nn D T Vs vo H → nodeAt D H V := fun V hV => ⟨by
      rcases hvu with ⟨e1, e2⟩ | ⟨V2, U2, e1, e2, t1, t2, t3, t4, t5⟩
      · rw [e1] at hV; cases hV
      · have e3 : V2 = V := Option.some.inj (e1.symm.trans hV)
        rw [← e3]; exact okW_fit t1 t3, fun H h => h.2.2 V hV⟩
    rcases id hvu with ⟨rfl, rfl⟩ | ⟨V, U, rfl, rfl, t1, t2, t3, t4, t5⟩
    · refine ⟨18, 0, 0, 1, _, _, ⟨by decide, by decide, by decide, by decide⟩, kX8_next hA1 hN hvo hP, fun H1 => kX9_next_none hA2 Snap.ns hP, ?_⟩
      intro v8 wx' H1 v9 wm' H2 hG8 hG9
      obtain ⟨⟨rfl, rfl⟩, h8⟩ := hG8
      obtain ⟨⟨rfl, rfl⟩, h9⟩ := hG9
      exact ⟨⟨_, rfl, rfl, _, rfl⟩, ⟨T, Vs, Rg, S, none, none, fp, fd, hok, hvu, Or.inl ⟨kf, ra, rb, to, so, sl, rfl, hkf, hrg, htp⟩, ⟨_, _, _, _, _, _, _, _, _, _, _, _, _, _, _, _, _, _, _, _, _, _, _, _, _, _, _, _, _, _, _, _, _, _, _, _, rfl, ⟨hls, hsz⟩, hver, hrg9, htp9, hvw⟩, h8⟩, h9⟩
    · obtain ⟨h0, hh0, rfl, hvw2⟩ := id hvw
      obtain ⟨w1, rfl, Fl, w2, w3, rfl⟩ := hvw2 U rfl
      have hh8 : h0 ≤ 800 := by omega
      have hgd : gdV (ki, bi, ste, hel, low, hgh) U := ⟨t2, w1, po_bd hh8 w2⟩
      have hoU : okW U := okW_eq t2 t1 t4 t3
      have hfU : fitT U 16 := okW_fit t2 hoU
      have hn8 : nodT U ≤ 800 := by omega
      refine ⟨18, 0, 0, 3, _, _, ⟨by decide, by decide, by decide, by decide⟩, kX8_next hA1 hN hvo hP, fun H1 => kX9_next hA2 Snap.ns hgd hfU hn8 hoU hP, ?_⟩
      intro v8 wx' H1 v9 wm' H2 hG8 hG9
      obtain ⟨⟨rfl, rfl⟩, h8⟩ := hG8
      obtain ⟨p1, p2, p3, p4, ⟨rfl, rfl⟩, h9⟩ := hG9
      exact ⟨⟨_, rfl, by rw [← strp_lst U t2, t4, strp_lst V t1], _, rfl⟩, ⟨T, Vs, Rg, S, (some V), (some U), fp, fd, hok, hvu, Or.inl ⟨kf, ra, rb, to, so, sl, rfl, hkf, hrg, htp⟩, ⟨_, _, _, _, _, _, _, _, _, _, _, _, _, _, _, _, _, _, _, _, _, _, _, _, _, _, _, _, _, _, _, _, _, _, _, _, rfl, ⟨hls, hsz⟩, hver, hrg9, htp9, hvw⟩, h8⟩, h9⟩

set_option maxRecDepth 100000 in
set_option maxHeartbeats 4000000 in
theorem pr_get (x : Int32) : Pr l D ca yX8_get cX8_get 4 (some .int) yX9_get cX9_get 2 (some .int) [.int x] isI := by
  intro adx adm T Vs Rg S vo uo fp fd wx wm hA1 hA2 hok hvu hx hm
  obtain ⟨⟨hT, hokT, hlT⟩, hVs, hS4, hoc⟩ := id hok
  obtain ⟨kf, ra, rb, to, so, sl, rfl, hkf, hrg, htp⟩ := hx
  obtain ⟨pa, va, sz, fr, tw, ta, wd, wb, wp, ou, o1, o2, pf, pt, ki, bi, ste, hel, low, hgh, su, ro, fe, dp, la, rst, hlf, nd, frd, at_, end_, ab, co, ll, lh, hm, rfl, ⟨hls, hsz⟩, hver, hrg9, htp9, hvw⟩ := hm
  have hN := Nn.ns (D := D) (T := T) (Vs := Vs) (vo := vo)
  by_cases hx : 0 ≤ x ∧ x ≤ 65535
  rotate_left
  · refine ⟨1, 0, 0, 1, _, _, ⟨by decide, by decide, by decide, by decide⟩, kX8_get_bad hA1 hN x hx, fun H1 => kX9_get_bad hA2 Snap.ns hx, ?_⟩
    intro v8 wx' H1 v9 wm' H2 hG8 hG9
    obtain ⟨⟨rfl, rfl⟩, h8⟩ := hG8
    obtain ⟨⟨rfl, rfl⟩, h9⟩ := hG9
    exact ⟨⟨_, rfl, rfl, _, rfl⟩, ⟨T, Vs, Rg, S, vo, uo, fp, 0, hok, hvu, Or.inl ⟨kf, ra, rb, to, so, sl, rfl, hkf, hrg, htp⟩, ⟨_, _, _, _, _, _, _, _, _, _, _, _, _, _, _, _, _, _, _, _, _, _, _, _, _, _, _, _, _, _, _, _, _, _, _, _, rfl, ⟨hls, hsz⟩, hver, hrg9, htp9, hvw⟩, h8⟩, h9⟩
  · obtain ⟨P, hP, rfl⟩ := isP hx
    have hvo : ∀ V, vo = some V → fitT V 16 ∧ ∀ H, Nn D T Vs vo H → nodeAt D H V := fun V hV => ⟨by
      rcases hvu with ⟨e1, e2⟩ | ⟨V2, U2, e1, e2, t1, t2, t3, t4, t5⟩
      · rw [e1] at hV; cases hV
      · have e3 : V2 = V := Option.some.inj (e1.symm.trans hV)
        rw [← e3]; exact okW_fit t1 t3, fun H h => h.2.2 V hV⟩
    rcases id hvu with ⟨rfl, rfl⟩ | ⟨V, U, rfl, rfl, t1, t2, t3, t4, t5⟩
    · refine ⟨3, 0, 0, 1, _, _, ⟨by decide, by decide, by decide, by decide⟩, kX8_get hA1 hN hvo hP, fun H1 => kX9_get_none hA2 Snap.ns hP, ?_⟩
      intro v8 wx' H1 v9 wm' H2 hG8 hG9
      obtain ⟨⟨rfl, rfl⟩, h8⟩ := hG8
      obtain ⟨⟨rfl, rfl⟩, h9⟩ := hG9
      exact ⟨⟨_, rfl, rfl, _, rfl⟩, ⟨T, Vs, Rg, S, none, none, fp, 0, hok, hvu, Or.inl ⟨kf, ra, rb, to, so, sl, rfl, hkf, hrg, htp⟩, ⟨_, _, _, _, _, _, _, _, _, _, _, _, _, _, _, _, _, _, _, _, _, _, _, _, _, _, _, _, _, _, _, _, _, _, _, _, rfl, ⟨hls, hsz⟩, hver, hrg9, htp9, hvw⟩, h8⟩, h9⟩
    · obtain ⟨h0, hh0, rfl, hvw2⟩ := id hvw
      obtain ⟨w1, rfl, Fl, w2, w3, rfl⟩ := hvw2 U rfl
      have hh8 : h0 ≤ 800 := by omega
      have hgd : gdV (ki, bi, ste, hel, low, hgh) U := ⟨t2, w1, po_bd hh8 w2⟩
      have hoU : okW U := okW_eq t2 t1 t4 t3
      have hfU : fitT U 16 := okW_fit t2 hoU
      have hn8 : nodT U ≤ 800 := by omega
      obtain ⟨s1, s2, s3⟩ := st_way t2 t1 t4 P
      refine ⟨3, 0, 0, 3, _, _, ⟨by decide, by decide, by decide, by decide⟩, kX8_get hA1 hN hvo hP, fun H1 => kX9_get hA2 Snap.ns hgd hfU hP, ?_⟩
      intro v8 wx' H1 v9 wm' H2 hG8 hG9
      obtain ⟨⟨rfl, rfl⟩, h8⟩ := hG8
      obtain ⟨e2, a2, ⟨rfl, rfl⟩, h9⟩ := hG9
      rw [s1, s2, s3]
      exact ⟨⟨_, rfl, rfl, _, rfl⟩, ⟨T, Vs, Rg, S, (some V), (some U), fp, (lvT (wayT V P) P), hok, hvu, Or.inl ⟨kf, ra, rb, to, so, sl, rfl, hkf, hrg, htp⟩, ⟨_, _, _, _, _, _, _, _, _, _, _, _, _, _, _, _, _, _, _, _, _, _, _, _, _, _, _, _, _, _, _, _, _, _, _, _, rfl, ⟨hls, hsz⟩, hver, hrg9, htp9, hvw⟩, h8⟩, h9⟩

set_option maxRecDepth 100000 in
set_option maxHeartbeats 4000000 in
theorem pr_count (x y : Int32) : Pr l D ca yX8_count cX8_count 3 (some .int) yX9_count cX9_count 3 (some .int) [.int x, .int y] isI := by
  intro adx adm T Vs Rg S vo uo fp fd wx wm hA1 hA2 hok hvu hx hm
  obtain ⟨⟨hT, hokT, hlT⟩, hVs, hS4, hoc⟩ := id hok
  obtain ⟨kf, ra, rb, to, so, sl, rfl, hkf, hrg, htp⟩ := hx
  obtain ⟨pa, va, sz, fr, tw, ta, wd, wb, wp, ou, o1, o2, pf, pt, ki, bi, ste, hel, low, hgh, su, ro, fe, dp, la, rst, hlf, nd, frd, at_, end_, ab, co, ll, lh, hm, rfl, ⟨hls, hsz⟩, hver, hrg9, htp9, hvw⟩ := hm
  have hN := Nn.ns (D := D) (T := T) (Vs := Vs) (vo := vo)
  by_cases hx : (0 ≤ x ∧ x ≤ 65535) ∧ (0 ≤ y ∧ y ≤ 65535) ∧ x ≤ y
  rotate_left
  · refine ⟨2, 0, 0, 1, _, _, ⟨by decide, by decide, by decide, by decide⟩, kX8_count_bad hA1 hN x y hx, fun H1 => kX9_count_bad hA2 Snap.ns x y hx, ?_⟩
    intro v8 wx' H1 v9 wm' H2 hG8 hG9
    obtain ⟨⟨rfl, rfl⟩, h8⟩ := hG8
    obtain ⟨⟨rfl, rfl⟩, h9⟩ := hG9
    exact ⟨⟨_, rfl, rfl, _, rfl⟩, ⟨T, Vs, Rg, S, vo, uo, fp, fd, hok, hvu, Or.inl ⟨kf, ra, rb, to, so, sl, rfl, hkf, hrg, htp⟩, ⟨_, _, _, _, _, _, _, _, _, _, _, _, _, _, _, _, _, _, _, _, _, _, _, _, _, _, _, _, _, _, _, _, _, _, _, _, rfl, ⟨hls, hsz⟩, hver, hrg9, htp9, hvw⟩, h8⟩, h9⟩
  · obtain ⟨a, ha, rfl⟩ := isP hx.1
    obtain ⟨b, hb, rfl⟩ := isP hx.2.1
    have hab : a ≤ b := (nI_leI (by omega) (by omega)).mp hx.2.2
    have hvo : ∀ V, vo = some V → fitT V 16 ∧ ∀ H, Nn D T Vs vo H → nodeAt D H V := fun V hV => ⟨by
      rcases hvu with ⟨e1, e2⟩ | ⟨V2, U2, e1, e2, t1, t2, t3, t4, t5⟩
      · rw [e1] at hV; cases hV
      · have e3 : V2 = V := Option.some.inj (e1.symm.trans hV)
        rw [← e3]; exact okW_fit t1 t3, fun H h => h.2.2 V hV⟩
    rcases id hvu with ⟨rfl, rfl⟩ | ⟨V, U, rfl, rfl, t1, t2, t3, t4, t5⟩
    · refine ⟨18, 0, 0, 1, _, _, ⟨by decide, by decide, by decide, by decide⟩, kX8_count hA1 hN hvo ha hb hab, fun H1 => kX9_count_none hA2 Snap.ns ha hb hab, ?_⟩
      intro v8 wx' H1 v9 wm' H2 hG8 hG9
      obtain ⟨⟨rfl, rfl⟩, h8⟩ := hG8
      obtain ⟨⟨rfl, rfl⟩, h9⟩ := hG9
      exact ⟨⟨_, rfl, rfl, _, rfl⟩, ⟨T, Vs, Rg, S, none, none, fp, fd, hok, hvu, Or.inl ⟨kf, ra, rb, to, so, sl, rfl, hkf, hrg, htp⟩, ⟨_, _, _, _, _, _, _, _, _, _, _, _, _, _, _, _, _, _, _, _, _, _, _, _, _, _, _, _, _, _, _, _, _, _, _, _, rfl, ⟨hls, hsz⟩, hver, hrg9, htp9, hvw⟩, h8⟩, h9⟩
    · obtain ⟨h0, hh0, rfl, hvw2⟩ := id hvw
      obtain ⟨w1, rfl, Fl, w2, w3, rfl⟩ := hvw2 U rfl
      have hh8 : h0 ≤ 800 := by omega
      have hgd : gdV (ki, bi, ste, hel, low, hgh) U := ⟨t2, w1, po_bd hh8 w2⟩
      have hoU : okW U := okW_eq t2 t1 t4 t3
      have hfU : fitT U 16 := okW_fit t2 hoU
      have hn8 : nodT U ≤ 800 := by omega
      refine ⟨18, 0, 0, 3, _, _, ⟨by decide, by decide, by decide, by decide⟩, kX8_count hA1 hN hvo ha hb hab, fun H1 => kX9_count hA2 Snap.ns hgd hfU hn8 ha hb hab, ?_⟩
      intro v8 wx' H1 v9 wm' H2 hG8 hG9
      obtain ⟨⟨rfl, rfl⟩, h8⟩ := hG8
      obtain ⟨p1, p2, p3, p4, ⟨rfl, rfl⟩, h9⟩ := hG9
      exact ⟨⟨_, rfl, by rw [← strp_hid U t2, ← strp_cnt U t2, t4, strp_hid V t1, strp_cnt V t1], _, rfl⟩, ⟨T, Vs, Rg, S, (some V), (some U), fp, fd, hok, hvu, Or.inl ⟨kf, ra, rb, to, so, sl, rfl, hkf, hrg, htp⟩, ⟨_, _, _, _, _, _, _, _, _, _, _, _, _, _, _, _, _, _, _, _, _, _, _, _, _, _, _, _, _, _, _, _, _, _, _, _, rfl, ⟨hls, hsz⟩, hver, hrg9, htp9, hvw⟩, h8⟩, h9⟩

set_option maxRecDepth 100000 in
set_option maxHeartbeats 4000000 in
theorem pr_told (x : Int32) : Pr l D ca yX8_told cX8_told 2 (some .int) yX9_told cX9_told 4 (some .int) [.int x] isI := by
  intro adx adm T Vs Rg S vo uo fp fd wx wm hA1 hA2 hok hvu hx hm
  obtain ⟨⟨hT, hokT, hlT⟩, hVs, hS4, hoc⟩ := id hok
  obtain ⟨kf, ra, rb, to, so, sl, rfl, hkf, hrg, htp⟩ := hx
  obtain ⟨pa, va, sz, fr, tw, ta, wd, wb, wp, ou, o1, o2, pf, pt, ki, bi, ste, hel, low, hgh, su, ro, fe, dp, la, rst, hlf, nd, frd, at_, end_, ab, co, ll, lh, hm, rfl, ⟨hls, hsz⟩, hver, hrg9, htp9, hvw⟩ := hm
  have hN := Nn.ns (D := D) (T := T) (Vs := Vs) (vo := vo)
  by_cases hx : x.toInt < 0 ∨ 5 < x.toInt
  · refine ⟨0, 0, 0, 0, _, _, ⟨by decide, by decide, by decide, by decide⟩, kX8_told_bad hA1 hN x hx, fun H1 => kX9_told_bad hA2 Snap.ns x hx, ?_⟩
    intro v8 wx' H1 v9 wm' H2 hG8 hG9
    obtain ⟨⟨rfl, rfl⟩, h8⟩ := hG8
    obtain ⟨⟨rfl, rfl⟩, h9⟩ := hG9
    exact ⟨⟨_, rfl, rfl, _, rfl⟩, ⟨T, Vs, Rg, S, vo, uo, fp, fd, hok, hvu, Or.inl ⟨kf, ra, rb, to, so, sl, rfl, hkf, hrg, htp⟩, ⟨_, _, _, _, _, _, _, _, _, _, _, _, _, _, _, _, _, _, _, _, _, _, _, _, _, _, _, _, _, _, _, _, _, _, _, _, rfl, ⟨hls, hsz⟩, hver, hrg9, htp9, hvw⟩, h8⟩, h9⟩
  · have hx0 : ∃ j : Nat, j ≤ 5 ∧ x = nI j := by
      obtain ⟨j, h1, rfl⟩ := nI_of (x := x) (fun e9 => hx (Or.inl (by have := Int32.lt_iff_toInt_lt.mp e9; simpa using this)))
      rw [nI_toInt h1] at hx
      exact ⟨j, by omega, rfl⟩
    obtain ⟨j, hj, rfl⟩ := hx0
    have hfT : fitT T 16 := okW_fit hT (okM_W hokT)
    rcases (show j = 0 ∨ j = 1 ∨ j = 2 ∨ j = 3 ∨ j = 4 ∨ j = 5 by omega) with rfl | rfl | rfl | rfl | rfl | rfl
    · refine ⟨0, 0, 0, 0, _, _, ⟨by decide, by decide, by decide, by decide⟩, kX8_told0 hA1 hN, fun H1 => kX9_told0 hA2 Snap.ns, ?_⟩
      intro v8 wx' H1 v9 wm' H2 hG8 hG9
      obtain ⟨⟨rfl, rfl⟩, h8⟩ := hG8
      obtain ⟨⟨rfl, rfl⟩, h9⟩ := hG9
      exact ⟨⟨_, rfl, rfl, _, rfl⟩, ⟨T, Vs, Rg, S, vo, uo, fp, fd, hok, hvu, Or.inl ⟨kf, ra, rb, to, so, sl, rfl, hkf, hrg, htp⟩, ⟨_, _, _, _, _, _, _, _, _, _, _, _, _, _, _, _, _, _, _, _, _, _, _, _, _, _, _, _, _, _, _, _, _, _, _, _, rfl, ⟨hls, hsz⟩, hver, hrg9, htp9, hvw⟩, h8⟩, h9⟩
    · refine ⟨0, 0, 0, 0, _, _, ⟨by decide, by decide, by decide, by decide⟩, kX8_told1 hA1 hN, fun H1 => kX9_told1 hA2 Snap.ns, ?_⟩
      intro v8 wx' H1 v9 wm' H2 hG8 hG9
      obtain ⟨⟨rfl, rfl⟩, h8⟩ := hG8
      obtain ⟨⟨rfl, rfl⟩, h9⟩ := hG9
      exact ⟨⟨_, rfl, rfl, _, rfl⟩, ⟨T, Vs, Rg, S, vo, uo, fp, fd, hok, hvu, Or.inl ⟨kf, ra, rb, to, so, sl, rfl, hkf, hrg, htp⟩, ⟨_, _, _, _, _, _, _, _, _, _, _, _, _, _, _, _, _, _, _, _, _, _, _, _, _, _, _, _, _, _, _, _, _, _, _, _, rfl, ⟨hls, hsz⟩, hver, hrg9, htp9, hvw⟩, h8⟩, h9⟩
    · refine ⟨0, 0, 0, 0, _, _, ⟨by decide, by decide, by decide, by decide⟩, kX8_told2 hA1 hN, fun H1 => kX9_told2 hA2 Snap.ns, ?_⟩
      intro v8 wx' H1 v9 wm' H2 hG8 hG9
      obtain ⟨⟨rfl, rfl⟩, h8⟩ := hG8
      obtain ⟨⟨rfl, rfl⟩, h9⟩ := hG9
      exact ⟨⟨_, rfl, rfl, _, rfl⟩, ⟨T, Vs, Rg, S, vo, uo, fp, fd, hok, hvu, Or.inl ⟨kf, ra, rb, to, so, sl, rfl, hkf, hrg, htp⟩, ⟨_, _, _, _, _, _, _, _, _, _, _, _, _, _, _, _, _, _, _, _, _, _, _, _, _, _, _, _, _, _, _, _, _, _, _, _, rfl, ⟨hls, hsz⟩, hver, hrg9, htp9, hvw⟩, h8⟩, h9⟩
    · have hvo : ∀ V, vo = some V → fitT V 16 ∧ ∀ H, Nn D T Vs vo H → nodeAt D H V := fun V hV => ⟨by
        rcases hvu with ⟨e1, e2⟩ | ⟨V2, U2, e1, e2, t1, t2, t3, t4, t5⟩
        · rw [e1] at hV; cases hV
        · have e3 : V2 = V := Option.some.inj (e1.symm.trans hV)
          rw [← e3]; exact okW_fit t1 t3, fun H h => h.2.2 V hV⟩
      rcases id hvu with ⟨rfl, rfl⟩ | ⟨V, U, rfl, rfl, t1, t2, t3, t4, t5⟩
      · refine ⟨18, 0, 0, 0, _, _, ⟨by decide, by decide, by decide, by decide⟩, kX8_told3 hA1 hN hvo, fun H1 => kX9_told3_none hA2 Snap.ns, ?_⟩
        intro v8 wx' H1 v9 wm' H2 hG8 hG9
        obtain ⟨⟨rfl, rfl⟩, h8⟩ := hG8
        obtain ⟨⟨rfl, rfl⟩, h9⟩ := hG9
        exact ⟨⟨_, rfl, rfl, _, rfl⟩, ⟨T, Vs, Rg, S, none, none, fp, fd, hok, hvu, Or.inl ⟨kf, ra, rb, to, so, sl, rfl, hkf, hrg, htp⟩, ⟨_, _, _, _, _, _, _, _, _, _, _, _, _, _, _, _, _, _, _, _, _, _, _, _, _, _, _, _, _, _, _, _, _, _, _, _, rfl, ⟨hls, hsz⟩, hver, hrg9, htp9, hvw⟩, h8⟩, h9⟩
      · obtain ⟨h0, hh0, rfl, hvw2⟩ := id hvw
        obtain ⟨w1, rfl, Fl, w2, w3, rfl⟩ := hvw2 U rfl
        have hh8 : h0 ≤ 800 := by omega
        have hgd : gdV (ki, bi, ste, hel, low, hgh) U := ⟨t2, w1, po_bd hh8 w2⟩
        have hoU : okW U := okW_eq t2 t1 t4 t3
        have hfU : fitT U 16 := okW_fit t2 hoU
        have hn8 : nodT U ≤ 800 := by omega
        refine ⟨18, 0, 0, 0, _, _, ⟨by decide, by decide, by decide, by decide⟩, kX8_told3 hA1 hN hvo, fun H1 => kX9_told3 hA2 Snap.ns hgd, ?_⟩
        intro v8 wx' H1 v9 wm' H2 hG8 hG9
        obtain ⟨⟨rfl, rfl⟩, h8⟩ := hG8
        obtain ⟨⟨rfl, rfl⟩, h9⟩ := hG9
        exact ⟨⟨_, rfl, by rw [← strp_nod U t2, t4, strp_nod V t1], _, rfl⟩, ⟨T, Vs, Rg, S, (some V), (some U), fp, fd, hok, hvu, Or.inl ⟨kf, ra, rb, to, so, sl, rfl, hkf, hrg, htp⟩, ⟨_, _, _, _, _, _, _, _, _, _, _, _, _, _, _, _, _, _, _, _, _, _, _, _, _, _, _, _, _, _, _, _, _, _, _, _, rfl, ⟨hls, hsz⟩, hver, hrg9, htp9, hvw⟩, h8⟩, h9⟩
    · have hvo : ∀ V, vo = some V → fitT V 16 ∧ ∀ H, Nn D T Vs vo H → nodeAt D H V := fun V hV => ⟨by
        rcases hvu with ⟨e1, e2⟩ | ⟨V2, U2, e1, e2, t1, t2, t3, t4, t5⟩
        · rw [e1] at hV; cases hV
        · have e3 : V2 = V := Option.some.inj (e1.symm.trans hV)
          rw [← e3]; exact okW_fit t1 t3, fun H h => h.2.2 V hV⟩
      rcases id hvu with ⟨rfl, rfl⟩ | ⟨V, U, rfl, rfl, t1, t2, t3, t4, t5⟩
      · refine ⟨18, 0, 0, 0, _, _, ⟨by decide, by decide, by decide, by decide⟩, kX8_told4 hA1 hN hvo, fun H1 => kX9_told4_none hA2 Snap.ns, ?_⟩
        intro v8 wx' H1 v9 wm' H2 hG8 hG9
        obtain ⟨⟨rfl, rfl⟩, h8⟩ := hG8
        obtain ⟨⟨rfl, rfl⟩, h9⟩ := hG9
        exact ⟨⟨_, rfl, rfl, _, rfl⟩, ⟨T, Vs, Rg, S, none, none, fp, fd, hok, hvu, Or.inl ⟨kf, ra, rb, to, so, sl, rfl, hkf, hrg, htp⟩, ⟨_, _, _, _, _, _, _, _, _, _, _, _, _, _, _, _, _, _, _, _, _, _, _, _, _, _, _, _, _, _, _, _, _, _, _, _, rfl, ⟨hls, hsz⟩, hver, hrg9, htp9, hvw⟩, h8⟩, h9⟩
      · obtain ⟨h0, hh0, rfl, hvw2⟩ := id hvw
        obtain ⟨w1, rfl, Fl, w2, w3, rfl⟩ := hvw2 U rfl
        have hh8 : h0 ≤ 800 := by omega
        have hgd : gdV (ki, bi, ste, hel, low, hgh) U := ⟨t2, w1, po_bd hh8 w2⟩
        have hoU : okW U := okW_eq t2 t1 t4 t3
        have hfU : fitT U 16 := okW_fit t2 hoU
        have hn8 : nodT U ≤ 800 := by omega
        refine ⟨18, 0, 0, 3, _, _, ⟨by decide, by decide, by decide, by decide⟩, kX8_told4 hA1 hN hvo, fun H1 => kX9_told4 hA2 Snap.ns hgd hfU hn8, ?_⟩
        intro v8 wx' H1 v9 wm' H2 hG8 hG9
        obtain ⟨⟨rfl, rfl⟩, h8⟩ := hG8
        obtain ⟨p1, p2, p3, p4, ⟨rfl, rfl⟩, h9⟩ := hG9
        exact ⟨⟨_, rfl, by rw [← strp_hid U t2, t4, strp_hid V t1], _, rfl⟩, ⟨T, Vs, Rg, S, (some V), (some U), fp, fd, hok, hvu, Or.inl ⟨kf, ra, rb, to, so, sl, rfl, hkf, hrg, htp⟩, ⟨_, _, _, _, _, _, _, _, _, _, _, _, _, _, _, _, _, _, _, _, _, _, _, _, _, _, _, _, _, _, _, _, _, _, _, _, rfl, ⟨hls, hsz⟩, hver, hrg9, htp9, hvw⟩, h8⟩, h9⟩
    · refine ⟨18, 0, 0, 3, _, _, ⟨by decide, by decide, by decide, by decide⟩, kX8_told5 hA1 hN hfT (fun H h => h.1), fun H1 => kX9_told5 hA2 Snap.ns hT hokT hls hsz hlT, ?_⟩
      intro v8 wx' H1 v9 wm' H2 hG8 hG9
      obtain ⟨⟨rfl, rfl⟩, h8⟩ := hG8
      obtain ⟨wd2, wb2, wp2, ⟨rfl, rfl⟩, h9⟩ := hG9
      exact ⟨⟨_, rfl, rfl, _, rfl⟩, ⟨T, Vs, Rg, S, vo, uo, fp, fd, hok, hvu, Or.inl ⟨kf, ra, rb, to, so, sl, rfl, hkf, hrg, htp⟩, ⟨_, _, _, _, _, _, _, _, _, _, _, _, _, _, _, _, _, _, _, _, _, _, _, _, _, _, _, _, _, _, _, _, _, _, _, _, rfl, ⟨hls, hsz⟩, hver, hrg9, htp9, hvw⟩, h8⟩, h9⟩

end
