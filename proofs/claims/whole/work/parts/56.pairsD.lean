/-! the pairs of methods: take, write, erase -/
section
variable {l : Launch} {D : va_G} {ca : Nat → ClassId}
set_option maxRecDepth 100000 in
set_option maxHeartbeats 4000000 in
theorem pr_take (d : Int64) : Pr l D ca yX8_take cX8_take 5 (some .int) yX9_take cX9_take 8 (some .int) [.long d] isI := by
  intro adx adm T Vs Rg S vo uo fp fd wx wm hA1 hA2 hok hvu hx hm
  obtain ⟨⟨hT, hokT, hlT⟩, hVs, hS4, hoc⟩ := id hok
  obtain ⟨kf, ra, rb, to, so, sl, rfl, hkf, hrg, htp⟩ := hx
  obtain ⟨pa, va, sz, fr, tw, ta, wd, wb, wp, ou, o1, o2, pf, pt, ki, bi, ste, hel, low, hgh, su, ro, fe, dp, la, rst, hlf, nd, frd, at_, end_, ab, co, ll, lh, hm, rfl, ⟨hls, hsz⟩, hver, hrg9, htp9, hvw⟩ := hm
  have hN := Nn.ns (D := D) (T := T) (Vs := Vs) (vo := vo)
  obtain ⟨h0, hh0, rfl, hvw2⟩ := id hvw
  have hTU : ∀ U, uo = some U → isT U := fun U hU => by
    rcases hvu with ⟨e1, e2⟩ | ⟨V2, U2, e1, e2, t1, t2, t3, t4, t5⟩
    · rw [e2] at hU; cases hU
    · have e3 : U2 = U := Option.some.inj (e2.symm.trans hU)
      rw [← e3]; exact t2
  refine ⟨40, 1003, 5014, 4, _, _, ⟨by decide, by decide, by decide, by decide⟩, kX8_take hA1 hN (vo := vo) htp hS4 hoc d, fun H1 => kX9_take hA2 Snap.ns htp9 hS4 hoc d hh0, ?_⟩
  intro v8 wx' H1 v9 wm' H2 hG8 hG9
  obtain ⟨ki2, bi2, ste2, hel2, low2, hgh2, p1, p2, p3, p4, rs2, at2, su2, ro2, h9a, h9⟩ := hG9
  rcases hG8 with ⟨a, b, ⟨e1, rfl, rfl⟩, h8⟩ | ⟨T1, ⟨U0, e1, rfl, rfl, hs1, hoW⟩, h8, hn1⟩
  · rcases h9a with ⟨a', b', e2, hab, rfl, rfl, hag⟩ | ⟨U, Fl, fe2, e2, ⟨g1, g2, g3, g4⟩, rfl, rfl⟩
    · rw [e1] at e2
      cases e2
      exact ⟨⟨_, rfl, rfl, _, rfl⟩, ⟨T, Vs, Rg, S, vo, uo, (nI b), fd, hok, hvu, Or.inl ⟨kf, ra, rb, to, so, sl, rfl, hkf, hrg, htp⟩, ⟨_, _, _, _, _, _, _, _, _, _, _, _, _, _, _, _, _, _, _, _, _, _, _, _, _, _, _, _, _, _, _, _, _, _, _, _, rfl, ⟨hls, hsz⟩, hver, hrg9, htp9, vw_cg hh0 hTU hvw2 hag⟩, h8⟩, h9⟩
    · rw [e1] at e2
      cases e2
  · rcases h9a with ⟨a', b', e2, hab, rfl, rfl, hag⟩ | ⟨U, Fl, fe2, e2, ⟨g1, g2, g3, g4⟩, rfl, rfl⟩
    · rw [e1] at e2
      cases e2
    · rw [e1] at e2
      have hUU : U0 = strp U := Sum.inr.inj e2
      subst hUU
      have hTU0 : isT (strp U) := strp_T U g1.1
      exact ⟨⟨_, rfl, by rw [strp_nod U g1.1], _, rfl⟩, ⟨T, Vs, Rg, S, (some T1), (some U), (-2), fd, hok, Or.inr ⟨T1, U, rfl, rfl, nodeAt.T T1 hn1, g1.1, okW_eq (nodeAt.T T1 hn1) hTU0 (by rw [hs1, strp_strp U g1.1]) hoW, hs1.symm, g4⟩, Or.inl ⟨kf, ra, rb, to, so, sl, rfl, hkf, hrg, htp⟩, ⟨_, _, _, _, _, _, _, _, _, _, _, _, _, _, _, _, _, _, _, _, _, _, _, _, _, _, _, _, _, _, _, _, _, _, _, _, rfl, ⟨hls, hsz⟩, hver, hrg9, htp9, ⟨800 - h0, by omega, rfl, fun U2 hU2 => by cases hU2; exact ⟨g1.2.1, rfl, Fl, g2, g3, rfl⟩⟩⟩, ⟨h8.1, h8.2.1, fun V hV => by cases hV; exact hn1⟩⟩, h9⟩

set_option maxRecDepth 100000 in
set_option maxHeartbeats 4000000 in
theorem pr_write (x : Int32) (v : Int64) : Pr l D ca yX8_write cX8_write 6 (some .int) yX9_write cX9_write 8 (some .int) [.int x, .long v] isI := by
  intro adx adm T Vs Rg S vo uo fp fd wx wm hA1 hA2 hok hvu hx hm
  obtain ⟨⟨hT, hokT, hlT⟩, hVs, hS4, hoc⟩ := id hok
  obtain ⟨kf, ra, rb, to, so, sl, rfl, hkf, hrg, htp⟩ := hx
  obtain ⟨pa, va, sz, fr, tw, ta, wd, wb, wp, ou, o1, o2, pf, pt, ki, bi, ste, hel, low, hgh, su, ro, fe, dp, la, rst, hlf, nd, frd, at_, end_, ab, co, ll, lh, hm, rfl, ⟨hls, hsz⟩, hver, hrg9, htp9, hvw⟩ := hm
  have hN := Nn.ns (D := D) (T := T) (Vs := Vs) (vo := vo)
  by_cases hx : 0 ≤ x ∧ x ≤ 65535
  rotate_left
  · refine ⟨1, 0, 0, 1, _, _, ⟨by decide, by decide, by decide, by decide⟩, kX8_write_bad hA1 hN x v hx, fun H1 => kX9_write_bad hA2 Snap.ns hx v, ?_⟩
    intro v8 wx' H1 v9 wm' H2 hG8 hG9
    obtain ⟨⟨rfl, rfl⟩, h8⟩ := hG8
    obtain ⟨⟨rfl, rfl⟩, h9⟩ := hG9
    exact ⟨⟨_, rfl, rfl, _, rfl⟩, ⟨T, Vs, Rg, S, vo, uo, fp, fd, hok, hvu, Or.inl ⟨kf, ra, rb, to, so, sl, rfl, hkf, hrg, htp⟩, ⟨_, _, _, _, _, _, _, _, _, _, _, _, _, _, _, _, _, _, _, _, _, _, _, _, _, _, _, _, _, _, _, _, _, _, _, _, rfl, ⟨hls, hsz⟩, hver, hrg9, htp9, hvw⟩, h8⟩, h9⟩
  · obtain ⟨P, hP, rfl⟩ := isP hx
    have hvo : ∀ V, vo = some V → fitT V 16 ∧ ∀ H, Nn D T Vs vo H → nodeAt D H V := fun V hV => ⟨by
      rcases hvu with ⟨e1, e2⟩ | ⟨V2, U2, e1, e2, t1, t2, t3, t4, t5⟩
      · rw [e1] at hV; cases hV
      · have e3 : V2 = V := Option.some.inj (e1.symm.trans hV)
        rw [← e3]; exact okW_fit t1 t3, fun H h => h.2.2 V hV⟩
    rcases id hvu with ⟨rfl, rfl⟩ | ⟨V, U, rfl, rfl, t1, t2, t3, t4, t5⟩
    · refine ⟨21, 18, 88, 1, _, _, ⟨by decide, by decide, by decide, by decide⟩, kX8_write hA1 hN hvo hP v (fun V2 hV2 _ => by cases hV2), fun H1 => kX9_write_none hA2 Snap.ns hP v, ?_⟩
      intro v8 wx' H1 v9 wm' H2 hG8 hG9
      obtain ⟨⟨rfl, rfl⟩, h9⟩ := hG9
      rcases hG8 with ⟨-, rfl, rfl, h8⟩ | ⟨V', e0, -⟩ | ⟨V', e0, -⟩ | ⟨T1, V', ⟨e0, -⟩, -⟩
      · exact ⟨⟨_, rfl, rfl, _, rfl⟩, ⟨T, Vs, Rg, S, none, none, fp, fd, hok, hvu, Or.inl ⟨kf, ra, rb, to, so, sl, rfl, hkf, hrg, htp⟩, ⟨_, _, _, _, _, _, _, _, _, _, _, _, _, _, _, _, _, _, _, _, _, _, _, _, _, _, _, _, _, _, _, _, _, _, _, _, rfl, ⟨hls, hsz⟩, hver, hrg9, htp9, hvw⟩, h8⟩, h9⟩
      · cases e0
      · cases e0
      · cases e0
    · obtain ⟨h0, hh0, rfl, hvw2⟩ := id hvw
      obtain ⟨w1, rfl, Fl, w2, w3, rfl⟩ := hvw2 U rfl
      have hh8 : h0 ≤ 800 := by omega
      have hgd : gdV (ki, bi, ste, hel, low, hgh) U := ⟨t2, w1, po_bd hh8 w2⟩
      have hoU : okW U := okW_eq t2 t1 t4 t3
      have hfU : fitT U 16 := okW_fit t2 hoU
      have hn8 : nodT U ≤ 800 := by omega
      obtain ⟨s1, s2, s3⟩ := st_way t2 t1 t4 P
      have hsV := strp_T V t1
      have hWT := wrt_T (strp V) hsV P (L := tL 0 P v) trivial
      have hWo : okW (wrtT (strp V) P (tL 0 P v)) := wrtW_ok hsV hP ((okW_strp t1).mpr t3)
      refine ⟨21, 18, 88, 3, _, _, ⟨by decide, by decide, by decide, by decide⟩, kX8_write hA1 hN hvo hP v (fun V2 hV2 _ => by cases hV2; exact okW_fit hWT hWo), fun H1 => kX9_write hA2 Snap.ns hh8 t2 w1 hfU w2 w3 t5 hP v, ?_⟩
      intro v8 wx' H1 v9 wm' H2 hG8 hG9
      obtain ⟨e2, a2, h9a, h9⟩ := hG9
      rw [s1, s2, t4] at h9a
      rcases hG8 with ⟨e0, -⟩ | ⟨V', e0, e1, rfl, rfl, h8⟩ | ⟨V', e0, e1, e3, rfl, rfl, h8⟩ | ⟨T1, V', ⟨e0, e1, e3, rfl, rfl, hs1⟩, h8, hn1⟩
      · cases e0
      · cases e0
        rcases h9a with ⟨f1, rfl, rfl⟩ | ⟨f1, -⟩ | ⟨U2, Fl2, ki2, bi2, ste2, hel2, low2, hgh2, f1, -⟩
        · exact ⟨⟨_, rfl, rfl, _, rfl⟩, ⟨T, Vs, Rg, S, (some V), (some U), fp, fd, hok, hvu, Or.inl ⟨kf, ra, rb, to, so, sl, rfl, hkf, hrg, htp⟩, ⟨_, _, _, _, _, _, _, _, _, _, _, _, _, _, _, _, _, _, _, _, _, _, _, _, _, _, _, _, _, _, _, _, _, _, _, _, rfl, ⟨hls, hsz⟩, hver, hrg9, htp9, hvw⟩, h8⟩, h9⟩
        · exact absurd e1 f1
        · exact absurd e1 f1
      · cases e0
        rcases h9a with ⟨f1, rfl, rfl⟩ | ⟨f1, f2, rfl, rfl⟩ | ⟨U2, Fl2, ki2, bi2, ste2, hel2, low2, hgh2, f1, ⟨n1, n2, n3, n4, n5, n6⟩, rfl, rfl⟩
        · exact absurd f1 e1
        · exact ⟨⟨_, rfl, rfl, _, rfl⟩, ⟨T, Vs, Rg, S, (some V), (some U), fp, fd, hok, hvu, Or.inl ⟨kf, ra, rb, to, so, sl, rfl, hkf, hrg, htp⟩, ⟨_, _, _, _, _, _, _, _, _, _, _, _, _, _, _, _, _, _, _, _, _, _, _, _, _, _, _, _, _, _, _, _, _, _, _, _, rfl, ⟨hls, hsz⟩, hver, hrg9, htp9, hvw⟩, h8⟩, h9⟩
        · rw [← n2, strp_nod U2 n1] at e3
          omega
      · cases e0
        have hT1 := nodeAt.T T1 hn1
        rcases h9a with ⟨f1, rfl, rfl⟩ | ⟨f1, f2, rfl, rfl⟩ | ⟨U2, Fl2, ki2, bi2, ste2, hel2, low2, hgh2, f1, ⟨n1, n2, n3, n4, n5, n6⟩, rfl, rfl⟩
        · exact absurd f1 e1
        · omega
        · exact ⟨⟨_, rfl, rfl, _, rfl⟩, ⟨T, Vs, Rg, S, (some T1), (some U2), fp, fd, hok, Or.inr ⟨T1, U2, rfl, rfl, hT1, n1, okW_eq hT1 hWT hs1 hWo, by rw [hs1, ← n2, strp_strp U2 n1], n6⟩, Or.inl ⟨kf, ra, rb, to, so, sl, rfl, hkf, hrg, htp⟩, ⟨_, _, _, _, _, _, _, _, _, _, _, _, _, _, _, _, _, _, _, _, _, _, _, _, _, _, _, _, _, _, _, _, _, _, _, _, rfl, ⟨hls, hsz⟩, hver, hrg9, htp9, ⟨h0, hh0, rfl, fun U3 hU3 => by cases hU3; exact ⟨n3, rfl, Fl2, n4, n5, rfl⟩⟩⟩, ⟨h8.1, h8.2.1, fun V hV => by cases hV; exact hn1⟩⟩, h9⟩

set_option maxRecDepth 100000 in
set_option maxHeartbeats 4000000 in
theorem pr_erase (x : Int32) : Pr l D ca yX8_erase cX8_erase 3 (some .int) yX9_erase cX9_erase 7 (some .int) [.int x] isI := by
  intro adx adm T Vs Rg S vo uo fp fd wx wm hA1 hA2 hok hvu hx hm
  obtain ⟨⟨hT, hokT, hlT⟩, hVs, hS4, hoc⟩ := id hok
  obtain ⟨kf, ra, rb, to, so, sl, rfl, hkf, hrg, htp⟩ := hx
  obtain ⟨pa, va, sz, fr, tw, ta, wd, wb, wp, ou, o1, o2, pf, pt, ki, bi, ste, hel, low, hgh, su, ro, fe, dp, la, rst, hlf, nd, frd, at_, end_, ab, co, ll, lh, hm, rfl, ⟨hls, hsz⟩, hver, hrg9, htp9, hvw⟩ := hm
  have hN := Nn.ns (D := D) (T := T) (Vs := Vs) (vo := vo)
  by_cases hx : 0 ≤ x ∧ x ≤ 65535
  rotate_left
  · refine ⟨1, 0, 0, 1, _, _, ⟨by decide, by decide, by decide, by decide⟩, kX8_erase_bad hA1 hN x hx, fun H1 => kX9_erase_bad hA2 Snap.ns hx, ?_⟩
    intro v8 wx' H1 v9 wm' H2 hG8 hG9
    obtain ⟨⟨rfl, rfl⟩, h8⟩ := hG8
    obtain ⟨⟨rfl, rfl⟩, h9⟩ := hG9
    exact ⟨⟨_, rfl, rfl, _, rfl⟩, ⟨T, Vs, Rg, S, vo, uo, fp, fd, hok, hvu, Or.inl ⟨kf, ra, rb, to, so, sl, rfl, hkf, hrg, htp⟩, ⟨_, _, _, _, _, _, _, _, _, _, _, _, _, _, _, _, _, _, _, _, _, _, _, _, _, _, _, _, _, _, _, _, _, _, _, _, rfl, ⟨hls, hsz⟩, hver, hrg9, htp9, hvw⟩, h8⟩, h9⟩
  · obtain ⟨P, hP, rfl⟩ := isP hx
    have hvo : ∀ V, vo = some V → fitT V 16 ∧ ∀ H, Nn D T Vs vo H → nodeAt D H V := fun V hV => ⟨by
      rcases hvu with ⟨e1, e2⟩ | ⟨V2, U2, e1, e2, t1, t2, t3, t4, t5⟩
      · rw [e1] at hV; cases hV
      · have e3 : V2 = V := Option.some.inj (e1.symm.trans hV)
        rw [← e3]; exact okW_fit t1 t3, fun H h => h.2.2 V hV⟩
    rcases id hvu with ⟨rfl, rfl⟩ | ⟨V, U, rfl, rfl, t1, t2, t3, t4, t5⟩
    · refine ⟨21, 17, 85, 1, _, _, ⟨by decide, by decide, by decide, by decide⟩, kX8_erase hA1 hN hvo hP, fun H1 => kX9_erase_none hA2 Snap.ns hP, ?_⟩
      intro v8 wx' H1 v9 wm' H2 hG8 hG9
      obtain ⟨⟨rfl, rfl⟩, h9⟩ := hG9
      rcases hG8 with ⟨-, rfl, rfl, h8⟩ | ⟨V', e0, -⟩ | ⟨V', e0, -⟩ | ⟨T1, V', ⟨e0, -⟩, -⟩
      · exact ⟨⟨_, rfl, rfl, _, rfl⟩, ⟨T, Vs, Rg, S, none, none, fp, fd, hok, hvu, Or.inl ⟨kf, ra, rb, to, so, sl, rfl, hkf, hrg, htp⟩, ⟨_, _, _, _, _, _, _, _, _, _, _, _, _, _, _, _, _, _, _, _, _, _, _, _, _, _, _, _, _, _, _, _, _, _, _, _, rfl, ⟨hls, hsz⟩, hver, hrg9, htp9, hvw⟩, h8⟩, h9⟩
      · cases e0
      · cases e0
      · cases e0
    · obtain ⟨h0, hh0, rfl, hvw2⟩ := id hvw
      obtain ⟨w1, rfl, Fl, w2, w3, rfl⟩ := hvw2 U rfl
      have hh8 : h0 ≤ 800 := by omega
      have hgd : gdV (ki, bi, ste, hel, low, hgh) U := ⟨t2, w1, po_bd hh8 w2⟩
      have hoU : okW U := okW_eq t2 t1 t4 t3
      have hfU : fitT U 16 := okW_fit t2 hoU
      have hn8 : nodT U ≤ 800 := by omega
      obtain ⟨s1, s2, s3⟩ := st_way t2 t1 t4 P
      have hsV := strp_T V t1
      have hWT := dlt_T (strp V) hsV P
      have hWo : okW (delT (strp V) P) := delW_ok hsV P ((okW_strp t1).mpr t3)
      refine ⟨21, 17, 85, 3, _, _, ⟨by decide, by decide, by decide, by decide⟩, kX8_erase hA1 hN hvo hP, fun H1 => kX9_erase hA2 Snap.ns hh8 t2 w1 hfU w2 w3 t5 hP, ?_⟩
      intro v8 wx' H1 v9 wm' H2 hG8 hG9
      obtain ⟨e2, a2, h9a, h9⟩ := hG9
      rw [s1, s2, t4] at h9a
      rcases hG8 with ⟨e0, -⟩ | ⟨V', e0, e1, rfl, rfl, h8⟩ | ⟨V', e0, e1, e3, rfl, rfl, h8⟩ | ⟨T1, V', ⟨e0, e1, e3, rfl, rfl, hs1⟩, h8, hn1⟩
      · cases e0
      · cases e0
        rcases h9a with ⟨f1, rfl, rfl⟩ | ⟨f1, -⟩ | ⟨U2, Fl2, ki2, bi2, ste2, hel2, low2, hgh2, fe2, f1, -⟩
        · exact ⟨⟨_, rfl, rfl, _, rfl⟩, ⟨T, Vs, Rg, S, (some V), (some U), fp, fd, hok, hvu, Or.inl ⟨kf, ra, rb, to, so, sl, rfl, hkf, hrg, htp⟩, ⟨_, _, _, _, _, _, _, _, _, _, _, _, _, _, _, _, _, _, _, _, _, _, _, _, _, _, _, _, _, _, _, _, _, _, _, _, rfl, ⟨hls, hsz⟩, hver, hrg9, htp9, hvw⟩, h8⟩, h9⟩
        · exact absurd e1 f1
        · exact absurd e1 f1
      · cases e0
        rcases h9a with ⟨f1, rfl, rfl⟩ | ⟨f1, f2, rfl, rfl⟩ | ⟨U2, Fl2, ki2, bi2, ste2, hel2, low2, hgh2, fe2, f1, f2, ⟨n1, n2, n3, n4, n5, n6⟩, rfl, rfl⟩
        · exact absurd f1 e1
        · exact ⟨⟨_, rfl, rfl, _, rfl⟩, ⟨T, Vs, Rg, S, (some V), (some U), fp, fd, hok, hvu, Or.inl ⟨kf, ra, rb, to, so, sl, rfl, hkf, hrg, htp⟩, ⟨_, _, _, _, _, _, _, _, _, _, _, _, _, _, _, _, _, _, _, _, _, _, _, _, _, _, _, _, _, _, _, _, _, _, _, _, rfl, ⟨hls, hsz⟩, hver, hrg9, htp9, hvw⟩, h8⟩, h9⟩
        · exact absurd f2 e3
      · cases e0
        have hT1 := nodeAt.T T1 hn1
        rcases h9a with ⟨f1, rfl, rfl⟩ | ⟨f1, f2, rfl, rfl⟩ | ⟨U2, Fl2, ki2, bi2, ste2, hel2, low2, hgh2, fe2, f1, f2, ⟨n1, n2, n3, n4, n5, n6⟩, rfl, rfl⟩
        · exact absurd f1 e1
        · exact absurd e3 f2
        · exact ⟨⟨_, rfl, rfl, _, rfl⟩, ⟨T, Vs, Rg, S, (some T1), (some U2), fp, fd, hok, Or.inr ⟨T1, U2, rfl, rfl, hT1, n1, okW_eq hT1 hWT hs1 hWo, by rw [hs1, ← n2, strp_strp U2 n1], n6⟩, Or.inl ⟨kf, ra, rb, to, so, sl, rfl, hkf, hrg, htp⟩, ⟨_, _, _, _, _, _, _, _, _, _, _, _, _, _, _, _, _, _, _, _, _, _, _, _, _, _, _, _, _, _, _, _, _, _, _, _, rfl, ⟨hls, hsz⟩, hver, hrg9, htp9, ⟨h0, hh0, rfl, fun U3 hU3 => by cases hU3; exact ⟨n3, rfl, Fl2, n4, n5, rfl⟩⟩⟩, ⟨h8.1, h8.2.1, fun V hV => by cases hV; exact hn1⟩⟩, h9⟩

end
