/-! the pairs of methods: the small ones -/
theorem rg_nil {ra rb : Nat → Int32} : rgR ra rb [] := ⟨Nat.zero_le _, fun j r h => by cases h⟩
theorem tp_take {f : Nat → Int32} {S : List Int32} {j : Nat} (h : tpR f S) : tpR f (S.take j) := fun k h1 h2 => by
  rw [List.length_take] at h2
  rw [List.getElem?_take_of_lt (by omega)]
  exact h k h1 (by omega)
theorem oc_take {S : List Int32} {j : Nat} (h : ocOk S) : ocOk (S.take j) := fun x hx => h x (List.mem_of_mem_take hx)
theorem tp_same {f g : Nat → Int32} {S : List Int32} (h1 : tpR f S) (h2 : tpR g S) {k : Nat} (hk : k < S.length) (hS : S.length ≤ 4000) : f k = g k := Option.some.inj ((h1 k (by omega) hk).symm.trans (h2 k (by omega) hk))
theorem tp_set {f : Nat → Int32} {S : List Int32} {k : Nat} {v : Int32} (h : tpR f S) : tpR (upd f k v) (S.set k v) := fun j h1 h2 => by
  rw [List.length_set] at h2
  by_cases e : j = k
  · subst e
    rw [List.getElem?_set_self h2]
    exact congrArg some (if_pos rfl).symm
  · rw [List.getElem?_set_ne (fun h => e h.symm), h j h1 h2]
    exact congrArg some (if_neg e).symm
theorem oc_set {S : List Int32} {k : Nat} {v : Int32} (h : ocOk S) (hv : ∃ o : Nat, o < 256 ∧ v = nI o) : ocOk (S.set k v) := fun x hx => by
  rcases List.mem_or_eq_of_mem_set hx with h1 | h1
  · exact h x h1
  · rw [h1]; exact hv
theorem rg_add {ra rb : Nat → Int32} {Rg : List (Nat × Nat)} {a b : Nat} (h : rgR ra rb Rg) (hl : Rg.length < 20) (ha : a < 65536) (hb : b < 65536) : rgR (upd ra Rg.length (nI a)) (upd rb Rg.length (nI b)) (Rg ++ [(a, b)]) := by
  refine ⟨by simp; omega, fun j r hj => ?_⟩
  by_cases h1 : j < Rg.length
  · rw [List.getElem?_append_left h1] at hj
    obtain ⟨c1, c2, c3⟩ := h.2 j r hj
    exact ⟨(if_neg (by omega)).trans c1, (if_neg (by omega)).trans c2, c3⟩
  · rw [List.getElem?_append_right (by omega)] at hj
    by_cases h2 : j = Rg.length
    · subst h2
      rw [Nat.sub_self] at hj
      have hj : (a, b) = r := Option.some.inj hj
      subst hj
      exact ⟨if_pos rfl, if_pos rfl, ha, hb⟩
    · rw [List.getElem?_eq_none (by show 1 ≤ j - Rg.length; omega)] at hj
      cases hj
theorem isP {x : Int32} (h : 0 ≤ x ∧ x ≤ 65535) : ∃ P, P < 65536 ∧ x = nI P := by
  obtain ⟨j, h1, h2⟩ := nI_of2 (M := 65535) (n := 65535) rfl (Int32.not_lt.mpr h.1) h.2
  exact ⟨j, by omega, h2⟩
theorem cl_lt {x : Int32} {n : Nat} (h : 0 ≤ x.toInt ∧ x.toInt < (n : Int)) : x.toNatClampNeg < n := by
  have : (x.toNatClampNeg : Int) = x.toInt := by
    rw [Int32.toNatClampNeg]
    omega
  omega
section
variable {l : Launch} {D : va_G} {ca : Nat → ClassId}
set_option maxRecDepth 100000 in
set_option maxHeartbeats 4000000 in
theorem pr_place  : Pr l D ca yX8_place cX8_place 1 (some .int) yX9_place cX9_place 1 (some .int) [] isI := by
  intro adx adm T Vs Rg S vo uo fp fd wx wm hA1 hA2 hok hvu hx hm
  obtain ⟨⟨hT, hokT, hlT⟩, hVs, hS4, hoc⟩ := id hok
  obtain ⟨kf, ra, rb, to, so, sl, rfl, hkf, hrg, htp⟩ := hx
  obtain ⟨pa, va, sz, fr, tw, ta, wd, wb, wp, ou, o1, o2, pf, pt, ki, bi, ste, hel, low, hgh, su, ro, fe, dp, la, rst, hlf, nd, frd, at_, end_, ab, co, ll, lh, hm, rfl, ⟨hls, hsz⟩, hver, hrg9, htp9, hvw⟩ := hm
  have hN := Nn.ns (D := D) (T := T) (Vs := Vs) (vo := vo)
  refine ⟨0, 0, 0, 0, _, _, ⟨by decide, by decide, by decide, by decide⟩, kX8_place hA1 hN, fun H1 => kX9_place hA2 Snap.ns, ?_⟩
  intro v8 wx' H1 v9 wm' H2 hG8 hG9
  obtain ⟨⟨rfl, rfl⟩, h8⟩ := hG8
  obtain ⟨⟨rfl, rfl⟩, h9⟩ := hG9
  exact ⟨⟨_, rfl, rfl, _, rfl⟩, ⟨T, Vs, Rg, S, vo, uo, fp, fd, hok, hvu, Or.inl ⟨kf, ra, rb, to, so, sl, rfl, hkf, hrg, htp⟩, ⟨_, _, _, _, _, _, _, _, _, _, _, _, _, _, _, _, _, _, _, _, _, _, _, _, _, _, _, _, _, _, _, _, _, _, _, _, rfl, ⟨hls, hsz⟩, hver, hrg9, htp9, hvw⟩, h8⟩, h9⟩

set_option maxRecDepth 100000 in
set_option maxHeartbeats 4000000 in
theorem pr_value  : Pr l D ca yX8_value cX8_value 1 (some .long) yX9_value cX9_value 1 (some .long) [] isJ := by
  intro adx adm T Vs Rg S vo uo fp fd wx wm hA1 hA2 hok hvu hx hm
  obtain ⟨⟨hT, hokT, hlT⟩, hVs, hS4, hoc⟩ := id hok
  obtain ⟨kf, ra, rb, to, so, sl, rfl, hkf, hrg, htp⟩ := hx
  obtain ⟨pa, va, sz, fr, tw, ta, wd, wb, wp, ou, o1, o2, pf, pt, ki, bi, ste, hel, low, hgh, su, ro, fe, dp, la, rst, hlf, nd, frd, at_, end_, ab, co, ll, lh, hm, rfl, ⟨hls, hsz⟩, hver, hrg9, htp9, hvw⟩ := hm
  have hN := Nn.ns (D := D) (T := T) (Vs := Vs) (vo := vo)
  refine ⟨0, 0, 0, 0, _, _, ⟨by decide, by decide, by decide, by decide⟩, kX8_value hA1 hN, fun H1 => kX9_value hA2 Snap.ns, ?_⟩
  intro v8 wx' H1 v9 wm' H2 hG8 hG9
  obtain ⟨⟨rfl, rfl⟩, h8⟩ := hG8
  obtain ⟨⟨rfl, rfl⟩, h9⟩ := hG9
  exact ⟨⟨_, rfl, rfl, _, rfl⟩, ⟨T, Vs, Rg, S, vo, uo, fp, fd, hok, hvu, Or.inl ⟨kf, ra, rb, to, so, sl, rfl, hkf, hrg, htp⟩, ⟨_, _, _, _, _, _, _, _, _, _, _, _, _, _, _, _, _, _, _, _, _, _, _, _, _, _, _, _, _, _, _, _, _, _, _, _, rfl, ⟨hls, hsz⟩, hver, hrg9, htp9, hvw⟩, h8⟩, h9⟩

set_option maxRecDepth 100000 in
set_option maxHeartbeats 4000000 in
theorem pr_forget  : Pr l D ca yX8_forget cX8_forget 2 (some .int) yX9_forget cX9_forget 2 (some .int) [] isI := by
  intro adx adm T Vs Rg S vo uo fp fd wx wm hA1 hA2 hok hvu hx hm
  obtain ⟨⟨hT, hokT, hlT⟩, hVs, hS4, hoc⟩ := id hok
  obtain ⟨kf, ra, rb, to, so, sl, rfl, hkf, hrg, htp⟩ := hx
  obtain ⟨pa, va, sz, fr, tw, ta, wd, wb, wp, ou, o1, o2, pf, pt, ki, bi, ste, hel, low, hgh, su, ro, fe, dp, la, rst, hlf, nd, frd, at_, end_, ab, co, ll, lh, hm, rfl, ⟨hls, hsz⟩, hver, hrg9, htp9, hvw⟩ := hm
  have hN := Nn.ns (D := D) (T := T) (Vs := Vs) (vo := vo)
  refine ⟨0, 0, 0, 0, _, _, ⟨by decide, by decide, by decide, by decide⟩, kX8_forget hA1 hN, fun H1 => kX9_forget hA2 Snap.ns, ?_⟩
  intro v8 wx' H1 v9 wm' H2 hG8 hG9
  obtain ⟨⟨rfl, rfl⟩, h8⟩ := hG8
  obtain ⟨⟨rfl, rfl⟩, h9⟩ := hG9
  exact ⟨⟨_, rfl, rfl, _, rfl⟩, ⟨T, Vs, [], S, vo, uo, fp, fd, hok, hvu, Or.inl ⟨kf, ra, rb, to, so, sl, rfl, hkf, rg_nil, htp⟩, ⟨_, _, _, _, _, _, _, _, _, _, _, _, _, _, _, _, _, _, _, _, _, _, _, _, _, _, _, _, _, _, _, _, _, _, _, _, rfl, ⟨hls, hsz⟩, hver, rg_nil, htp9, hvw⟩, h8⟩, h9⟩

set_option maxRecDepth 100000 in
set_option maxHeartbeats 4000000 in
theorem pr_cut (x : Int32) : Pr l D ca yX8_cut cX8_cut 3 (some .int) yX9_cut cX9_cut 3 (some .int) [.int x] isI := by
  intro adx adm T Vs Rg S vo uo fp fd wx wm hA1 hA2 hok hvu hx hm
  obtain ⟨⟨hT, hokT, hlT⟩, hVs, hS4, hoc⟩ := id hok
  obtain ⟨kf, ra, rb, to, so, sl, rfl, hkf, hrg, htp⟩ := hx
  obtain ⟨pa, va, sz, fr, tw, ta, wd, wb, wp, ou, o1, o2, pf, pt, ki, bi, ste, hel, low, hgh, su, ro, fe, dp, la, rst, hlf, nd, frd, at_, end_, ab, co, ll, lh, hm, rfl, ⟨hls, hsz⟩, hver, hrg9, htp9, hvw⟩ := hm
  have hN := Nn.ns (D := D) (T := T) (Vs := Vs) (vo := vo)
  refine ⟨0, 0, 0, 0, _, _, ⟨by decide, by decide, by decide, by decide⟩, kX8_cut hA1 hN hS4 x, fun H1 => kX9_cut hA2 Snap.ns hS4 x, ?_⟩
  intro v8 wx' H1 v9 wm' H2 hG8 hG9
  obtain ⟨h8a, h8⟩ := hG8
  obtain ⟨h9a, h9⟩ := hG9
  rcases h8a with ⟨e1, rfl, rfl⟩ | ⟨j, e1, hj, rfl, rfl⟩
  · rcases h9a with ⟨e2, rfl, rfl⟩ | ⟨j', e2, hj', rfl, rfl⟩
    · exact ⟨⟨_, rfl, rfl, _, rfl⟩, ⟨T, Vs, Rg, S, vo, uo, fp, fd, hok, hvu, Or.inl ⟨kf, ra, rb, to, so, sl, rfl, hkf, hrg, htp⟩, ⟨_, _, _, _, _, _, _, _, _, _, _, _, _, _, _, _, _, _, _, _, _, _, _, _, _, _, _, _, _, _, _, _, _, _, _, _, rfl, ⟨hls, hsz⟩, hver, hrg9, htp9, hvw⟩, h8⟩, h9⟩
    · exact absurd (by rw [e2, nI_toInt (show j' < 2 ^ 31 by omega)]; omega) e1
  · rcases h9a with ⟨e2, rfl, rfl⟩ | ⟨j', e2, hj', rfl, rfl⟩
    · exact absurd (by rw [e1, nI_toInt (show j < 2 ^ 31 by omega)]; omega) e2
    · have hjj : j = j' := (nI_eq (by omega) (by omega)).mp (e1.symm.trans e2)
      subst hjj
      have hlj : (S.take j).length = j := by rw [List.length_take]; omega
      exact ⟨⟨_, rfl, rfl, _, rfl⟩, ⟨T, Vs, Rg, (S.take j), vo, uo, fp, fd, ⟨⟨hT, hokT, hlT⟩, hVs, by rw [hlj]; omega, oc_take hoc⟩, hvu, Or.inl ⟨kf, ra, rb, to, so, sl, by rw [hlj], hkf, hrg, tp_take htp⟩, ⟨_, _, _, _, _, _, _, _, _, _, _, _, _, _, _, _, _, _, _, _, _, _, _, _, _, _, _, _, _, _, _, _, _, _, _, _, by rw [hlj], ⟨hls, hsz⟩, hver, hrg9, tp_take htp9, hvw⟩, h8⟩, h9⟩

set_option maxRecDepth 100000 in
set_option maxHeartbeats 4000000 in
theorem pr_octet (x : Int32) : Pr l D ca yX8_octet cX8_octet 2 (some .int) yX9_octet cX9_octet 2 (some .int) [.int x] isI := by
  intro adx adm T Vs Rg S vo uo fp fd wx wm hA1 hA2 hok hvu hx hm
  obtain ⟨⟨hT, hokT, hlT⟩, hVs, hS4, hoc⟩ := id hok
  obtain ⟨kf, ra, rb, to, so, sl, rfl, hkf, hrg, htp⟩ := hx
  obtain ⟨pa, va, sz, fr, tw, ta, wd, wb, wp, ou, o1, o2, pf, pt, ki, bi, ste, hel, low, hgh, su, ro, fe, dp, la, rst, hlf, nd, frd, at_, end_, ab, co, ll, lh, hm, rfl, ⟨hls, hsz⟩, hver, hrg9, htp9, hvw⟩ := hm
  have hN := Nn.ns (D := D) (T := T) (Vs := Vs) (vo := vo)
  refine ⟨1, 0, 0, 0, _, _, ⟨by decide, by decide, by decide, by decide⟩, kX8_octet hA1 hN hS4 x, fun H1 => kX9_octet hA2 Snap.ns hS4 x, ?_⟩
  intro v8 wx' H1 v9 wm' H2 hG8 hG9
  obtain ⟨⟨rfl, rfl⟩, h8⟩ := hG8
  obtain ⟨⟨rfl, rfl⟩, h9⟩ := hG9
  refine ⟨⟨_, rfl, ?_, _, rfl⟩, ⟨T, Vs, Rg, S, vo, uo, fp, fd, hok, hvu, Or.inl ⟨kf, ra, rb, to, so, sl, rfl, hkf, hrg, htp⟩, ⟨_, _, _, _, _, _, _, _, _, _, _, _, _, _, _, _, _, _, _, _, _, _, _, _, _, _, _, _, _, _, _, _, _, _, _, _, rfl, ⟨hls, hsz⟩, hver, hrg9, htp9, hvw⟩, h8⟩, h9⟩
  by_cases hc : 0 ≤ x.toInt ∧ x.toInt < (S.length : Int)
  · rw [if_pos hc, if_pos hc, tp_same htp htp9 (cl_lt hc) hS4]
  · rw [if_neg hc, if_neg hc]

set_option maxRecDepth 100000 in
set_option maxHeartbeats 4000000 in
theorem pr_spoil (x y : Int32) : Pr l D ca yX8_spoil cX8_spoil 3 (some .int) yX9_spoil cX9_spoil 3 (some .int) [.int x, .int y] isI := by
  intro adx adm T Vs Rg S vo uo fp fd wx wm hA1 hA2 hok hvu hx hm
  obtain ⟨⟨hT, hokT, hlT⟩, hVs, hS4, hoc⟩ := id hok
  obtain ⟨kf, ra, rb, to, so, sl, rfl, hkf, hrg, htp⟩ := hx
  obtain ⟨pa, va, sz, fr, tw, ta, wd, wb, wp, ou, o1, o2, pf, pt, ki, bi, ste, hel, low, hgh, su, ro, fe, dp, la, rst, hlf, nd, frd, at_, end_, ab, co, ll, lh, hm, rfl, ⟨hls, hsz⟩, hver, hrg9, htp9, hvw⟩ := hm
  have hN := Nn.ns (D := D) (T := T) (Vs := Vs) (vo := vo)
  refine ⟨1, 0, 0, 0, _, _, ⟨by decide, by decide, by decide, by decide⟩, kX8_spoil hA1 hN hS4 x y, fun H1 => kX9_spoil hA2 Snap.ns hS4 x y, ?_⟩
  intro v8 wx' H1 v9 wm' H2 hG8 hG9
  obtain ⟨h8a, h8⟩ := hG8
  obtain ⟨h9a, h9⟩ := hG9
  rcases h8a with ⟨e1, rfl, rfl⟩ | ⟨e1, rfl, rfl⟩
  · rcases h9a with ⟨e2, rfl, rfl⟩ | ⟨e2, rfl, rfl⟩
    · exact ⟨⟨_, rfl, rfl, _, rfl⟩, ⟨T, Vs, Rg, S, vo, uo, fp, fd, hok, hvu, Or.inl ⟨kf, ra, rb, to, so, sl, rfl, hkf, hrg, htp⟩, ⟨_, _, _, _, _, _, _, _, _, _, _, _, _, _, _, _, _, _, _, _, _, _, _, _, _, _, _, _, _, _, _, _, _, _, _, _, rfl, ⟨hls, hsz⟩, hver, hrg9, htp9, hvw⟩, h8⟩, h9⟩
    · exact absurd e2 e1
  · rcases h9a with ⟨e2, rfl, rfl⟩ | ⟨e2, rfl, rfl⟩
    · exact absurd e1 e2
    · have hk := cl_lt e1.1
      have hto := tp_same htp htp9 hk hS4
      have hxo : ∃ o : Nat, o < 256 ∧ to x.toNatClampNeg ^^^ y = nI o := by
        obtain ⟨z, hz, hz2⟩ := hoc (to x.toNatClampNeg) (List.mem_of_getElem? (htp _ (by omega) hk))
        obtain ⟨w, hw, hw2⟩ := nI_of2 (M := 255) (n := 255) rfl (Int32.not_lt.mpr e1.2.1) e1.2.2
        exact ⟨z ^^^ w, Nat.xor_lt_two_pow (n := 8) hz (by omega), by rw [hz2, hw2]; exact nx_xor _ _⟩
      refine ⟨⟨_, rfl, by rw [hto], _, rfl⟩, ⟨T, Vs, Rg, (S.set x.toNatClampNeg (to x.toNatClampNeg ^^^ y)), vo, uo, fp, fd, ⟨⟨hT, hokT, hlT⟩, hVs, by rw [List.length_set]; exact hS4, oc_set hoc hxo⟩, hvu, Or.inl ⟨kf, ra, rb, _, so, sl, by rw [List.length_set], hkf, hrg, tp_set htp⟩, ⟨_, _, _, _, _, _, _, _, _, _, _, _, _, _, _, _, _, _, _, _, _, _, _, _, _, _, _, _, _, _, _, _, _, _, _, _, by rw [List.length_set], ⟨hls, hsz⟩, hver, hrg9, (by rw [← hto]; exact tp_set htp9), hvw⟩, h8⟩, h9⟩

set_option maxRecDepth 100000 in
set_option maxHeartbeats 4000000 in
theorem pr_want (x y : Int32) : Pr l D ca yX8_want cX8_want 3 (some .int) yX9_want cX9_want 3 (some .int) [.int x, .int y] isI := by
  intro adx adm T Vs Rg S vo uo fp fd wx wm hA1 hA2 hok hvu hx hm
  obtain ⟨⟨hT, hokT, hlT⟩, hVs, hS4, hoc⟩ := id hok
  obtain ⟨kf, ra, rb, to, so, sl, rfl, hkf, hrg, htp⟩ := hx
  obtain ⟨pa, va, sz, fr, tw, ta, wd, wb, wp, ou, o1, o2, pf, pt, ki, bi, ste, hel, low, hgh, su, ro, fe, dp, la, rst, hlf, nd, frd, at_, end_, ab, co, ll, lh, hm, rfl, ⟨hls, hsz⟩, hver, hrg9, htp9, hvw⟩ := hm
  have hN := Nn.ns (D := D) (T := T) (Vs := Vs) (vo := vo)
  refine ⟨2, 0, 0, 1, _, _, ⟨by decide, by decide, by decide, by decide⟩, kX8_want hA1 hN hrg.1 x y, fun H1 => kX9_want hA2 Snap.ns hrg9.1 x y, ?_⟩
  intro v8 wx' H1 v9 wm' H2 hG8 hG9
  obtain ⟨h8a, h8⟩ := hG8
  obtain ⟨h9a, h9⟩ := hG9
  rcases h8a with ⟨e1, rfl, rfl⟩ | ⟨e1, e3, rfl, rfl⟩ | ⟨e1, e3, rfl, rfl⟩
  · rcases h9a with ⟨e2, rfl, rfl⟩ | ⟨e2, e4, rfl, rfl⟩ | ⟨e2, e4, rfl, rfl⟩
    · exact ⟨⟨_, rfl, rfl, _, rfl⟩, ⟨T, Vs, Rg, S, vo, uo, fp, fd, hok, hvu, Or.inl ⟨kf, ra, rb, to, so, sl, rfl, hkf, hrg, htp⟩, ⟨_, _, _, _, _, _, _, _, _, _, _, _, _, _, _, _, _, _, _, _, _, _, _, _, _, _, _, _, _, _, _, _, _, _, _, _, rfl, ⟨hls, hsz⟩, hver, hrg9, htp9, hvw⟩, h8⟩, h9⟩
    · exact absurd e2 e1
    · exact absurd e2 e1
  · rcases h9a with ⟨e2, rfl, rfl⟩ | ⟨e2, e4, rfl, rfl⟩ | ⟨e2, e4, rfl, rfl⟩
    · exact absurd e1 e2
    · exact ⟨⟨_, rfl, rfl, _, rfl⟩, ⟨T, Vs, Rg, S, vo, uo, fp, fd, hok, hvu, Or.inl ⟨kf, ra, rb, to, so, sl, rfl, hkf, hrg, htp⟩, ⟨_, _, _, _, _, _, _, _, _, _, _, _, _, _, _, _, _, _, _, _, _, _, _, _, _, _, _, _, _, _, _, _, _, _, _, _, rfl, ⟨hls, hsz⟩, hver, hrg9, htp9, hvw⟩, h8⟩, h9⟩
    · exact absurd e3 (by omega)
  · rcases h9a with ⟨e2, rfl, rfl⟩ | ⟨e2, e4, rfl, rfl⟩ | ⟨e2, e4, rfl, rfl⟩
    · exact absurd e1 e2
    · exact absurd e4 (by omega)
    · obtain ⟨a, ha, rfl⟩ := isP e1.1
      obtain ⟨b, hb, rfl⟩ := isP e1.2.1
      have hcl : (nI Rg.length).toNatClampNeg = Rg.length := nI_clamp (by omega)
      have hl1 : (Rg ++ [(a, b)]).length = Rg.length + 1 := by simp
      exact ⟨⟨_, rfl, rfl, _, rfl⟩, ⟨T, Vs, (Rg ++ [(a, b)]), S, vo, uo, fp, fd, hok, hvu, Or.inl ⟨kf, _, _, to, so, sl, by rw [hcl, hl1], hkf, rg_add hrg e3 ha hb, htp⟩, ⟨_, _, _, _, _, _, _, _, _, _, _, _, _, _, _, _, _, _, _, _, _, _, _, _, _, _, _, _, _, _, _, _, _, _, _, _, by rw [hcl, hl1], ⟨hls, hsz⟩, hver, rg_add hrg9 e3 ha hb, htp9, hvw⟩, h8⟩, h9⟩

set_option maxRecDepth 100000 in
set_option maxHeartbeats 4000000 in
theorem pr_feed (x : Int32) (v : Int64) : Pr l D ca yX8_feed cX8_feed 4 (some .int) yX9_feed cX9_feed 5 (some .int) [.int x, .long v] isI := by
  intro adx adm T Vs Rg S vo uo fp fd wx wm hA1 hA2 hok hvu hx hm
  obtain ⟨⟨hT, hokT, hlT⟩, hVs, hS4, hoc⟩ := id hok
  obtain ⟨kf, ra, rb, to, so, sl, rfl, hkf, hrg, htp⟩ := hx
  obtain ⟨pa, va, sz, fr, tw, ta, wd, wb, wp, ou, o1, o2, pf, pt, ki, bi, ste, hel, low, hgh, su, ro, fe, dp, la, rst, hlf, nd, frd, at_, end_, ab, co, ll, lh, hm, rfl, ⟨hls, hsz⟩, hver, hrg9, htp9, hvw⟩ := hm
  have hN := Nn.ns (D := D) (T := T) (Vs := Vs) (vo := vo)
  refine ⟨1, 0, 0, 0, _, _, ⟨by decide, by decide, by decide, by decide⟩, kX8_feed hA1 hN htp hS4 x v, fun H1 => kX9_feed hA2 Snap.ns htp9 hS4 x v, ?_⟩
  intro v8 wx' H1 v9 wm' H2 hG8 hG9
  obtain ⟨h8a, h8⟩ := hG8
  obtain ⟨h9a, h9⟩ := hG9
  have hx1 : ∀ j, (x = nI j ∧ 1 ≤ j ∧ j ≤ 8) → 1 ≤ x ∧ x ≤ 8 := fun j h => by
    rw [h.1]
    exact ⟨show nI 1 ≤ nI j from nI_le h.2.1 (by omega), show nI j ≤ nI 8 from nI_le h.2.2 (by decide)⟩
  have hjj : ∀ j j', (x = nI j ∧ 1 ≤ j ∧ j ≤ 8) → (x = nI j' ∧ 1 ≤ j' ∧ j' ≤ 8) → j = j' := fun j j' h h' => (nI_eq (by omega) (by omega)).mp (h.1.symm.trans h'.1)
  rcases h8a with ⟨e1, rfl, rfl⟩ | ⟨j, e1, e3, rfl, rfl⟩ | ⟨j, to2, e1, e3, rfl, rfl, k2⟩
  · rcases h9a with ⟨e2, rfl, rfl⟩ | ⟨j', e2, e4, rfl, rfl⟩ | ⟨j', ta2, e2, e4, rfl, rfl, k4⟩
    · exact ⟨⟨_, rfl, rfl, _, rfl⟩, ⟨T, Vs, Rg, S, vo, uo, fp, fd, hok, hvu, Or.inl ⟨kf, ra, rb, to, so, sl, rfl, hkf, hrg, htp⟩, ⟨_, _, _, _, _, _, _, _, _, _, _, _, _, _, _, _, _, _, _, _, _, _, _, _, _, _, _, _, _, _, _, _, _, _, _, _, rfl, ⟨hls, hsz⟩, hver, hrg9, htp9, hvw⟩, h8⟩, h9⟩
    · exact absurd (hx1 _ e2) e1
    · exact absurd (hx1 _ e2) e1
  · rcases h9a with ⟨e2, rfl, rfl⟩ | ⟨j', e2, e4, rfl, rfl⟩ | ⟨j', ta2, e2, e4, rfl, rfl, k4⟩
    · exact absurd (hx1 _ e1) e2
    · exact ⟨⟨_, rfl, rfl, _, rfl⟩, ⟨T, Vs, Rg, S, vo, uo, fp, fd, hok, hvu, Or.inl ⟨kf, ra, rb, to, so, sl, rfl, hkf, hrg, htp⟩, ⟨_, _, _, _, _, _, _, _, _, _, _, _, _, _, _, _, _, _, _, _, _, _, _, _, _, _, _, _, _, _, _, _, _, _, _, _, rfl, ⟨hls, hsz⟩, hver, hrg9, htp9, hvw⟩, h8⟩, h9⟩
    · have := hjj _ _ e1 e2
      omega
  · rcases h9a with ⟨e2, rfl, rfl⟩ | ⟨j', e2, e4, rfl, rfl⟩ | ⟨j', ta2, e2, e4, rfl, rfl, k4⟩
    · exact absurd (hx1 _ e1) e2
    · have := hjj _ _ e1 e2
      omega
    · have hj := hjj _ _ e1 e2
      subst hj
      have hlj : (S ++ octs j v).length = S.length + j := by rw [List.length_append, octs_len]
      exact ⟨⟨_, rfl, rfl, _, rfl⟩, ⟨T, Vs, Rg, (S ++ octs j v), vo, uo, fp, fd, ⟨⟨hT, hokT, hlT⟩, hVs, by rw [hlj]; omega, hoc.app (octs_ok j v)⟩, hvu, Or.inl ⟨kf, ra, rb, to2, so, sl, rfl, hkf, hrg, k2⟩, ⟨_, _, _, _, _, _, _, _, _, _, _, _, _, _, _, _, _, _, _, _, _, _, _, _, _, _, _, _, _, _, _, _, _, _, _, _, rfl, ⟨hls, hsz⟩, hver, hrg9, k4, hvw⟩, h8⟩, h9⟩

end
