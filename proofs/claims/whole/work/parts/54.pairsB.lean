/-! the pairs of methods: the tree, its versions -/
theorem fk_T {T L : Term} (hT : isT T) (hL : isT L) (pn P : Nat) : isT (fkT T pn P L) := by
  unfold fkT
  split
  · exact ⟨hT, hL⟩
  · exact ⟨hL, hT⟩
theorem wrt_T (T : Term) (hT : isT T) (P : Nat) {L : Term} (hL : isT L) : isT (wrtT T P L) := by
  refine tr_ind (P := fun T => isT (wrtT T P L)) ?_ ?_ ?_ ?_ T hT
  · exact fun q => hL
  · exact fun q d => hL
  · intro q p v
    simp only [wrtT]
    split
    · exact hL
    · exact fk_T (T := tL q p v) trivial hL _ _
  · intro q B S x y t1 t2 i1 i2
    simp only [wrtT]
    split
    · split
      · exact ⟨t1, i2⟩
      · exact ⟨i1, t2⟩
    · exact fk_T (T := tF q B S x y) ⟨t1, t2⟩ hL _ _
theorem dlt_T (T : Term) (hT : isT T) (P : Nat) : isT (delT T P) := by
  refine tr_ind (P := fun T => isT (delT T P)) ?_ ?_ ?_ ?_ T hT
  · exact fun q => trivial
  · exact fun q d => trivial
  · exact fun q p v => trivial
  · intro q B S x y t1 t2 i1 i2
    simp only [delT]
    split
    · split
      · exact ⟨t1, i2⟩
      · exact t1
    · split
      · exact ⟨i1, t2⟩
      · exact t2
theorem okM_eq {A B : Term} (hA : isT A) (hB : isT B) (h : strp A = strp B) (hk : okM B) : okM A := (okM_strp hA).mp (by rw [h]; exact (okM_strp hB).mpr hk)
theorem okW_eq {A B : Term} (hA : isT A) (hB : isT B) (h : strp A = strp B) (hk : okW B) : okW A := (okW_strp hA).mp (by rw [h]; exact (okW_strp hB).mpr hk)
theorem lvs_eq {A B : Term} (hA : isT A) (hB : isT B) (h : strp A = strp B) : lvs A = lvs B := by rw [← strp_lvs A hA, h, strp_lvs B hB]
theorem ver_kp {pa pa2 : Nat → Int32} {va va2 : Nat → Int64} {sz sz2 : Nat → Int32} {Vs : List Term} (hk : kpR pa pa2 va va2 sz sz2) (hl : Vs.length ≤ 8) (hV : ∀ V ∈ Vs, (lvs V).length ≤ 300) (h : ∀ (j : Nat) (V : Term), Vs[j]? = some V → lsR pa va (300 * j) (lvs V) ∧ sz j = nI (lvs V).length) : ∀ (j : Nat) (V : Term), Vs[j]? = some V → lsR pa2 va2 (300 * j) (lvs V) ∧ sz2 j = nI (lvs V).length := fun j V hj => by
  have h1 := (List.getElem?_eq_some_iff.mp hj).1
  have h2 := hV V (List.mem_of_getElem? hj)
  obtain ⟨h3, h4⟩ := h j V hj
  refine ⟨fun i q hi => ?_, (hk.2 j (by omega)).trans h4⟩
  have h5 := (List.getElem?_eq_some_iff.mp hi).1
  obtain ⟨h6, h7⟩ := h3 i q hi
  obtain ⟨h8, h9⟩ := hk.1 (300 * j + i) (by omega)
  exact ⟨h8.trans h6, h9.trans h7⟩
/-- which whole a version's number is -/
theorem vr {T : Term} {Vs : List Term} {S : List Int32} {pa : Nat → Int32} {va : Nat → Int64} {sz : Nat → Int32} (hok : okS T Vs S) (hl : Vs.length ≤ 8) (hls : lsR pa va 2400 (lvs T) ∧ sz 8 = nI (lvs T).length) (h : ∀ (j : Nat) (V : Term), Vs[j]? = some V → lsR pa va (300 * j) (lvs V) ∧ sz j = nI (lvs V).length) (x : Int32) : (∃ V b ix, whl T Vs x = some V ∧ verR Vs.length x b ix ∧ lsR pa va b (lvs V) ∧ sz ix = nI (lvs V).length ∧ isT V ∧ okM V ∧ (lvs V).length ≤ 300) ∨ (whl T Vs x = none ∧ ¬ x = -1 ∧ ¬ (0 ≤ x ∧ x < nI Vs.length)) := by
  by_cases h1 : x = -1
  · exact Or.inl ⟨T, 2400, 8, by unfold whl; rw [if_pos h1], Or.inl ⟨h1, rfl, rfl⟩, hls.1, hls.2, hok.1⟩
  · by_cases h2 : 0 ≤ x ∧ x < nI Vs.length
    · obtain ⟨j, h3, rfl⟩ := nI_of (Int32.not_lt.mpr h2.1)
      have h4 : j < Vs.length := (nI_ltI (by omega) (by omega)).mp h2.2
      have h5 : Vs[j]? = some Vs[j] := List.getElem?_eq_getElem h4
      obtain ⟨h6, h7⟩ := h j _ h5
      exact Or.inl ⟨Vs[j], 300 * j, j, by unfold whl; rw [if_neg h1, if_pos h2, nI_clamp h3]; exact h5, Or.inr ⟨rfl, h4, rfl⟩, h6, h7, hok.2.1 _ (List.mem_of_getElem? h5)⟩
    · exact Or.inr ⟨by unfold whl; rw [if_neg h1, if_neg h2], h1, h2⟩
theorem kf_add {kf : Nat → Option Nat} {Vs : List Term} {T : Term} (h : kfR kf Vs) (hl : Vs.length < 8) : kfR (va_up kf Vs.length (some (adr T))) (Vs ++ [T]) := by
  refine ⟨by simp; omega, fun j V hj => ?_⟩
  by_cases h1 : j < Vs.length
  · rw [List.getElem?_append_left h1] at hj
    exact (if_neg (by omega)).trans (h.2 j V hj)
  · rw [List.getElem?_append_right (by omega)] at hj
    by_cases h2 : j = Vs.length
    · subst h2
      rw [Nat.sub_self] at hj
      have hj : T = V := Option.some.inj hj
      subst hj
      exact if_pos rfl
    · rw [List.getElem?_eq_none (by show 1 ≤ j - Vs.length; omega)] at hj
      cases hj
theorem cp_no {α : Type} {f : Nat → α} {a s n z : Nat} (h : ¬ (a ≤ z ∧ z < a + n)) : cpU f a s n z = f z := if_neg h
theorem ver_add {pa : Nat → Int32} {va : Nat → Int64} {sz : Nat → Int32} {Vs : List Term} {T : Term} (hl : Vs.length < 8) (hT : (lvs T).length ≤ 300) (hV : ∀ V ∈ Vs, (lvs V).length ≤ 300) (hls : lsR pa va 2400 (lvs T)) (h : ∀ (j : Nat) (V : Term), Vs[j]? = some V → lsR pa va (300 * j) (lvs V) ∧ sz j = nI (lvs V).length) : (lsR (cpU pa (300 * Vs.length) 2400 (lvs T).length) (cpU va (300 * Vs.length) 2400 (lvs T).length) 2400 (lvs T)) ∧ ∀ (j : Nat) (V : Term), (Vs ++ [T])[j]? = some V → lsR (cpU pa (300 * Vs.length) 2400 (lvs T).length) (cpU va (300 * Vs.length) 2400 (lvs T).length) (300 * j) (lvs V) ∧ upd sz Vs.length (nI (lvs T).length) j = nI (lvs V).length := by
  refine ⟨fun i q hi => ?_, fun j V hj => ?_⟩
  · obtain ⟨h1, h2⟩ := hls i q hi
    rw [cp_no (by omega), cp_no (by omega)]
    exact ⟨h1, h2⟩
  · by_cases h1 : j < Vs.length
    · rw [List.getElem?_append_left h1] at hj
      obtain ⟨h3, h4⟩ := h j V hj
      have h5 := hV V (List.mem_of_getElem? hj)
      refine ⟨fun i q hi => ?_, (if_neg (by omega)).trans h4⟩
      have h6 := (List.getElem?_eq_some_iff.mp hi).1
      obtain ⟨h7, h8⟩ := h3 i q hi
      rw [cp_no (by omega), cp_no (by omega)]
      exact ⟨h7, h8⟩
    · rw [List.getElem?_append_right (by omega)] at hj
      by_cases h2 : j = Vs.length
      · subst h2
        rw [Nat.sub_self] at hj
        have hj : T = V := Option.some.inj hj
        subst hj
        refine ⟨fun i q hi => ?_, if_pos rfl⟩
        have h6 := (List.getElem?_eq_some_iff.mp hi).1
        obtain ⟨h7, h8⟩ := hls i q hi
        unfold cpU
        rw [if_pos (by omega), if_pos (by omega), Nat.add_sub_cancel_left]
        exact ⟨h7, h8⟩
      · rw [List.getElem?_eq_none (by show 1 ≤ j - Vs.length; omega)] at hj
        cases hj
section
variable {l : Launch} {D : va_G} {ca : Nat → ClassId}
set_option maxRecDepth 100000 in
set_option maxHeartbeats 4000000 in
theorem pr_put (x : Int32) (v : Int64) : Pr l D ca yX8_put cX8_put 6 (some .int) yX9_put cX9_put 6 (some .int) [.int x, .long v] isI := by
  intro adx adm T Vs Rg S vo uo fp fd wx wm hA1 hA2 hok hvu hx hm
  obtain ⟨⟨hT, hokT, hlT⟩, hVs, hS4, hoc⟩ := id hok
  obtain ⟨kf, ra, rb, to, so, sl, rfl, hkf, hrg, htp⟩ := hx
  obtain ⟨pa, va, sz, fr, tw, ta, wd, wb, wp, ou, o1, o2, pf, pt, ki, bi, ste, hel, low, hgh, su, ro, fe, dp, la, rst, hlf, nd, frd, at_, end_, ab, co, ll, lh, hm, rfl, ⟨hls, hsz⟩, hver, hrg9, htp9, hvw⟩ := hm
  have hN := Nn.ns (D := D) (T := T) (Vs := Vs) (vo := vo)
  have hfT : fitT T 16 := okW_fit hT (okM_W hokT)
  have hVf : ∀ V ∈ Vs, fitT V 16 ∧ ∀ H, Nn D T Vs vo H → nodeAt D H V := fun V hV => ⟨okW_fit (hVs V hV).1 (okM_W (hVs V hV).2.1), fun H h => h.2.1 V hV⟩
  have hV3 : ∀ V ∈ Vs, (lvs V).length ≤ 300 := fun V hV => (hVs V hV).2.2
  by_cases hx : 0 ≤ x ∧ x ≤ 65535
  rotate_left
  · refine ⟨1, 0, 0, 1, _, _, ⟨by decide, by decide, by decide, by decide⟩, kX8_put_bad hA1 hN x v hx, fun H1 => kX9_put_bad hA2 Snap.ns x v hx, ?_⟩
    intro v8 wx' H1 v9 wm' H2 hG8 hG9
    obtain ⟨⟨rfl, rfl⟩, h8⟩ := hG8
    obtain ⟨⟨rfl, rfl⟩, h9⟩ := hG9
    exact ⟨⟨_, rfl, rfl, _, rfl⟩, ⟨T, Vs, Rg, S, vo, uo, fp, fd, hok, hvu, Or.inl ⟨kf, ra, rb, to, so, sl, rfl, hkf, hrg, htp⟩, ⟨_, _, _, _, _, _, _, _, _, _, _, _, _, _, _, _, _, _, _, _, _, _, _, _, _, _, _, _, _, _, _, _, _, _, _, _, rfl, ⟨hls, hsz⟩, hver, hrg9, htp9, hvw⟩, h8⟩, h9⟩
  · obtain ⟨P, hP, rfl⟩ := isP hx
    have hsT := strp_T T hT
    have hW := wrtM hsT (P := P) (q0 := 0) (v := v) hP ((okM_strp hT).mpr hokT)
    have hWT := wrt_T (strp T) hsT P (L := tL 0 P v) trivial
    have hWl : lvs (wrtT (strp T) P (tL 0 P v)) = insL P v (lvs T) := by rw [hW.2, strp_lvs T hT]
    have hWc : cntT (wrtT (strp T) P (tL 0 P v)) 0 65535 = (insL P v (lvs T)).length := by rw [cntM hWT hW.1, hWl]
    have hso := okM_srt hT hokT
    have hway : lfT (wayT T P) P = true ↔ ∃ w, (lvs T)[ixL P (lvs T)]? = some (P, w) := (wayM hT hP hokT).trans (ix_at hso.1)
    refine ⟨21, 18, 88, 1, _, _, ⟨by decide, by decide, by decide, by decide⟩, kX8_put hA1 hN hfT (fun H h => h.1) hP v (okW_fit hWT (okM_W hW.1)), fun H1 => kX9_put hA2 Snap.ns hls hsz hlT hso.2 hso.1 hP v, ?_⟩
    intro v8 wx' H1 v9 wm' H2 hG8 hG9
    obtain ⟨h9a, h9⟩ := hG9
    rcases hG8 with ⟨e1, rfl, rfl, h8⟩ | ⟨T1, ⟨e1, rfl, rfl, hs1⟩, h8, hn1⟩
    · rcases h9a with ⟨e2, e3, rfl, rfl⟩ | ⟨pa2, va2, sz2, hc, rfl, m2, m3, m4⟩
      · exact ⟨⟨_, rfl, rfl, _, rfl⟩, ⟨T, Vs, Rg, S, vo, uo, fp, fd, hok, hvu, Or.inl ⟨kf, ra, rb, to, so, sl, rfl, hkf, hrg, htp⟩, ⟨_, _, _, _, _, _, _, _, _, _, _, _, _, _, _, _, _, _, _, _, _, _, _, _, _, _, _, _, _, _, _, _, _, _, _, _, rfl, ⟨hls, hsz⟩, hver, hrg9, htp9, hvw⟩, h8⟩, h9⟩
      · rw [hWc] at e1
        rcases hc with ⟨c1, rfl⟩ | ⟨c1, c2, rfl⟩
        · rw [ins_len1 hso.1 c1] at e1
          omega
        · rw [ins_len2 c1] at e1
          omega
    · have hT1 := nodeAt.T T1 hn1
      have hl1 : lvs T1 = insL P v (lvs T) := by rw [lvs_eq hT1 hWT hs1, hWl]
      rw [hWc] at e1
      rcases h9a with ⟨e2, e3, rfl, rfl⟩ | ⟨pa2, va2, sz2, hc, rfl, m2, m3, m4⟩
      · rw [ins_len2 e2] at e1
        omega
      · rcases hc with ⟨c1, rfl⟩ | ⟨c1, c2, rfl⟩
        · exact ⟨⟨_, rfl, by rw [if_pos (hway.mpr c1)], _, rfl⟩, ⟨T1, Vs, Rg, S, vo, uo, fp, fd, ⟨⟨hT1, okM_eq hT1 hWT hs1 hW.1, by rw [hl1]; omega⟩, hVs, hS4, hoc⟩, hvu, Or.inl ⟨kf, ra, rb, to, so, sl, rfl, hkf, hrg, htp⟩, ⟨_, _, _, _, _, _, _, _, _, _, _, _, _, _, _, _, _, _, _, _, _, _, _, _, _, _, _, _, _, _, _, _, _, _, _, _, rfl, ⟨by rw [hl1]; exact m2, by rw [hl1]; exact m3⟩, ver_kp m4 hkf.1 hV3 hver, hrg9, htp9, hvw⟩, ⟨hn1, h8.2.1, h8.2.2⟩⟩, h9⟩
        · exact ⟨⟨_, rfl, by rw [if_neg (fun e9 => c1 (hway.mp e9))], _, rfl⟩, ⟨T1, Vs, Rg, S, vo, uo, fp, fd, ⟨⟨hT1, okM_eq hT1 hWT hs1 hW.1, by rw [hl1]; omega⟩, hVs, hS4, hoc⟩, hvu, Or.inl ⟨kf, ra, rb, to, so, sl, rfl, hkf, hrg, htp⟩, ⟨_, _, _, _, _, _, _, _, _, _, _, _, _, _, _, _, _, _, _, _, _, _, _, _, _, _, _, _, _, _, _, _, _, _, _, _, rfl, ⟨by rw [hl1]; exact m2, by rw [hl1]; exact m3⟩, ver_kp m4 hkf.1 hV3 hver, hrg9, htp9, hvw⟩, ⟨hn1, h8.2.1, h8.2.2⟩⟩, h9⟩

set_option maxRecDepth 100000 in
set_option maxHeartbeats 4000000 in
theorem pr_remove (x : Int32) : Pr l D ca yX8_remove cX8_remove 2 (some .int) yX9_remove cX9_remove 4 (some .int) [.int x] isI := by
  intro adx adm T Vs Rg S vo uo fp fd wx wm hA1 hA2 hok hvu hx hm
  obtain ⟨⟨hT, hokT, hlT⟩, hVs, hS4, hoc⟩ := id hok
  obtain ⟨kf, ra, rb, to, so, sl, rfl, hkf, hrg, htp⟩ := hx
  obtain ⟨pa, va, sz, fr, tw, ta, wd, wb, wp, ou, o1, o2, pf, pt, ki, bi, ste, hel, low, hgh, su, ro, fe, dp, la, rst, hlf, nd, frd, at_, end_, ab, co, ll, lh, hm, rfl, ⟨hls, hsz⟩, hver, hrg9, htp9, hvw⟩ := hm
  have hN := Nn.ns (D := D) (T := T) (Vs := Vs) (vo := vo)
  have hfT : fitT T 16 := okW_fit hT (okM_W hokT)
  have hVf : ∀ V ∈ Vs, fitT V 16 ∧ ∀ H, Nn D T Vs vo H → nodeAt D H V := fun V hV => ⟨okW_fit (hVs V hV).1 (okM_W (hVs V hV).2.1), fun H h => h.2.1 V hV⟩
  have hV3 : ∀ V ∈ Vs, (lvs V).length ≤ 300 := fun V hV => (hVs V hV).2.2
  by_cases hx : 0 ≤ x ∧ x ≤ 65535
  rotate_left
  · refine ⟨1, 0, 0, 1, _, _, ⟨by decide, by decide, by decide, by decide⟩, kX8_remove_bad hA1 hN x hx, fun H1 => kX9_remove_bad hA2 Snap.ns x hx, ?_⟩
    intro v8 wx' H1 v9 wm' H2 hG8 hG9
    obtain ⟨⟨rfl, rfl⟩, h8⟩ := hG8
    obtain ⟨⟨rfl, rfl⟩, h9⟩ := hG9
    exact ⟨⟨_, rfl, rfl, _, rfl⟩, ⟨T, Vs, Rg, S, vo, uo, fp, fd, hok, hvu, Or.inl ⟨kf, ra, rb, to, so, sl, rfl, hkf, hrg, htp⟩, ⟨_, _, _, _, _, _, _, _, _, _, _, _, _, _, _, _, _, _, _, _, _, _, _, _, _, _, _, _, _, _, _, _, _, _, _, _, rfl, ⟨hls, hsz⟩, hver, hrg9, htp9, hvw⟩, h8⟩, h9⟩
  · obtain ⟨P, hP, rfl⟩ := isP hx
    have hsT := strp_T T hT
    have hso := okM_srt hT hokT
    have hway : lfT (wayT T P) P = true ↔ ∃ w, (lvs T)[ixL P (lvs T)]? = some (P, w) := (wayM hT hP hokT).trans (ix_at hso.1)
    have hway2 : lfT (wayT (strp T) P) P = lfT (wayT T P) P := by rw [← strp_way T hT P, lf_strp _ (way_T T hT P)]
    have hWT := dlt_T (strp T) hsT P
    refine ⟨21, 17, 85, 1, _, _, ⟨by decide, by decide, by decide, by decide⟩, kX8_remove hA1 hN hfT (fun H h => h.1) hP, fun H1 => kX9_remove hA2 Snap.ns hls hsz hlT hso.2 hso.1 hP, ?_⟩
    intro v8 wx' H1 v9 wm' H2 hG8 hG9
    obtain ⟨h9a, h9⟩ := hG9
    rcases hG8 with ⟨e1, rfl, rfl, h8⟩ | ⟨T1, ⟨e1, rfl, rfl, hs1⟩, h8, hn1⟩
    · rcases h9a with ⟨e2, rfl, rfl⟩ | ⟨pa2, va2, sz2, ⟨c1, rfl⟩, rfl, m2, m3, m4⟩
      · exact ⟨⟨_, rfl, rfl, _, rfl⟩, ⟨T, Vs, Rg, S, vo, uo, fp, fd, hok, hvu, Or.inl ⟨kf, ra, rb, to, so, sl, rfl, hkf, hrg, htp⟩, ⟨_, _, _, _, _, _, _, _, _, _, _, _, _, _, _, _, _, _, _, _, _, _, _, _, _, _, _, _, _, _, _, _, _, _, _, _, rfl, ⟨hls, hsz⟩, hver, hrg9, htp9, hvw⟩, h8⟩, h9⟩
      · exact absurd (hway.mpr c1) e1
    · have hW := delM hsT hP ((okM_strp hT).mpr hokT) (hway2.trans e1)
      have hT1 := nodeAt.T T1 hn1
      have hl1 : lvs T1 = delL P (lvs T) := by rw [lvs_eq hT1 hWT hs1, hW.2, strp_lvs T hT]
      rcases h9a with ⟨e2, rfl, rfl⟩ | ⟨pa2, va2, sz2, ⟨c1, rfl⟩, rfl, m2, m3, m4⟩
      · exact absurd (hway.mp e1) e2
      · exact ⟨⟨_, rfl, rfl, _, rfl⟩, ⟨T1, Vs, Rg, S, vo, uo, fp, fd, ⟨⟨hT1, okM_eq hT1 hWT hs1 hW.1, by rw [hl1]; have := List.length_filter_le (fun q => !(q.1 == P)) (lvs T); unfold delL; omega⟩, hVs, hS4, hoc⟩, hvu, Or.inl ⟨kf, ra, rb, to, so, sl, rfl, hkf, hrg, htp⟩, ⟨_, _, _, _, _, _, _, _, _, _, _, _, _, _, _, _, _, _, _, _, _, _, _, _, _, _, _, _, _, _, _, _, _, _, _, _, rfl, ⟨by rw [hl1]; exact m2, by rw [hl1]; exact m3⟩, ver_kp m4 hkf.1 hV3 hver, hrg9, htp9, hvw⟩, ⟨hn1, h8.2.1, h8.2.2⟩⟩, h9⟩

set_option maxRecDepth 100000 in
set_option maxHeartbeats 4000000 in
theorem pr_keep  : Pr l D ca yX8_keep cX8_keep 1 (some .int) yX9_keep cX9_keep 2 (some .int) [] isI := by
  intro adx adm T Vs Rg S vo uo fp fd wx wm hA1 hA2 hok hvu hx hm
  obtain ⟨⟨hT, hokT, hlT⟩, hVs, hS4, hoc⟩ := id hok
  obtain ⟨kf, ra, rb, to, so, sl, rfl, hkf, hrg, htp⟩ := hx
  obtain ⟨pa, va, sz, fr, tw, ta, wd, wb, wp, ou, o1, o2, pf, pt, ki, bi, ste, hel, low, hgh, su, ro, fe, dp, la, rst, hlf, nd, frd, at_, end_, ab, co, ll, lh, hm, rfl, ⟨hls, hsz⟩, hver, hrg9, htp9, hvw⟩ := hm
  have hN := Nn.ns (D := D) (T := T) (Vs := Vs) (vo := vo)
  have hfT : fitT T 16 := okW_fit hT (okM_W hokT)
  have hVf : ∀ V ∈ Vs, fitT V 16 ∧ ∀ H, Nn D T Vs vo H → nodeAt D H V := fun V hV => ⟨okW_fit (hVs V hV).1 (okM_W (hVs V hV).2.1), fun H h => h.2.1 V hV⟩
  have hV3 : ∀ V ∈ Vs, (lvs V).length ≤ 300 := fun V hV => (hVs V hV).2.2
  refine ⟨0, 0, 0, 0, _, _, ⟨by decide, by decide, by decide, by decide⟩, kX8_keep hA1 hN hfT (fun H h => h.1) hkf, fun H1 => kX9_keep hA2 Snap.ns hkf.1 hsz hlT, ?_⟩
  intro v8 wx' H1 v9 wm' H2 hG8 hG9
  obtain ⟨h8a, h8⟩ := hG8
  obtain ⟨h9a, h9⟩ := hG9
  rcases h8a with ⟨e1, rfl, rfl⟩ | ⟨e1, rfl, rfl⟩
  · rcases h9a with ⟨e2, rfl, rfl⟩ | ⟨e2, rfl, rfl⟩
    · exact ⟨⟨_, rfl, rfl, _, rfl⟩, ⟨T, Vs, Rg, S, vo, uo, fp, fd, hok, hvu, Or.inl ⟨kf, ra, rb, to, so, sl, rfl, hkf, hrg, htp⟩, ⟨_, _, _, _, _, _, _, _, _, _, _, _, _, _, _, _, _, _, _, _, _, _, _, _, _, _, _, _, _, _, _, _, _, _, _, _, rfl, ⟨hls, hsz⟩, hver, hrg9, htp9, hvw⟩, h8⟩, h9⟩
    · omega
  · rcases h9a with ⟨e2, rfl, rfl⟩ | ⟨e2, rfl, rfl⟩
    · omega
    · have hln : (Vs ++ [T]).length = Vs.length + 1 := by simp
      have hva := ver_add e1 hlT hV3 hls hver
      exact ⟨⟨_, rfl, rfl, _, rfl⟩, ⟨T, (Vs ++ [T]), Rg, S, vo, uo, fp, fd, ⟨⟨hT, hokT, hlT⟩, fun V hV => (List.mem_append.mp hV).elim (hVs V) (fun h => by rcases List.mem_singleton.mp h with rfl; exact ⟨hT, hokT, hlT⟩), hS4, hoc⟩, hvu, Or.inl ⟨_, ra, rb, to, so, sl, by rw [hln], kf_add hkf e1, hrg, htp⟩, ⟨_, _, _, _, _, _, _, _, _, _, _, _, _, _, _, _, _, _, _, _, _, _, _, _, _, _, _, _, _, _, _, _, _, _, _, _, by rw [hln], ⟨hva.1, (if_neg (by omega)).trans hsz⟩, hva.2, hrg9, htp9, hvw⟩, ⟨h8.1, fun V hV => (List.mem_append.mp hV).elim (h8.2.1 V) (fun h => by rcases List.mem_singleton.mp h with rfl; exact h8.1), h8.2.2⟩⟩, h9⟩

set_option maxRecDepth 100000 in
set_option maxHeartbeats 4000000 in
theorem pr_root (x : Int32) : Pr l D ca yX8_root cX8_root 3 (some .long) yX9_root cX9_root 3 (some .long) [.int x] isJ := by
  intro adx adm T Vs Rg S vo uo fp fd wx wm hA1 hA2 hok hvu hx hm
  obtain ⟨⟨hT, hokT, hlT⟩, hVs, hS4, hoc⟩ := id hok
  obtain ⟨kf, ra, rb, to, so, sl, rfl, hkf, hrg, htp⟩ := hx
  obtain ⟨pa, va, sz, fr, tw, ta, wd, wb, wp, ou, o1, o2, pf, pt, ki, bi, ste, hel, low, hgh, su, ro, fe, dp, la, rst, hlf, nd, frd, at_, end_, ab, co, ll, lh, hm, rfl, ⟨hls, hsz⟩, hver, hrg9, htp9, hvw⟩ := hm
  have hN := Nn.ns (D := D) (T := T) (Vs := Vs) (vo := vo)
  have hfT : fitT T 16 := okW_fit hT (okM_W hokT)
  have hVf : ∀ V ∈ Vs, fitT V 16 ∧ ∀ H, Nn D T Vs vo H → nodeAt D H V := fun V hV => ⟨okW_fit (hVs V hV).1 (okM_W (hVs V hV).2.1), fun H h => h.2.1 V hV⟩
  have hV3 : ∀ V ∈ Vs, (lvs V).length ≤ 300 := fun V hV => (hVs V hV).2.2
  rcases vr hok hkf.1 ⟨hls, hsz⟩ hver x with ⟨V, b, ix, hw, hvr, v1, v2, v3, v4, v5⟩ | ⟨hw, w1, w2⟩
  · refine ⟨1, 0, 0, 3, _, _, ⟨by decide, by decide, by decide, by decide⟩, kX8_root hA1 hN hfT (fun H h => h.1) hkf hVf x, fun H1 => kX9_root hA2 Snap.ns hkf.1 hvr v3 v4 v1 v2 v5, ?_⟩
    intro v8 wx' H1 v9 wm' H2 hG8 hG9
    obtain ⟨⟨rfl, rfl⟩, h8⟩ := hG8
    obtain ⟨wd2, wb2, wp2, ⟨rfl, rfl⟩, h9⟩ := hG9
    exact ⟨⟨_, rfl, by rw [hw], _, rfl⟩, ⟨T, Vs, Rg, S, vo, uo, fp, fd, hok, hvu, Or.inl ⟨kf, ra, rb, to, so, sl, rfl, hkf, hrg, htp⟩, ⟨_, _, _, _, _, _, _, _, _, _, _, _, _, _, _, _, _, _, _, _, _, _, _, _, _, _, _, _, _, _, _, _, _, _, _, _, rfl, ⟨hls, hsz⟩, hver, hrg9, htp9, hvw⟩, h8⟩, h9⟩
  · refine ⟨1, 0, 0, 1, _, _, ⟨by decide, by decide, by decide, by decide⟩, kX8_root hA1 hN hfT (fun H h => h.1) hkf hVf x, fun H1 => kX9_root_bad hA2 Snap.ns w1 w2, ?_⟩
    intro v8 wx' H1 v9 wm' H2 hG8 hG9
    obtain ⟨⟨rfl, rfl⟩, h8⟩ := hG8
    obtain ⟨⟨rfl, rfl⟩, h9⟩ := hG9
    exact ⟨⟨_, rfl, by rw [hw], _, rfl⟩, ⟨T, Vs, Rg, S, vo, uo, fp, fd, hok, hvu, Or.inl ⟨kf, ra, rb, to, so, sl, rfl, hkf, hrg, htp⟩, ⟨_, _, _, _, _, _, _, _, _, _, _, _, _, _, _, _, _, _, _, _, _, _, _, _, _, _, _, _, _, _, _, _, _, _, _, _, rfl, ⟨hls, hsz⟩, hver, hrg9, htp9, hvw⟩, h8⟩, h9⟩

set_option maxRecDepth 100000 in
set_option maxHeartbeats 4000000 in
theorem pr_leaves (x : Int32) : Pr l D ca yX8_leaves cX8_leaves 3 (some .int) yX9_leaves cX9_leaves 2 (some .int) [.int x] isI := by
  intro adx adm T Vs Rg S vo uo fp fd wx wm hA1 hA2 hok hvu hx hm
  obtain ⟨⟨hT, hokT, hlT⟩, hVs, hS4, hoc⟩ := id hok
  obtain ⟨kf, ra, rb, to, so, sl, rfl, hkf, hrg, htp⟩ := hx
  obtain ⟨pa, va, sz, fr, tw, ta, wd, wb, wp, ou, o1, o2, pf, pt, ki, bi, ste, hel, low, hgh, su, ro, fe, dp, la, rst, hlf, nd, frd, at_, end_, ab, co, ll, lh, hm, rfl, ⟨hls, hsz⟩, hver, hrg9, htp9, hvw⟩ := hm
  have hN := Nn.ns (D := D) (T := T) (Vs := Vs) (vo := vo)
  have hfT : fitT T 16 := okW_fit hT (okM_W hokT)
  have hVf : ∀ V ∈ Vs, fitT V 16 ∧ ∀ H, Nn D T Vs vo H → nodeAt D H V := fun V hV => ⟨okW_fit (hVs V hV).1 (okM_W (hVs V hV).2.1), fun H h => h.2.1 V hV⟩
  have hV3 : ∀ V ∈ Vs, (lvs V).length ≤ 300 := fun V hV => (hVs V hV).2.2
  rcases vr hok hkf.1 ⟨hls, hsz⟩ hver x with ⟨V, b, ix, hw, hvr, v1, v2, v3, v4, v5⟩ | ⟨hw, w1, w2⟩
  · refine ⟨18, 0, 0, 1, _, _, ⟨by decide, by decide, by decide, by decide⟩, kX8_leaves hA1 hN hfT (fun H h => h.1) hkf hVf x, fun H1 => kX9_leaves hA2 Snap.ns hkf.1 hvr, ?_⟩
    intro v8 wx' H1 v9 wm' H2 hG8 hG9
    obtain ⟨⟨rfl, rfl⟩, h8⟩ := hG8
    obtain ⟨⟨rfl, rfl⟩, h9⟩ := hG9
    exact ⟨⟨_, rfl, by rw [hw, v2, ← cntM v3 v4], _, rfl⟩, ⟨T, Vs, Rg, S, vo, uo, fp, fd, hok, hvu, Or.inl ⟨kf, ra, rb, to, so, sl, rfl, hkf, hrg, htp⟩, ⟨_, _, _, _, _, _, _, _, _, _, _, _, _, _, _, _, _, _, _, _, _, _, _, _, _, _, _, _, _, _, _, _, _, _, _, _, rfl, ⟨hls, hsz⟩, hver, hrg9, htp9, hvw⟩, h8⟩, h9⟩
  · refine ⟨18, 0, 0, 1, _, _, ⟨by decide, by decide, by decide, by decide⟩, kX8_leaves hA1 hN hfT (fun H h => h.1) hkf hVf x, fun H1 => kX9_leaves_bad hA2 Snap.ns w1 w2, ?_⟩
    intro v8 wx' H1 v9 wm' H2 hG8 hG9
    obtain ⟨⟨rfl, rfl⟩, h8⟩ := hG8
    obtain ⟨⟨rfl, rfl⟩, h9⟩ := hG9
    exact ⟨⟨_, rfl, by rw [hw], _, rfl⟩, ⟨T, Vs, Rg, S, vo, uo, fp, fd, hok, hvu, Or.inl ⟨kf, ra, rb, to, so, sl, rfl, hkf, hrg, htp⟩, ⟨_, _, _, _, _, _, _, _, _, _, _, _, _, _, _, _, _, _, _, _, _, _, _, _, _, _, _, _, _, _, _, _, _, _, _, _, rfl, ⟨hls, hsz⟩, hver, hrg9, htp9, hvw⟩, h8⟩, h9⟩

set_option maxRecDepth 100000 in
set_option maxHeartbeats 4000000 in
theorem pr_show (x : Int32) : Pr l D ca yX8_show cX8_show 3 (some .int) yX9_show cX9_show 9 (some .int) [.int x] isI := by
  intro adx adm T Vs Rg S vo uo fp fd wx wm hA1 hA2 hok hvu hx hm
  obtain ⟨⟨hT, hokT, hlT⟩, hVs, hS4, hoc⟩ := id hok
  obtain ⟨kf, ra, rb, to, so, sl, rfl, hkf, hrg, htp⟩ := hx
  obtain ⟨pa, va, sz, fr, tw, ta, wd, wb, wp, ou, o1, o2, pf, pt, ki, bi, ste, hel, low, hgh, su, ro, fe, dp, la, rst, hlf, nd, frd, at_, end_, ab, co, ll, lh, hm, rfl, ⟨hls, hsz⟩, hver, hrg9, htp9, hvw⟩ := hm
  have hN := Nn.ns (D := D) (T := T) (Vs := Vs) (vo := vo)
  have hfT : fitT T 16 := okW_fit hT (okM_W hokT)
  have hVf : ∀ V ∈ Vs, fitT V 16 ∧ ∀ H, Nn D T Vs vo H → nodeAt D H V := fun V hV => ⟨okW_fit (hVs V hV).1 (okM_W (hVs V hV).2.1), fun H h => h.2.1 V hV⟩
  have hV3 : ∀ V ∈ Vs, (lvs V).length ≤ 300 := fun V hV => (hVs V hV).2.2
  rcases vr hok hkf.1 ⟨hls, hsz⟩ hver x with ⟨V, b, ix, hw, hvr, v1, v2, v3, v4, v5⟩ | ⟨hw, w1, w2⟩
  · refine ⟨19, 0, 0, 4, _, _, ⟨by decide, by decide, by decide, by decide⟩, kX8_show hA1 hN hfT (fun H h => h.1) hkf hVf hrg x, fun H1 => kX9_show hA2 Snap.ns hkf.1 hvr v3 v4 v1 v2 v5 hrg9, ?_⟩
    intro v8 wx' H1 v9 wm' H2 hG8 hG9
    obtain ⟨h8a, h8⟩ := hG8
    obtain ⟨p1, p2, p3, p4, ou2, wd2, wb2, wp2, dp2, ls2, rs2, h9a, h9⟩ := hG9
    rcases h8a with ⟨e0, rfl, rfl⟩ | ⟨V', e0, so2, ht8, ⟨e1, rfl, rfl⟩ | ⟨e1, rfl, rfl⟩⟩
    · rw [hw] at e0
      cases e0
    · have hVV : V = V' := Option.some.inj (hw.symm.trans e0)
      subst hVV
      rcases h9a with ⟨e2, rfl, rfl⟩ | ⟨ta2, e2, rfl, rfl, k4⟩
      · exact ⟨⟨_, rfl, rfl, _, rfl⟩, ⟨T, Vs, Rg, S, vo, uo, fp, fd, hok, hvu, Or.inl ⟨kf, ra, rb, to, so2, _, rfl, hkf, hrg, htp⟩, ⟨_, _, _, _, _, _, _, _, _, _, _, _, _, _, _, _, _, _, _, _, _, _, _, _, _, _, _, _, _, _, _, _, _, _, _, _, rfl, ⟨hls, hsz⟩, hver, hrg9, htp9, hvw⟩, h8⟩, h9⟩
      · omega
    · have hVV : V = V' := Option.some.inj (hw.symm.trans e0)
      subst hVV
      rcases h9a with ⟨e2, rfl, rfl⟩ | ⟨ta2, e2, rfl, rfl, k4⟩
      · omega
      · exact ⟨⟨_, rfl, rfl, _, rfl⟩, ⟨T, Vs, Rg, (shwT Rg V 0 65535), vo, uo, fp, fd, ⟨⟨hT, hokT, hlT⟩, hVs, e1, shw_oc Rg V v3 0 65535⟩, hvu, Or.inr ⟨kf, ra, rb, _, so2, _, rfl, hkf, hrg, ht8⟩, ⟨_, _, _, _, _, _, _, _, _, _, _, _, _, _, _, _, _, _, _, _, _, _, _, _, _, _, _, _, _, _, _, _, _, _, _, _, rfl, ⟨hls, hsz⟩, hver, hrg9, k4, hvw⟩, h8⟩, h9⟩
  · refine ⟨19, 0, 0, 1, _, _, ⟨by decide, by decide, by decide, by decide⟩, kX8_show hA1 hN hfT (fun H h => h.1) hkf hVf hrg x, fun H1 => kX9_show_bad hA2 Snap.ns w1 w2, ?_⟩
    intro v8 wx' H1 v9 wm' H2 hG8 hG9
    obtain ⟨h8a, h8⟩ := hG8
    obtain ⟨⟨rfl, rfl⟩, h9⟩ := hG9
    rcases h8a with ⟨e0, rfl, rfl⟩ | ⟨V', e0, -⟩
    · exact ⟨⟨_, rfl, rfl, _, rfl⟩, ⟨T, Vs, Rg, S, vo, uo, fp, fd, hok, hvu, Or.inl ⟨kf, ra, rb, to, so, sl, rfl, hkf, hrg, htp⟩, ⟨_, _, _, _, _, _, _, _, _, _, _, _, _, _, _, _, _, _, _, _, _, _, _, _, _, _, _, _, _, _, _, _, _, _, _, _, rfl, ⟨hls, hsz⟩, hver, hrg9, htp9, hvw⟩, h8⟩, h9⟩
    · rw [hw] at e0
      cases e0

end
