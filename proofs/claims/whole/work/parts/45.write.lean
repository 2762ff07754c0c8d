/-! the model: write -/
theorem po_perm {h0 : Nat} {U U2 : Term} {Fl Fl2 : List Nat} (h : ∀ z : Nat, (ids U2).count z + Fl2.count z = (ids U).count z + Fl.count z) (hp : poR h0 U Fl) : poR h0 U2 Fl2 := by
  have hpm : (ids U2 ++ Fl2).Perm (ids U ++ Fl) := List.perm_iff_count.mpr (fun z => by rw [List.count_append, List.count_append]; exact h z)
  exact ⟨hpm.nodup_iff.mpr hp.1, fun q hq => hp.2.1 q (hpm.mem_iff.mp hq), hpm.length_eq.trans hp.2.2⟩
theorem po_bd {h0 : Nat} {U : Term} {Fl : List Nat} (hh0 : h0 ≤ 800) (hp : poR h0 U Fl) : ∀ q ∈ ids U, q < 1600 := fun q hq => by
  have := hp.2.1 q (List.mem_append_left _ hq)
  omega
theorem po_len {h0 : Nat} {U : Term} {Fl : List Nat} (hT : isT U) (hp : poR h0 U Fl) : nodT U + Fl.length = 800 := by
  have h1 := hp.2.2
  rw [List.length_append, ids_len U hT] at h1
  exact h1
theorem fb_sym {P Q : Nat} (hP : P < 65536) (hQ : Q < 65536) (hne : P ≠ Q) : fbit P Q = fbit Q P := by
  obtain ⟨a1, a2, a3⟩ := fbit_spec hQ hP (Ne.symm hne)
  exact fb_uniq hP hQ a1 a2.symm (fun e => a3 e.symm)
section
variable {ki bi ste : Nat → Int32} {hel : Nat → Int64} {low hgh : Nat → Int32}
theorem ins_up {h0 : Nat} {U R : Term} {Fl : List Nat} {lf fk P : Nat} (hh0 : h0 ≤ 800) (hT : isT U) (hv : vtR (ki, bi, ste, hel, low, hgh) U) (hpo : poR h0 U (Fl ++ [fk, lf])) (hTR : isT R) (hR : vtR (ki, bi, ste, hel, low, hgh) R) (haR : adr R = fk) (hcnt : ∀ z, (ids R).count z = (ids (wayT U P)).count z + [fk, lf].count z) : poR h0 (repW U P R) Fl ∧ nodT (repW U P R) = nodT U + 2 ∧ isT (repW U P R) ∧ ((¬ tkS U P ∧ abT U P (-2) = -2 ∧ adr (repW U P R) = fk ∧ vtR (ki, bi, ste, hel, low, hgh) (repW U P R)) ∨ (adr (repW U P R) = adr U ∧ ∃ c, c < 1600 ∧ abT U P (-2) = nI c ∧ ((low c = nI (adr (wayT U P)) ∧ vtR (ki, bi, ste, hel, upd low c (nI fk), hgh) (repW U P R)) ∨ (¬ low c = nI (adr (wayT U P)) ∧ vtR (ki, bi, ste, hel, low, upd hgh c (nI fk)) (repW U P R))))) := by
  have hnd : (ids U).Nodup := (List.nodup_append.mp hpo.1).1
  have hdis := (List.nodup_append.mp hpo.1).2.2
  have hbd := po_bd hh0 hpo
  have hTW := rep_T U hT P hTR
  have hp2 : poR h0 (repW U P R) Fl := po_perm (fun z => by
    have h1 := rep_cnt U hT P R z
    have h2 := hcnt z
    rw [List.count_append]
    omega) hpo
  refine ⟨hp2, ?_, hTW, ?_⟩
  · have h1 := po_len hTW hp2
    have h2 := po_len hT hpo
    rw [List.length_append] at h2
    have h3 : [fk, lf].length = 2 := rfl
    omega
  · by_cases h : tkS U P
    · right
      obtain ⟨c, c1, c2, c3, c4⟩ := vt_up U hT P hnd hbd hv h (-2)
      have hcR : ∀ z ∈ ids R, ¬ z = c := fun z hz e => by
        subst e
        have h3 := List.count_pos_iff.mpr hz
        rw [hcnt, List.count_eq_zero.mpr c2] at h3
        have h4 : z ∈ [fk, lf] := List.count_pos_iff.mp (by omega)
        exact hdis z c1 z (List.mem_append_right _ h4) rfl
      refine ⟨rep_adr hT h R, c, hbd c c1, c3, ?_⟩
      rcases c4 with ⟨d1, d2⟩ | ⟨d1, d2⟩
      · have h5 := d2 R (vt_cg R hTR (ag_low.mono hcR) hR)
        rw [haR] at h5
        exact Or.inl ⟨d1, h5⟩
      · have h5 := d2 R (vt_cg R hTR (ag_hgh.mono hcR) hR)
        rw [haR] at h5
        exact Or.inr ⟨d1, h5⟩
    · left
      obtain ⟨w1, w2, w3⟩ := way_no hT h (-2) R
      rw [w3]
      exact ⟨h, w2, haR, hR⟩
theorem ins_ag {lf fk : Nat} {a b c d e f : Int32} {v : Int64} {g : Int32} : agV (fun q => ¬ q = lf ∧ ¬ q = fk) (ki, bi, ste, hel, low, hgh) (upd (upd ki lf a) fk b, upd bi fk c, upd (upd ste lf d) fk e, vp_updL hel lf v, upd low fk f, upd hgh fk g) := fun q hq => ⟨(if_neg hq.2).trans (if_neg hq.1), if_neg hq.2, (if_neg hq.2).trans (if_neg hq.1), if_neg hq.1, if_neg hq.2, if_neg hq.2⟩
theorem ins_U {U : Term} {lf fk : Nat} {a b c d e f : Int32} {v : Int64} {g : Int32} (hT : isT U) (hv : vtR (ki, bi, ste, hel, low, hgh) U) (h1 : lf ∉ ids U) (h2 : fk ∉ ids U) : vtR (upd (upd ki lf a) fk b, upd bi fk c, upd (upd ste lf d) fk e, vp_updL hel lf v, upd low fk f, upd hgh fk g) U := vt_cg U hT (ins_ag.mono (fun q hq => ⟨fun e => h1 (e ▸ hq), fun e => h2 (e ▸ hq)⟩)) hv
theorem ins_L {lf fk P : Nat} {b c e f g : Int32} {v : Int64} (hne : ¬ lf = fk) : vtR (upd (upd ki lf 2) fk b, upd bi fk c, upd (upd ste lf (nI P)) fk e, vp_updL hel lf v, upd low fk f, upd hgh fk g) (tL lf P v) := ⟨(if_neg hne).trans (if_pos rfl), (if_neg hne).trans (if_pos rfl), if_pos rfl⟩
theorem ins_1 {E : Term} {lf fk P B S : Nat} {v : Int64} (hT : isT E) (hE : vtR (ki, bi, ste, hel, low, hgh) E) (h1 : lf ∉ ids E) (h2 : fk ∉ ids E) (hne : ¬ lf = fk) : vtR (upd (upd ki lf 2) fk 1, upd bi fk (nI B), upd (upd ste lf (nI P)) fk (nI S), vp_updL hel lf v, upd low fk (nI (adr E)), upd hgh fk (nI lf)) (tF fk B S E (tL lf P v)) := ⟨⟨if_pos rfl, if_pos rfl, if_pos rfl, if_pos rfl, if_pos rfl⟩, vt_cg E hT (ins_ag.mono (fun q hq => ⟨fun e => h1 (e ▸ hq), fun e => h2 (e ▸ hq)⟩)) hE, ins_L hne⟩
theorem ins_0 {E : Term} {lf fk P B S : Nat} {v : Int64} (hT : isT E) (hE : vtR (ki, bi, ste, hel, low, hgh) E) (h1 : lf ∉ ids E) (h2 : fk ∉ ids E) (hne : ¬ lf = fk) : vtR (upd (upd ki lf 2) fk 1, upd bi fk (nI B), upd (upd ste lf (nI P)) fk (nI S), vp_updL hel lf v, upd low fk (nI lf), upd hgh fk (nI (adr E))) (tF fk B S (tL lf P v) E) := ⟨⟨if_pos rfl, if_pos rfl, if_pos rfl, if_pos rfl, if_pos rfl⟩, ins_L hne, vt_cg E hT (ins_ag.mono (fun q hq => ⟨fun e => h1 (e ▸ hq), fun e => h2 (e ▸ hq)⟩)) hE⟩
end
theorem two_last {Fl : List Nat} (h : 2 ≤ Fl.length) : ∃ F2 a b, Fl = F2 ++ [a, b] := by
  rcases List.eq_nil_or_concat Fl with rfl | ⟨F1, b, rfl⟩
  · simp at h
  · rcases List.eq_nil_or_concat F1 with rfl | ⟨F2, a, rfl⟩
    · simp at h
    · exact ⟨F2, a, b, by simp⟩
section
variable {p : Program} {l : Launch} {e : Env} {R : Room} {s : State} {m : MethodId} {args : Array Value} {below : List Frame} {meth : Method} {c : Code} {cells slots : Nat} {QQ : State → Prop} {D : va_G} {ca : Nat → ClassId} {ad : Nat → Nat} {A : Nat → Prop} {N : Heap → Prop} {pa : Nat → Int32} {va : Nat → Int64} {sz : Nat → Int32} {fr : Nat → Int32} {tw : Nat → Int32} {ta : Nat → Int32} {wd : Nat → Int64} {wb : Nat → Int32} {wp : Nat → Int32} {ou : Nat → Int32} {o1 : Nat → Int32} {o2 : Nat → Int32} {pf : Nat → Int32} {pt : Nat → Int32} {ki : Nat → Int32} {bi : Nat → Int32} {ste : Nat → Int32} {hel : Nat → Int64} {low : Nat → Int32} {hgh : Nat → Int32} {su : Nat → Int64} {ro : Nat → Int32} {fe : Nat → Int32} {vs : Int32} {wn : Int32} {tp : Int32} {dp : Int32} {la : Int32} {rst : Int32} {hlf : Int32} {nd : Int32} {rt : Int32} {frd : Int32} {fa : Int32} {at_ : Int32} {end_ : Int32} {ab : Int32} {fo : Int64} {co : Int32} {ll : Int32} {lh : Int32} {hm : Int32}
set_option maxRecDepth 100000 in
set_option maxHeartbeats 4000000 in
theorem wr_ins (C : Cx p s m args c cX9_write 8 RX9 D ca ad A N 24) (hAD : AD ad 24) (hN : NS D N) (hR : 2 ≤ R.frames ∧ 80 ≤ R.locals ∧ cells ≤ R.cells ∧ slots ≤ R.slots) {U : Term} {Fl : List Nat} {h0 P pn : Nat} {v : Int64} (hh0 : h0 ≤ 800) (hT : isT U) (hv : vtR (ki, bi, ste, hel, low, hgh) U) (hpo0 : poR h0 U Fl) (hfe : feR fe Fl) (hn7 : nodT U ≤ 700) (hP : P < 65536) (hpn : pn < 65536) (hne : P ≠ pn) (hs : ste (adr (wayT U P)) = nI pn) (hfk : fkT (strp (wayT U P)) pn P (tL 0 P v) = wrtT (strp (wayT U P)) P (tL 0 P v)) (hK : ∀ (U2 : Term) (Fl2 : List Nat) (ki2 bi2 ste2 : Nat → Int32) (hel2 : Nat → Int64) (low2 hgh2 : Nat → Int32), isT U2 → strp U2 = wrtT (strp U) P (tL 0 P v) → vtR (ki2, bi2, ste2, hel2, low2, hgh2) U2 → poR h0 U2 Fl2 → feR fe Fl2 → nodT U2 = nodT U + 2 → Wa p l e R s m args below meth c cells slots QQ D ca ad A 8 N ([(0, .ref 0), (1, .int (nI P)), (2, .long v)], [.int 1], (mW pa va sz fr tw ta wd wb wp ou o1 o2 pf pt ki2 bi2 ste2 hel2 low2 hgh2 su ro fe vs wn tp dp la rst hlf (nI (nodT U2)) (nI (adr U2)) (nI Fl2.length) fa at_ (nI (adr (wayT U P))) (abT U P (-2)) fo co ll lh hm)) 298) : Wa p l e R s m args below meth c cells slots QQ D ca ad A 8 N ([(0, .ref 0), (1, .int (nI P)), (2, .long v)], [], (mW pa va sz fr tw ta wd wb wp ou o1 o2 pf pt ki bi ste hel low hgh su ro fe vs wn tp dp la rst hlf (nI (nodT U)) (nI (adr U)) (nI Fl.length) fa at_ (nI (adr (wayT U P))) (abT U P (-2)) fo co ll lh hm)) 130 := by
  obtain ⟨hR1, hR2, hR3, hR4⟩ := hR
  have hl8 := po_len hT hpo0
  have hnp := nod_pos U
  obtain ⟨F2, fk, lf, rfl⟩ := two_last (Fl := Fl) (by omega)
  have hpo := hpo0
  have hl2 : (F2 ++ [fk, lf]).length = F2.length + 2 := by simp
  have hf1 : fe (F2.length + 1) = nI lf := hfe _ lf (by rw [List.getElem?_append_right (by omega), Nat.add_sub_cancel_left]; rfl)
  have hf2 : fe F2.length = nI fk := hfe _ fk (by rw [List.getElem?_append_right (by omega), Nat.sub_self]; rfl)
  have hfe2 : feR fe F2 := fun j q hj => hfe j q (by rw [List.getElem?_append_left (List.getElem?_eq_some_iff.mp hj).1]; exact hj)
  have hbl := hpo.2.1 lf (by simp)
  have hbf := hpo.2.1 fk (by simp)
  have hdis := (List.nodup_append.mp hpo.1).2.2
  have hlU : lf ∉ ids U := fun e9 => hdis lf e9 lf (by simp) rfl
  have hfU : fk ∉ ids U := fun e9 => hdis fk e9 fk (by simp) rfl
  have hlf : ¬ lf = fk := fun e9 => by
    have h9 := (List.nodup_append.mp (List.nodup_append.mp hpo.1).2.1).2.1
    rw [e9] at h9
    simp at h9
  have hgE := way_gd U P ⟨hT, hv, po_bd hh0 hpo⟩
  have hTE := hgE.1
  have hlE : lf ∉ ids (wayT U P) := fun e9 => hlU (way_ids U hT P _ e9)
  have hfE : fk ∉ ids (wayT U P) := fun e9 => hfU (way_ids U hT P _ e9)
  have hbe := hgE.2.2 _ (adr_ids _ hTE)
  have hlE0 : ¬ adr (wayT U P) = lf := fun e9 => hlE (e9 ▸ adr_ids _ hTE)
  have hec : (nI (adr (wayT U P))).toNatClampNeg = adr (wayT U P) := nI_clamp (by omega)
  have hlc : (nI lf).toNatClampNeg = lf := nI_clamp (by omega)
  have hfc : (nI fk).toNatClampNeg = fk := nI_clamp (by omega)
  have hbit := (fbit_spec hpn hP (Ne.symm hne)).1
  rw [hl2]
  refine sg0 C foX9 coX9 oX9_write_130 rfl rfl rfl ?_
  refine cl_v C (kX9_fresh hAD hN (n := F2.length + 1) (q := lf) (by omega) hf1) (rcv (ci := 8) C.2.1 rfl rfl) cd_X9_fresh in_X9 ml_X9_213 im_X9_fresh se_X9_fresh hd_X9_fresh rfl rfl ⟨by show 0 + 1 ≤ R.frames; omega, by show 8 + (1 + 11) + 40 * 0 ≤ R.locals; omega⟩ ⟨by show cells + 0 ≤ R.cells; omega, by show slots + 0 ≤ R.slots; omega⟩ (Nat.le_of_ble_eq_true rfl) jX9_write_131 (fun v ws' => Wa.and (fun hv => ?_))
  obtain ⟨rfl, rfl⟩ := hv
  refine sg0 C foX9 coX9 oX9_write_134 rfl rfl rfl ?_
  refine cl_v C (kX9_fresh hAD hN (n := F2.length) (q := fk) (by omega) hf2) (rcv (ci := 8) C.2.1 rfl rfl) cd_X9_fresh in_X9 ml_X9_213 im_X9_fresh se_X9_fresh hd_X9_fresh rfl rfl ⟨by show 0 + 1 ≤ R.frames; omega, by show 8 + (1 + 11) + 40 * 0 ≤ R.locals; omega⟩ ⟨by show cells + 0 ≤ R.cells; omega, by show slots + 0 ≤ R.slots; omega⟩ (Nat.le_of_ble_eq_true rfl) jX9_write_137 (fun v ws' => Wa.and (fun hv => ?_))
  obtain ⟨rfl, rfl⟩ := hv
  refine sg C foX9 coX9 oX9_write_140 rfl rfl rfl ⟨vp_in_nI (by omega) (by decide), vp_in_nI (by omega) (by decide), vp_in_nI (by omega) (by decide), vp_in_nI (by omega) (by decide), trivial⟩ ?_
  rw [hlc, hec, show upd ste lf (nI P) (adr (wayT U P)) = nI pn from (if_neg hlE0).trans hs]
  refine cl_s C (kX9_firstBit hAD hN rfl hP hpn hne) cd_X9_firstBit in_X9 ml_X9_114 sm_X9_firstBit hd_X9_firstBit rfl rfl ⟨by show 0 + 1 ≤ R.frames; omega, by show 8 + (3 + 11) + 40 * 0 ≤ R.locals; omega⟩ ⟨by show cells + 0 ≤ R.cells; omega, by show slots + 0 ≤ R.slots; omega⟩ (Nat.le_of_ble_eq_true rfl) jX9_write_186 (fun v ws' => Wa.and (fun hv => ?_))
  obtain ⟨rfl, rfl⟩ := hv
  refine sg0 C foX9 coX9 oX9_write_189 rfl rfl rfl ?_
  rw [fb_sym hP hpn hne, bit_s hP hbit]
  have hb2 : bitA P (fbit pn P) < 2 := by unfold bitA; omega
  by_cases hb : bitA P (fbit pn P) = 1
  · rw [hb]
    refine b2_ne (tgt := 208) C jX9_write_201 (by decide) (fun h201 => ?_) (fun h201 => ?_)
    · exact absurd rfl h201
    · refine sg0 C foX9 coX9 oX9_write_204 rfl rfl rfl ?_
      refine sg C foX9 coX9 oX9_write_209 rfl rfl rfl ⟨vp_in_nI (by omega) (by decide), vp_in_nI (by omega) (by decide), trivial⟩ ?_
      refine cl_s C (kX9_stemOf hAD rfl hN (P := P) (B := fbit pn P) hP (by omega)) cd_X9_stemOf in_X9 ml_X9_118 sm_X9_stemOf hd_X9_stemOf rfl rfl ⟨by show 0 + 1 ≤ R.frames; omega, by show 8 + (2 + 11) + 40 * 0 ≤ R.locals; omega⟩ ⟨by show cells + 0 ≤ R.cells; omega, by show slots + 0 ≤ R.slots; omega⟩ (Nat.le_of_ble_eq_true rfl) jX9_write_237 (fun v ws' => Wa.and (fun hv => ?_))
      obtain ⟨rfl, rfl⟩ := hv
      refine sg C foX9 coX9 oX9_write_240 rfl rfl rfl ⟨vp_in_nI (by omega) (by decide), trivial⟩ ?_
      refine b1_eq (tgt := 259) C jX9_write_249 (by decide) (fun h249 => ?_) (fun h249 => ?_)
      · exact absurd h249 (by decide)
      · refine sg0 C foX9 coX9 oX9_write_252 rfl rfl rfl ?_
        refine sg C foX9 coX9 oX9_write_261 rfl rfl rfl ⟨vp_in_nI (by omega) (by decide), trivial⟩ ?_
        refine b1_eq (tgt := 278) C jX9_write_270 (by decide) (fun h270 => ?_) (fun h270 => ?_)
        · exact absurd h270 (by decide)
        · refine sg0 C foX9 coX9 oX9_write_273 rfl rfl rfl ?_
          refine sg C foX9 coX9 oX9_write_282 rfl rfl rfl ⟨vp_in_nI (by omega) (by decide), trivial⟩ ?_
          rw [hfc, show nI (nodT U) + 2 = nI (nodT U + 2) from nI_add (nodT U) 2]
          obtain ⟨hp2, hn2, hTU, hcase⟩ := ins_up (P := P) (R := tF fk (fbit pn P) (stm P (fbit pn P)) (wayT U P) (tL lf P v)) hh0 hT (ins_U hT hv hlU hfU) hpo ⟨hTE, trivial⟩ (ins_1 (P := P) (B := fbit pn P) (S := stm P (fbit pn P)) (v := v) hTE hgE.2.1 hlE hfE hlf) rfl (fun z => by simp only [ids, List.count_cons, List.count_append, adr]; omega)
          have hst := rep_wrt U hT P (R := tF fk (fbit pn P) (stm P (fbit pn P)) (wayT U P) (tL lf P v)) (L := tL 0 P v) (by rw [← hfk]; unfold fkT; rw [if_pos hb]; rfl)
          obtain ⟨U2, hU2⟩ : ∃ U2, U2 = repW U P (tF fk (fbit pn P) (stm P (fbit pn P)) (wayT U P) (tL lf P v)) := ⟨_, rfl⟩
          rw [← hU2] at hp2 hn2 hTU hcase hst
          rcases hcase with ⟨g1, g2, g3, g4⟩ | ⟨g1, c, c1, c2, ⟨c3, c4⟩ | ⟨c3, c4⟩⟩
          · rw [g2]
            refine cl_v C (kX9_stand0 hAD hN) (rcv (ci := 8) C.2.1 rfl rfl) cd_X9_stand in_X9 ml_X9_216 im_X9_stand se_X9_stand hd_X9_stand rfl rfl ⟨by show 0 + 1 ≤ R.frames; omega, by show 8 + (4 + 11) + 40 * 0 ≤ R.locals; omega⟩ ⟨by show cells + 0 ≤ R.cells; omega, by show slots + 0 ≤ R.slots; omega⟩ (Nat.le_of_ble_eq_true rfl) jX9_write_294 (fun v ws' => Wa.and (fun hv => ?_))
            obtain ⟨rfl, rfl⟩ := hv
            refine sg0 C foX9 coX9 oX9_write_297 rfl rfl rfl ?_
            refine Wa.lvp [0, 1, 2] rfl ?_
            have h9 := hK U2 F2 _ _ _ _ _ _ hTU hst g4 hp2 hfe2 hn2
            rw [hn2, g3] at h9
            (try rw [g2])
            (try rw [c2])
            (try rw [g2] at h9)
            (try rw [c2] at h9)
            exact h9
          · rw [c2]
            refine cl_v C (kX9_stand1 hAD hN c1 c3) (rcv (ci := 8) C.2.1 rfl rfl) cd_X9_stand in_X9 ml_X9_216 im_X9_stand se_X9_stand hd_X9_stand rfl rfl ⟨by show 0 + 1 ≤ R.frames; omega, by show 8 + (4 + 11) + 40 * 0 ≤ R.locals; omega⟩ ⟨by show cells + 0 ≤ R.cells; omega, by show slots + 0 ≤ R.slots; omega⟩ (Nat.le_of_ble_eq_true rfl) jX9_write_294 (fun v ws' => Wa.and (fun hv => ?_))
            obtain ⟨rfl, rfl⟩ := hv
            refine sg0 C foX9 coX9 oX9_write_297 rfl rfl rfl ?_
            refine Wa.lvp [0, 1, 2] rfl ?_
            have h9 := hK U2 F2 _ _ _ _ _ _ hTU hst c4 hp2 hfe2 hn2
            rw [hn2, g1] at h9
            (try rw [g2])
            (try rw [c2])
            (try rw [g2] at h9)
            (try rw [c2] at h9)
            exact h9
          · rw [c2]
            refine cl_v C (kX9_stand2 hAD hN c1 c3) (rcv (ci := 8) C.2.1 rfl rfl) cd_X9_stand in_X9 ml_X9_216 im_X9_stand se_X9_stand hd_X9_stand rfl rfl ⟨by show 0 + 1 ≤ R.frames; omega, by show 8 + (4 + 11) + 40 * 0 ≤ R.locals; omega⟩ ⟨by show cells + 0 ≤ R.cells; omega, by show slots + 0 ≤ R.slots; omega⟩ (Nat.le_of_ble_eq_true rfl) jX9_write_294 (fun v ws' => Wa.and (fun hv => ?_))
            obtain ⟨rfl, rfl⟩ := hv
            refine sg0 C foX9 coX9 oX9_write_297 rfl rfl rfl ?_
            refine Wa.lvp [0, 1, 2] rfl ?_
            have h9 := hK U2 F2 _ _ _ _ _ _ hTU hst c4 hp2 hfe2 hn2
            rw [hn2, g1] at h9
            (try rw [g2])
            (try rw [c2])
            (try rw [g2] at h9)
            (try rw [c2] at h9)
            exact h9
  · refine b2_ne (tgt := 208) C jX9_write_201 (by decide) (fun h201 => ?_) (fun h201 => ?_)
    · refine sg0 C foX9 coX9 oX9_write_208 rfl rfl rfl ?_
      refine sg C foX9 coX9 oX9_write_209 rfl rfl rfl ⟨vp_in_nI (by omega) (by decide), vp_in_nI (by omega) (by decide), trivial⟩ ?_
      refine cl_s C (kX9_stemOf hAD rfl hN (P := P) (B := fbit pn P) hP (by omega)) cd_X9_stemOf in_X9 ml_X9_118 sm_X9_stemOf hd_X9_stemOf rfl rfl ⟨by show 0 + 1 ≤ R.frames; omega, by show 8 + (2 + 11) + 40 * 0 ≤ R.locals; omega⟩ ⟨by show cells + 0 ≤ R.cells; omega, by show slots + 0 ≤ R.slots; omega⟩ (Nat.le_of_ble_eq_true rfl) jX9_write_237 (fun v ws' => Wa.and (fun hv => ?_))
      obtain ⟨rfl, rfl⟩ := hv
      refine sg C foX9 coX9 oX9_write_240 rfl rfl rfl ⟨vp_in_nI (by omega) (by decide), trivial⟩ ?_
      refine b1_eq (tgt := 259) C jX9_write_249 (by decide) (fun h249 => ?_) (fun h249 => ?_)
      · refine sg0 C foX9 coX9 oX9_write_259 rfl rfl rfl ?_
        refine sg C foX9 coX9 oX9_write_261 rfl rfl rfl ⟨vp_in_nI (by omega) (by decide), trivial⟩ ?_
        refine b1_eq (tgt := 278) C jX9_write_270 (by decide) (fun h270 => ?_) (fun h270 => ?_)
        · refine sg0 C foX9 coX9 oX9_write_278 rfl rfl rfl ?_
          refine sg C foX9 coX9 oX9_write_282 rfl rfl rfl ⟨vp_in_nI (by omega) (by decide), trivial⟩ ?_
          rw [hfc, show nI (nodT U) + 2 = nI (nodT U + 2) from nI_add (nodT U) 2]
          obtain ⟨hp2, hn2, hTU, hcase⟩ := ins_up (P := P) (R := tF fk (fbit pn P) (stm P (fbit pn P)) (tL lf P v) (wayT U P)) hh0 hT (ins_U hT hv hlU hfU) hpo ⟨trivial, hTE⟩ (ins_0 (P := P) (B := fbit pn P) (S := stm P (fbit pn P)) (v := v) hTE hgE.2.1 hlE hfE hlf) rfl (fun z => by simp only [ids, List.count_cons, List.count_append, adr]; omega)
          have hst := rep_wrt U hT P (R := tF fk (fbit pn P) (stm P (fbit pn P)) (tL lf P v) (wayT U P)) (L := tL 0 P v) (by rw [← hfk]; unfold fkT; rw [if_neg hb]; rfl)
          obtain ⟨U2, hU2⟩ : ∃ U2, U2 = repW U P (tF fk (fbit pn P) (stm P (fbit pn P)) (tL lf P v) (wayT U P)) := ⟨_, rfl⟩
          rw [← hU2] at hp2 hn2 hTU hcase hst
          rcases hcase with ⟨g1, g2, g3, g4⟩ | ⟨g1, c, c1, c2, ⟨c3, c4⟩ | ⟨c3, c4⟩⟩
          · rw [g2]
            refine cl_v C (kX9_stand0 hAD hN) (rcv (ci := 8) C.2.1 rfl rfl) cd_X9_stand in_X9 ml_X9_216 im_X9_stand se_X9_stand hd_X9_stand rfl rfl ⟨by show 0 + 1 ≤ R.frames; omega, by show 8 + (4 + 11) + 40 * 0 ≤ R.locals; omega⟩ ⟨by show cells + 0 ≤ R.cells; omega, by show slots + 0 ≤ R.slots; omega⟩ (Nat.le_of_ble_eq_true rfl) jX9_write_294 (fun v ws' => Wa.and (fun hv => ?_))
            obtain ⟨rfl, rfl⟩ := hv
            refine sg0 C foX9 coX9 oX9_write_297 rfl rfl rfl ?_
            refine Wa.lvp [0, 1, 2] rfl ?_
            have h9 := hK U2 F2 _ _ _ _ _ _ hTU hst g4 hp2 hfe2 hn2
            rw [hn2, g3] at h9
            (try rw [g2])
            (try rw [c2])
            (try rw [g2] at h9)
            (try rw [c2] at h9)
            exact h9
          · rw [c2]
            refine cl_v C (kX9_stand1 hAD hN c1 c3) (rcv (ci := 8) C.2.1 rfl rfl) cd_X9_stand in_X9 ml_X9_216 im_X9_stand se_X9_stand hd_X9_stand rfl rfl ⟨by show 0 + 1 ≤ R.frames; omega, by show 8 + (4 + 11) + 40 * 0 ≤ R.locals; omega⟩ ⟨by show cells + 0 ≤ R.cells; omega, by show slots + 0 ≤ R.slots; omega⟩ (Nat.le_of_ble_eq_true rfl) jX9_write_294 (fun v ws' => Wa.and (fun hv => ?_))
            obtain ⟨rfl, rfl⟩ := hv
            refine sg0 C foX9 coX9 oX9_write_297 rfl rfl rfl ?_
            refine Wa.lvp [0, 1, 2] rfl ?_
            have h9 := hK U2 F2 _ _ _ _ _ _ hTU hst c4 hp2 hfe2 hn2
            rw [hn2, g1] at h9
            (try rw [g2])
            (try rw [c2])
            (try rw [g2] at h9)
            (try rw [c2] at h9)
            exact h9
          · rw [c2]
            refine cl_v C (kX9_stand2 hAD hN c1 c3) (rcv (ci := 8) C.2.1 rfl rfl) cd_X9_stand in_X9 ml_X9_216 im_X9_stand se_X9_stand hd_X9_stand rfl rfl ⟨by show 0 + 1 ≤ R.frames; omega, by show 8 + (4 + 11) + 40 * 0 ≤ R.locals; omega⟩ ⟨by show cells + 0 ≤ R.cells; omega, by show slots + 0 ≤ R.slots; omega⟩ (Nat.le_of_ble_eq_true rfl) jX9_write_294 (fun v ws' => Wa.and (fun hv => ?_))
            obtain ⟨rfl, rfl⟩ := hv
            refine sg0 C foX9 coX9 oX9_write_297 rfl rfl rfl ?_
            refine Wa.lvp [0, 1, 2] rfl ?_
            have h9 := hK U2 F2 _ _ _ _ _ _ hTU hst c4 hp2 hfe2 hn2
            rw [hn2, g1] at h9
            (try rw [g2])
            (try rw [c2])
            (try rw [g2] at h9)
            (try rw [c2] at h9)
            exact h9
        · exact absurd rfl h270
      · exact absurd rfl h249
    · exact absurd ((nI_eq (by omega) (by decide)).mp (show nI (bitA P (fbit pn P)) = nI 1 from h201)) hb --end
end
