/-! the model: ways in the view; get, view, fresh, stand -/
theorem vt_k0 {V : VA} {T : Term} (h : gdV V T) : V.1 (adr T) = 0 ↔ isH T = true := by
  obtain ⟨h1, h2, -⟩ := h
  rcases shp T h1 with ⟨q, rfl⟩ | ⟨q, d, rfl⟩ | ⟨q, p, v, rfl⟩ | ⟨q, B, S, x, y, rfl⟩
  · exact ⟨fun h => absurd (h.symm.trans h2) k03, fun h => by cases h⟩
  · exact ⟨fun _ => rfl, fun _ => h2.1⟩
  · exact ⟨fun h => absurd (h.symm.trans h2.1) k02, fun h => by cases h⟩
  · exact ⟨fun h => absurd (h.symm.trans h2.1.1) k01, fun h => by cases h⟩
theorem way_ft (T : Term) (hT : isT T) (P : Nat) : ∀ k, k ≤ 16 → fitT T k → ∃ j, j ≤ 16 ∧ fitT (wayT T P) j := by
  refine tr_ind (P := fun T => ∀ k, k ≤ 16 → fitT T k → ∃ j, j ≤ 16 ∧ fitT (wayT T P) j) ?_ ?_ ?_ ?_ T hT
  · exact fun q k hk h => ⟨k, hk, h⟩
  · exact fun q d k hk h => ⟨k, hk, h⟩
  · exact fun q p v k hk h => ⟨k, hk, h⟩
  · intro q B S x y _ _ i1 i2 k hk h
    obtain ⟨⟨a1, a2, a3, a4⟩, a5, a6⟩ := fitF h
    simp only [wayT]
    split
    · split
      · exact i2 _ (by omega) a6
      · exact i1 _ (by omega) a5
    · exact ⟨k, hk, h⟩
def rtF : Option Term → Int32
  | none => -2
  | some U => nI (adr U)
theorem lv_no {E : Term} {P : Nat} (h : ¬ lfT E P = true) : lvT E P = 0 := by
  unfold lvT
  split
  · rename_i q p v
    split
    · rename_i e9
      exact absurd (decide_eq_true e9) h
    · rfl
  · rfl
theorem lf_H {E : Term} {P : Nat} (h : isH E = true) : ¬ lfT E P = true := by
  unfold isH at h
  split at h
  · intro h2; cases h2
  · cases h
theorem lv_yes {V : VA} {E : Term} {P : Nat} (hg : gdV V E) (h : lfT E P = true) : V.2.2.2.1 (adr E) = lvT E P := by
  obtain ⟨h1, h2, -⟩ := hg
  rcases shp E h1 with ⟨q, rfl⟩ | ⟨q, d, rfl⟩ | ⟨q, p, v, rfl⟩ | ⟨q, B, S, x, y, rfl⟩
  · cases h
  · cases h
  · have hp : p = P := of_decide_eq_true h
    exact h2.2.2.trans (if_pos hp).symm
  · cases h
section
variable {p : Program} {l : Launch} {e : Env} {R : Room} {s : State} {m : MethodId} {args : Array Value} {below : List Frame} {meth : Method} {c : Code} {cells slots : Nat} {QQ : State → Prop} {D : va_G} {ca : Nat → ClassId} {ad : Nat → Nat} {A : Nat → Prop} {N : Heap → Prop} {pa : Nat → Int32} {va : Nat → Int64} {sz : Nat → Int32} {fr : Nat → Int32} {tw : Nat → Int32} {ta : Nat → Int32} {wd : Nat → Int64} {wb : Nat → Int32} {wp : Nat → Int32} {ou : Nat → Int32} {o1 : Nat → Int32} {o2 : Nat → Int32} {pf : Nat → Int32} {pt : Nat → Int32} {ki : Nat → Int32} {bi : Nat → Int32} {ste : Nat → Int32} {hel : Nat → Int64} {low : Nat → Int32} {hgh : Nat → Int32} {su : Nat → Int64} {ro : Nat → Int32} {fe : Nat → Int32} {vs : Int32} {wn : Int32} {tp : Int32} {dp : Int32} {la : Int32} {rst : Int32} {hlf : Int32} {nd : Int32} {rt : Int32} {frd : Int32} {fa : Int32} {at_ : Int32} {end_ : Int32} {ab : Int32} {fo : Int64} {co : Int32} {ll : Int32} {lh : Int32} {hm : Int32}
set_option maxRecDepth 100000 in
set_option maxHeartbeats 4000000 in
theorem wy_loop (C : Cx p s m args c cX9_way 2 RX9 D ca ad A N 24) (hAD : AD ad 24) (hN : NS D N) (hR : 2 ≤ R.frames ∧ 80 ≤ R.locals ∧ cells ≤ R.cells ∧ slots ≤ R.slots) {P : Nat} (hP : P < 65536) (U : Term) (hT : isT U) : ∀ (k : Nat) (a : Int32), k ≤ 16 → gdV (ki, bi, ste, hel, low, hgh) (U) → fitT (U) k → Wa p l e R s m args below meth c cells slots QQ D ca ad A 2 N ([(0, .ref 0), (1, .int (nI P))], [], (mW pa va sz fr tw ta wd wb wp ou o1 o2 pf pt ki bi ste hel low hgh su ro fe vs wn tp dp la rst hlf nd rt frd fa at_ (nI (adr (wayT (U) P))) (abT (U) P a) fo co ll lh hm)) 107 → Wa p l e R s m args below meth c cells slots QQ D ca ad A 2 N ([(0, .ref 0), (1, .int (nI P))], [], (mW pa va sz fr tw ta wd wb wp ou o1 o2 pf pt ki bi ste hel low hgh su ro fe vs wn tp dp la rst hlf nd rt frd fa at_ (nI (adr (U))) a fo co ll lh hm)) 14 := by
  obtain ⟨hR1, hR2, hR3, hR4⟩ := hR
  refine tr_ind (P := fun U => ∀ (k : Nat) (a : Int32), k ≤ 16 → gdV (ki, bi, ste, hel, low, hgh) (U) → fitT (U) k → Wa p l e R s m args below meth c cells slots QQ D ca ad A 2 N ([(0, .ref 0), (1, .int (nI P))], [], (mW pa va sz fr tw ta wd wb wp ou o1 o2 pf pt ki bi ste hel low hgh su ro fe vs wn tp dp la rst hlf nd rt frd fa at_ (nI (adr (wayT (U) P))) (abT (U) P a) fo co ll lh hm)) 107 → Wa p l e R s m args below meth c cells slots QQ D ca ad A 2 N ([(0, .ref 0), (1, .int (nI P))], [], (mW pa va sz fr tw ta wd wb wp ou o1 o2 pf pt ki bi ste hel low hgh su ro fe vs wn tp dp la rst hlf nd rt frd fa at_ (nI (adr (U))) a fo co ll lh hm)) 14) ?_ ?_ ?_ ?_ U hT
  · intro q k a hk hgd hfit hK
    have hb : adr (tE q) < 1600 := hgd.2.2 _ (adr_ids _ hgd.1)
    have hnk := (vt_nF hgd (fun h => by cases h)).1
    have hcl : (nI (adr (tE q))).toNatClampNeg = adr (tE q) := nI_clamp (by omega)
    refine sg C foX9 coX9 oX9_way_14 rfl rfl rfl ⟨vp_in_nI (by omega) (by decide), trivial⟩ ?_
    rw [hcl]
    refine b2_ne (tgt := 107) C jX9_way_24 (by decide) (fun h24 => ?_) (fun h24 => ?_)
    · exact hK
    · exact absurd h24 hnk
  · intro q d0 k a hk hgd hfit hK
    have hb : adr (tH q d0) < 1600 := hgd.2.2 _ (adr_ids _ hgd.1)
    have hnk := (vt_nF hgd (fun h => by cases h)).1
    have hcl : (nI (adr (tH q d0))).toNatClampNeg = adr (tH q d0) := nI_clamp (by omega)
    refine sg C foX9 coX9 oX9_way_14 rfl rfl rfl ⟨vp_in_nI (by omega) (by decide), trivial⟩ ?_
    rw [hcl]
    refine b2_ne (tgt := 107) C jX9_way_24 (by decide) (fun h24 => ?_) (fun h24 => ?_)
    · exact hK
    · exact absurd h24 hnk
  · intro q P0 v0 k a hk hgd hfit hK
    have hb : adr (tL q P0 v0) < 1600 := hgd.2.2 _ (adr_ids _ hgd.1)
    have hnk := (vt_nF hgd (fun h => by cases h)).1
    have hcl : (nI (adr (tL q P0 v0))).toNatClampNeg = adr (tL q P0 v0) := nI_clamp (by omega)
    refine sg C foX9 coX9 oX9_way_14 rfl rfl rfl ⟨vp_in_nI (by omega) (by decide), trivial⟩ ?_
    rw [hcl]
    refine b2_ne (tgt := 107) C jX9_way_24 (by decide) (fun h24 => ?_) (fun h24 => ?_)
    · exact hK
    · exact absurd h24 hnk
  · intro q B S x y t1 t2 i1 i2 k a hk hgd hfit hK
    have hb : q < 1600 := hgd.2.2 q List.mem_cons_self
    obtain ⟨⟨hk1, hb1, hs1, hlo, hhi⟩, g1, g2⟩ : (ki q = 1 ∧ bi q = nI B ∧ ste q = nI S ∧ low q = nI (adr x) ∧ hgh q = nI (adr y)) ∧ vtR (ki, bi, ste, hel, low, hgh) x ∧ vtR (ki, bi, ste, hel, low, hgh) y := hgd.2.1
    obtain ⟨⟨a1, a2, a3, a4⟩, a5, a6⟩ := fitF hfit
    have hS : S < 65536 := fitF2 hfit
    have hcl : (nI q).toNatClampNeg = q := nI_clamp (by omega)
    have gx := gd_kids hgd x List.mem_cons_self
    have gy := gd_kids hgd y (List.mem_cons_of_mem _ List.mem_cons_self)
    show Wa p l e R s m args below meth c cells slots QQ D ca ad A 2 N ([(0, .ref 0), (1, .int (nI P))], [], (mW pa va sz fr tw ta wd wb wp ou o1 o2 pf pt ki bi ste hel low hgh su ro fe vs wn tp dp la rst hlf nd rt frd fa at_ (nI q) a fo co ll lh hm)) 14
    refine sg C foX9 coX9 oX9_way_14 rfl rfl rfl ⟨vp_in_nI (by omega) (by decide), trivial⟩ ?_
    rw [hcl]
    refine b2_ne (tgt := 107) C jX9_way_24 (by decide) (fun h24 => ?_) (fun h24 => ?_)
    · exact absurd hk1 h24
    · refine sg C foX9 coX9 oX9_way_27 rfl rfl rfl ⟨vp_in_nI (by omega) (by decide), vp_in_nI (by omega) (by decide), trivial⟩ ?_
      rw [hcl, hs1, hb1]
      refine cl_s C (kX9_takesIn hAD hN rfl hP a1 hS) cd_X9_takesIn in_X9 ml_X9_198 sm_X9_takesIn hd_X9_takesIn rfl rfl ⟨by show 1 + 1 ≤ R.frames; omega, by show 8 + (3 + 11) + 40 * 1 ≤ R.locals; omega⟩ ⟨by show cells + 0 ≤ R.cells; omega, by show slots + 0 ≤ R.slots; omega⟩ (Nat.le_of_ble_eq_true rfl) jX9_way_46 (fun v ws' => Wa.and (fun hv => ?_))
      obtain ⟨rfl, rfl⟩ := hv
      refine b1_eq (tgt := 107) C jX9_way_49 (by decide) (fun h49 => ?_) (fun h49 => ?_)
      · have htk : ¬ stm P B = S := fun e9 => by rw [if_pos e9] at h49; exact absurd h49 (by decide)
        obtain ⟨w1, w2, -⟩ := way_no (T := tF q B S x y) ⟨t1, t2⟩ htk a (tE 0)
        rw [w1, w2] at hK
        exact hK
      · have htk : stm P B = S := Decidable.byContradiction fun e9 => h49 (if_neg e9)
        refine sg C foX9 coX9 oX9_way_52 rfl rfl rfl ⟨vp_in_nI (by omega) (by decide), trivial⟩ ?_
        rw [hcl, hb1, bit_s hP a1]
        refine b1_ne (tgt := 92) C jX9_way_77 (by decide) (fun h77 => ?_) (fun h77 => ?_)
        · have hbt : bitA P B = 1 := by have := h77; unfold bitA at this ⊢; rcases (show P / 2 ^ (15 - B) % 2 = 0 ∨ P / 2 ^ (15 - B) % 2 = 1 by omega) with e9 | e9 <;> rw [e9] at this ⊢; exact absurd rfl this
          refine sg C foX9 coX9 oX9_way_92 rfl rfl rfl ⟨vp_in_nI (by omega) (by decide), trivial⟩ ?_
          refine sg0 C foX9 coX9 oX9_way_101 rfl rfl rfl ?_
          obtain ⟨w1, w2, -⟩ := way1 (q := q) (x := x) (y := y) htk hbt a (tE 0)
          rw [w1, w2] at hK
          rw [hcl, hhi]
          exact i2 (15 - B) (nI q) (by omega) gy a6 hK
        · have hbt : ¬ bitA P B = 1 := fun e9 => by rw [e9] at h77; exact absurd h77 (by decide)
          refine sg C foX9 coX9 oX9_way_80 rfl rfl rfl ⟨vp_in_nI (by omega) (by decide), trivial⟩ ?_
          refine sg0 C foX9 coX9 oX9_way_101 rfl rfl rfl ?_
          obtain ⟨w1, w2, -⟩ := way0 (q := q) (x := x) (y := y) htk hbt a (tE 0)
          rw [w1, w2] at hK
          rw [hcl, hlo]
          exact i1 (15 - B) (nI q) (by omega) gx a5 hK
end
section
variable {l : Launch} {D : va_G} {ca : Nat → ClassId} {ad : Nat → Nat} {N : Heap → Prop} {pa : Nat → Int32} {va : Nat → Int64} {sz : Nat → Int32} {fr : Nat → Int32} {tw : Nat → Int32} {ta : Nat → Int32} {wd : Nat → Int64} {wb : Nat → Int32} {wp : Nat → Int32} {ou : Nat → Int32} {o1 : Nat → Int32} {o2 : Nat → Int32} {pf : Nat → Int32} {pt : Nat → Int32} {ki : Nat → Int32} {bi : Nat → Int32} {ste : Nat → Int32} {hel : Nat → Int64} {low : Nat → Int32} {hgh : Nat → Int32} {su : Nat → Int64} {ro : Nat → Int32} {fe : Nat → Int32} {vs : Int32} {wn : Int32} {tp : Int32} {dp : Int32} {la : Int32} {rst : Int32} {hlf : Int32} {nd : Int32} {rt : Int32} {frd : Int32} {fa : Int32} {at_ : Int32} {end_ : Int32} {ab : Int32} {fo : Int64} {co : Int32} {ll : Int32} {lh : Int32} {hm : Int32}
set_option maxRecDepth 100000 in
set_option maxHeartbeats 4000000 in
theorem kX9_way (hAD : AD ad 24) (hN : NS D N) {U : Term} (hgd : gdV (ki, bi, ste, hel, low, hgh) U) (hfit : fitT U 16) {P : Nat} (hP : P < 65536) : Ct l yX9_way cX9_way 2 none (rK 2 0 0) D ca ad (mW pa va sz fr tw ta wd wb wp ou o1 o2 pf pt ki bi ste hel low hgh su ro fe vs wn tp dp la rst hlf nd (nI (adr U)) frd fa at_ end_ ab fo co ll lh hm) 24 [.ref 0, .int (nI P)] N (pG (mW pa va sz fr tw ta wd wb wp ou o1 o2 pf pt ki bi ste hel low hgh su ro fe vs wn tp dp la rst hlf nd (nI (adr U)) frd fa at_ (nI (adr (wayT U P))) (abT U P (-2)) fo co ll lh hm) N none) := by
  refine enter (lv := [(0, .ref 0), (1, .int (nI P))]) (by decide +kernel) (Nat.le_of_ble_eq_true rfl) rfl hAD (fun U hK => ns_write hK hN) ?_
  intro p e s m below meth c A args hA C hr hlk hnm
  refine sg0 C foX9 coX9 oX9_way_0 rfl rfl rfl ?_
  refine wy_loop C hAD hN ⟨(Nat.le_of_ble_eq_true rfl), (Nat.le_of_ble_eq_true rfl), (Nat.le_of_ble_eq_true rfl), (Nat.le_of_ble_eq_true rfl)⟩ hP U hgd.1 16 (-2) (by decide) hgd hfit ?_
  exact rt_v C hr hlk jX9_way_107 (fun H hN => ⟨⟨rfl, rfl⟩, hN⟩)
set_option maxRecDepth 100000 in
set_option maxHeartbeats 4000000 in
theorem kX9_isThere (hAD : AD ad 24) (hN : NS D N) {E : Term} {P k : Nat} (hgd : gdV (ki, bi, ste, hel, low, hgh) E) (hfit : fitT E k) (hP : P < 65536) : Ct l yX9_isThere cX9_isThere 2 (some .boolean) (rK 0 0 0) D ca ad (mW pa va sz fr tw ta wd wb wp ou o1 o2 pf pt ki bi ste hel low hgh su ro fe vs wn tp dp la rst hlf nd rt frd fa at_ (nI (adr E)) ab fo co ll lh hm) 24 [.ref 0, .int (nI P)] N (pG (mW pa va sz fr tw ta wd wb wp ou o1 o2 pf pt ki bi ste hel low hgh su ro fe vs wn tp dp la rst hlf nd rt frd fa at_ (nI (adr E)) ab fo co ll lh hm) N (some (.int (if lfT E P = true then 1 else 0)))) := by
  have hb : adr E < 1600 := hgd.2.2 _ (adr_ids _ hgd.1)
  have hcl : (nI (adr E)).toNatClampNeg = adr E := nI_clamp (by omega)
  refine enter (lv := [(0, .ref 0), (1, .int (nI P))]) (by decide +kernel) (Nat.le_of_ble_eq_true rfl) rfl hAD (fun U hK => ns_write hK hN) ?_
  intro p0 e s m below meth c A args hA C hr hlk hnm
  obtain ⟨gT, gv, gi⟩ := hgd
  rcases shp E gT with ⟨q, rfl⟩ | ⟨q, d, rfl⟩ | ⟨q, p, v, rfl⟩ | ⟨q, B0, S0, x, y, rfl⟩
  · have hk : ki (adr (tE q)) = 3 := gv
    refine sg C foX9 coX9 oX9_isThere_0 rfl rfl rfl ⟨vp_in_nI (by omega) (by decide), trivial⟩ ?_
    rw [hcl]
    refine b2_ne (tgt := 30) C jX9_isThere_10 (by decide) (fun h10 => ?_) (fun h10 => ?_)
    · refine sg0 C foX9 coX9 oX9_isThere_30 rfl rfl rfl ?_
      exact rt_z C hr hlk (by decide) jX9_isThere_31 (fun H hN => ⟨⟨rfl, rfl⟩, hN⟩)
    · exact absurd (hk.symm.trans h10) (by decide)
  · have hk : ki (adr (tH q d)) = 0 := gv.1
    refine sg C foX9 coX9 oX9_isThere_0 rfl rfl rfl ⟨vp_in_nI (by omega) (by decide), trivial⟩ ?_
    rw [hcl]
    refine b2_ne (tgt := 30) C jX9_isThere_10 (by decide) (fun h10 => ?_) (fun h10 => ?_)
    · refine sg0 C foX9 coX9 oX9_isThere_30 rfl rfl rfl ?_
      exact rt_z C hr hlk (by decide) jX9_isThere_31 (fun H hN => ⟨⟨rfl, rfl⟩, hN⟩)
    · exact absurd (hk.symm.trans h10) (by decide)
  · have hk : ki (adr (tL q p v)) = 2 := gv.1
    have hs : ste (adr (tL q p v)) = nI p := gv.2.1
    have hpp : p < 65536 := hfit
    refine sg C foX9 coX9 oX9_isThere_0 rfl rfl rfl ⟨vp_in_nI (by omega) (by decide), trivial⟩ ?_
    rw [hcl]
    refine b2_ne (tgt := 30) C jX9_isThere_10 (by decide) (fun h10 => ?_) (fun h10 => ?_)
    · exact absurd hk h10
    · refine sg C foX9 coX9 oX9_isThere_13 rfl rfl rfl ⟨vp_in_nI (by omega) (by decide), trivial⟩ ?_
      rw [hcl, hs]
      refine b2_ne (tgt := 30) C jX9_isThere_23 (by decide) (fun h23 => ?_) (fun h23 => ?_)
      · have hq : ¬ p = P := fun e9 => h23 (by rw [e9])
        refine sg0 C foX9 coX9 oX9_isThere_30 rfl rfl rfl ?_
        exact rt_z C hr hlk (by decide) jX9_isThere_31 (fun H hH => ⟨⟨by rw [show lfT (tL q p v) P = decide (p = P) from rfl, decide_eq_false hq]; rfl, rfl⟩, hH⟩)
      · have hq : p = P := (nI_eq (by omega) (by omega)).mp h23
        refine sg0 C foX9 coX9 oX9_isThere_26 rfl rfl rfl ?_
        exact rt_z C hr hlk (by decide) jX9_isThere_31 (fun H hH => ⟨⟨by rw [show lfT (tL q p v) P = decide (p = P) from rfl, decide_eq_true hq]; rfl, rfl⟩, hH⟩)
  · have hk : ki (adr (tF q B0 S0 x y)) = 1 := gv.1.1
    refine sg C foX9 coX9 oX9_isThere_0 rfl rfl rfl ⟨vp_in_nI (by omega) (by decide), trivial⟩ ?_
    rw [hcl]
    refine b2_ne (tgt := 30) C jX9_isThere_10 (by decide) (fun h10 => ?_) (fun h10 => ?_)
    · refine sg0 C foX9 coX9 oX9_isThere_30 rfl rfl rfl ?_
      exact rt_z C hr hlk (by decide) jX9_isThere_31 (fun H hN => ⟨⟨rfl, rfl⟩, hN⟩)
    · exact absurd (hk.symm.trans h10) (by decide)

set_option maxRecDepth 100000 in
set_option maxHeartbeats 4000000 in
theorem kX9_get (hAD : AD ad 24) (hN : NS D N) {U : Term} (hgd : gdV (ki, bi, ste, hel, low, hgh) U) (hfit : fitT U 16) {P : Nat} (hP : P < 65536) : Ct l yX9_get cX9_get 2 (some .int) (rK 3 0 0) D ca ad (mW pa va sz fr tw ta wd wb wp ou o1 o2 pf pt ki bi ste hel low hgh su ro fe vs wn tp dp la rst hlf nd (nI (adr U)) frd fa at_ end_ ab fo co ll lh hm) 24 [.ref 0, .int (nI P)] N (fun r ws2 H => ∃ (e2 a2 : Int32), (r = some (.int (if isH (wayT U P) = true then -4 else if lfT (wayT U P) P = true then 1 else 0)) ∧ ws2 = (mW pa va sz fr tw ta wd wb wp ou o1 o2 pf pt ki bi ste hel low hgh su ro fe vs wn tp dp la rst hlf nd (nI (adr U)) frd fa at_ e2 a2 (lvT (wayT U P) P) co ll lh hm)) ∧ N H) := by
  have hb : adr U < 1600 := hgd.2.2 _ (adr_ids _ hgd.1)
  have hP1 : 0 ≤ nI P ∧ nI P ≤ 65535 := ⟨show nI 0 ≤ nI P from nI_le (by omega) (by omega), show nI P ≤ nI 65535 from nI_le (by omega) (by decide)⟩
  have hge := way_gd U P hgd
  have hbe : adr (wayT U P) < 1600 := hge.2.2 _ (adr_ids _ hge.1)
  have hcl : (nI (adr (wayT U P))).toNatClampNeg = adr (wayT U P) := nI_clamp (by omega)
  obtain ⟨j, hj, hfe⟩ := way_ft U hgd.1 P 16 (by decide) hfit
  refine enter (lv := [(0, .ref 0), (1, .int (nI P))]) (by decide +kernel) (Nat.le_of_ble_eq_true rfl) rfl hAD (fun U hK => ns_write hK hN) ?_
  intro p e s m below meth c A args hA C hr hlk hnm
  refine sg0 C foX9 coX9 oX9_get_0 rfl rfl rfl ?_
  refine cl_s C (kX9_isPath hAD rfl hN (nI P)) cd_X9_isPath in_X9 ml_X9_101 sm_X9_isPath hd_X9_isPath rfl rfl ⟨(Nat.le_of_ble_eq_true rfl), (Nat.le_of_ble_eq_true rfl)⟩ ⟨(Nat.le_of_ble_eq_true rfl), (Nat.le_of_ble_eq_true rfl)⟩ (Nat.le_of_ble_eq_true rfl) jX9_get_6 (fun v ws' => Wa.and (fun hv => ?_))
  obtain ⟨rfl, rfl⟩ := hv
  refine b1_eq (tgt := 21) C jX9_get_9 (by decide) (fun h9 => ?_) (fun h9 => ?_)
  · exact absurd h9 (by rw [if_pos hP1]; decide)
  · refine sg0 C foX9 coX9 oX9_get_12 rfl rfl rfl ?_
    refine b2_ne (tgt := 35) C jX9_get_18 (by decide) (fun h18 => ?_) (fun h18 => ?_)
    · refine sg0 C foX9 coX9 oX9_get_35 rfl rfl rfl ?_
      refine cl_v C (kX9_way hAD hN hgd hfit hP) (rcv (ci := 8) C.2.1 rfl rfl) cd_X9_way in_X9 ml_X9_206 im_X9_way se_X9_way hd_X9_way rfl rfl ⟨(Nat.le_of_ble_eq_true rfl), (Nat.le_of_ble_eq_true rfl)⟩ ⟨(Nat.le_of_ble_eq_true rfl), (Nat.le_of_ble_eq_true rfl)⟩ (Nat.le_of_ble_eq_true rfl) jX9_get_37 (fun v ws' => Wa.and (fun hv => ?_))
      obtain ⟨rfl, rfl⟩ := hv
      refine sg C foX9 coX9 oX9_get_40 rfl rfl rfl ⟨vp_in_nI (by omega) (by decide), trivial⟩ ?_
      rw [hcl]
      refine b1_ne (tgt := 55) C jX9_get_49 (by decide) (fun h49 => ?_) (fun h49 => ?_)
      · have hH : ¬ isH (wayT U P) = true := fun e9 => h49 ((vt_k0 hge).mpr e9)
        refine sg0 C foX9 coX9 oX9_get_55 rfl rfl rfl ?_
        refine cl_v C (kX9_isThere hAD hN hge hfe hP) (rcv (ci := 8) C.2.1 rfl rfl) cd_X9_isThere in_X9 ml_X9_210 im_X9_isThere se_X9_isThere hd_X9_isThere rfl rfl ⟨(Nat.le_of_ble_eq_true rfl), (Nat.le_of_ble_eq_true rfl)⟩ ⟨(Nat.le_of_ble_eq_true rfl), (Nat.le_of_ble_eq_true rfl)⟩ (Nat.le_of_ble_eq_true rfl) jX9_get_58 (fun v ws' => Wa.and (fun hv => ?_))
        obtain ⟨rfl, rfl⟩ := hv
        refine b1_eq (tgt := 76) C jX9_get_61 (by decide) (fun h61 => ?_) (fun h61 => ?_)
        · have hlf : ¬ lfT (wayT U P) P = true := fun e9 => by rw [if_pos e9] at h61; exact absurd h61 (by decide)
          refine sg0 C foX9 coX9 oX9_get_76 rfl rfl rfl ?_
          refine sg0 C foX9 coX9 oX9_get_77 rfl rfl rfl ?_
          refine cl_v C (kX9_isThere hAD hN hge hfe hP) (rcv (ci := 8) C.2.1 rfl rfl) cd_X9_isThere in_X9 ml_X9_210 im_X9_isThere se_X9_isThere hd_X9_isThere rfl rfl ⟨(Nat.le_of_ble_eq_true rfl), (Nat.le_of_ble_eq_true rfl)⟩ ⟨(Nat.le_of_ble_eq_true rfl), (Nat.le_of_ble_eq_true rfl)⟩ (Nat.le_of_ble_eq_true rfl) jX9_get_82 (fun v ws' => Wa.and (fun hv => ?_))
          obtain ⟨rfl, rfl⟩ := hv
          refine b1_eq (tgt := 92) C jX9_get_85 (by decide) (fun h85 => ?_) (fun h85 => ?_)
          · refine sg0 C foX9 coX9 oX9_get_92 rfl rfl rfl ?_
            exact rt_i C hr hlk jX9_get_93 (fun H hH2 => ⟨_, _, ⟨by rw [if_neg hH, if_neg hlf], by rw [lv_no hlf]⟩, hH2⟩)
          · exact absurd (if_neg hlf) h85
        · have hlf : lfT (wayT U P) P = true := Decidable.byContradiction fun e9 => h61 (if_neg e9)
          refine sg C foX9 coX9 oX9_get_64 rfl rfl rfl ⟨vp_in_nI (by omega) (by decide), trivial⟩ ?_
          refine sg0 C foX9 coX9 oX9_get_77 rfl rfl rfl ?_
          refine cl_v C (kX9_isThere hAD hN hge hfe hP) (rcv (ci := 8) C.2.1 rfl rfl) cd_X9_isThere in_X9 ml_X9_210 im_X9_isThere se_X9_isThere hd_X9_isThere rfl rfl ⟨(Nat.le_of_ble_eq_true rfl), (Nat.le_of_ble_eq_true rfl)⟩ ⟨(Nat.le_of_ble_eq_true rfl), (Nat.le_of_ble_eq_true rfl)⟩ (Nat.le_of_ble_eq_true rfl) jX9_get_82 (fun v ws' => Wa.and (fun hv => ?_))
          obtain ⟨rfl, rfl⟩ := hv
          refine b1_eq (tgt := 92) C jX9_get_85 (by decide) (fun h85 => ?_) (fun h85 => ?_)
          · exact absurd h85 (by rw [if_pos hlf]; decide)
          · refine sg0 C foX9 coX9 oX9_get_88 rfl rfl rfl ?_
            exact rt_i C hr hlk jX9_get_93 (fun H hH2 => ⟨_, _, ⟨by rw [if_neg hH, if_pos hlf], by rw [hcl, show hel (adr (wayT U P)) = _ from lv_yes hge hlf]⟩, hH2⟩)
      · have hH : isH (wayT U P) = true := (vt_k0 hge).mp h49
        refine sg0 C foX9 coX9 oX9_get_52 rfl rfl rfl ?_
        exact rt_i C hr hlk jX9_get_54 (fun H hH2 => ⟨_, _, ⟨by rw [if_pos hH], by rw [lv_no (lf_H hH)]⟩, hH2⟩)
    · exact absurd h18 (nI_m2 (by omega))
set_option maxRecDepth 100000 in
set_option maxHeartbeats 4000000 in
theorem kX9_get_none (hAD : AD ad 24) (hN : NS D N) {P : Nat} (hP : P < 65536) : Ct l yX9_get cX9_get 2 (some .int) (rK 1 0 0) D ca ad (mW pa va sz fr tw ta wd wb wp ou o1 o2 pf pt ki bi ste hel low hgh su ro fe vs wn tp dp la rst hlf nd (-2) frd fa at_ end_ ab fo co ll lh hm) 24 [.ref 0, .int (nI P)] N (pG (mW pa va sz fr tw ta wd wb wp ou o1 o2 pf pt ki bi ste hel low hgh su ro fe vs wn tp dp la rst hlf nd (-2) frd fa at_ end_ ab 0 co ll lh hm) N (some (.int (-2)))) := by
  have hP1 : 0 ≤ nI P ∧ nI P ≤ 65535 := ⟨show nI 0 ≤ nI P from nI_le (by omega) (by omega), show nI P ≤ nI 65535 from nI_le (by omega) (by decide)⟩
  refine enter (lv := [(0, .ref 0), (1, .int (nI P))]) (by decide +kernel) (Nat.le_of_ble_eq_true rfl) rfl hAD (fun U hK => ns_write hK hN) ?_
  intro p e s m below meth c A args hA C hr hlk hnm
  refine sg0 C foX9 coX9 oX9_get_0 rfl rfl rfl ?_
  refine cl_s C (kX9_isPath hAD rfl hN (nI P)) cd_X9_isPath in_X9 ml_X9_101 sm_X9_isPath hd_X9_isPath rfl rfl ⟨(Nat.le_of_ble_eq_true rfl), (Nat.le_of_ble_eq_true rfl)⟩ ⟨(Nat.le_of_ble_eq_true rfl), (Nat.le_of_ble_eq_true rfl)⟩ (Nat.le_of_ble_eq_true rfl) jX9_get_6 (fun v ws' => Wa.and (fun hv => ?_))
  obtain ⟨rfl, rfl⟩ := hv
  refine b1_eq (tgt := 21) C jX9_get_9 (by decide) (fun h9 => ?_) (fun h9 => ?_)
  · exact absurd h9 (by rw [if_pos hP1]; decide)
  · refine sg0 C foX9 coX9 oX9_get_12 rfl rfl rfl ?_
    refine b2_ne (tgt := 35) C jX9_get_18 (by decide) (fun h18 => ?_) (fun h18 => ?_)
    · exact absurd rfl h18
    · refine sg0 C foX9 coX9 oX9_get_21 rfl rfl rfl ?_
      refine cl_s C (kX9_isPath hAD rfl hN (nI P)) cd_X9_isPath in_X9 ml_X9_101 sm_X9_isPath hd_X9_isPath rfl rfl ⟨(Nat.le_of_ble_eq_true rfl), (Nat.le_of_ble_eq_true rfl)⟩ ⟨(Nat.le_of_ble_eq_true rfl), (Nat.le_of_ble_eq_true rfl)⟩ (Nat.le_of_ble_eq_true rfl) jX9_get_22 (fun v ws' => Wa.and (fun hv => ?_))
      obtain ⟨rfl, rfl⟩ := hv
      refine b1_ne (tgt := 32) C jX9_get_25 (by decide) (fun h25 => ?_) (fun h25 => ?_)
      · refine sg0 C foX9 coX9 oX9_get_32 rfl rfl rfl ?_
        exact rt_i C hr hlk jX9_get_34 (fun H hN => ⟨⟨rfl, rfl⟩, hN⟩)
      · exact absurd h25 (by rw [if_pos hP1]; decide)
set_option maxRecDepth 100000 in
set_option maxHeartbeats 4000000 in
theorem kX9_get_bad (hAD : AD ad 24) (hN : NS D N) {x : Int32} (hx : ¬ (0 ≤ x ∧ x ≤ 65535)) : Ct l yX9_get cX9_get 2 (some .int) (rK 1 0 0) D ca ad (mW pa va sz fr tw ta wd wb wp ou o1 o2 pf pt ki bi ste hel low hgh su ro fe vs wn tp dp la rst hlf nd rt frd fa at_ end_ ab fo co ll lh hm) 24 [.ref 0, .int x] N (pG (mW pa va sz fr tw ta wd wb wp ou o1 o2 pf pt ki bi ste hel low hgh su ro fe vs wn tp dp la rst hlf nd rt frd fa at_ end_ ab 0 co ll lh hm) N (some (.int (-1)))) := by
  refine enter (lv := [(0, .ref 0), (1, .int x)]) (by decide +kernel) (Nat.le_of_ble_eq_true rfl) rfl hAD (fun U hK => ns_write hK hN) ?_
  intro p e s m below meth c A args hA C hr hlk hnm
  refine sg0 C foX9 coX9 oX9_get_0 rfl rfl rfl ?_
  refine cl_s C (kX9_isPath hAD rfl hN x) cd_X9_isPath in_X9 ml_X9_101 sm_X9_isPath hd_X9_isPath rfl rfl ⟨(Nat.le_of_ble_eq_true rfl), (Nat.le_of_ble_eq_true rfl)⟩ ⟨(Nat.le_of_ble_eq_true rfl), (Nat.le_of_ble_eq_true rfl)⟩ (Nat.le_of_ble_eq_true rfl) jX9_get_6 (fun v ws' => Wa.and (fun hv => ?_))
  obtain ⟨rfl, rfl⟩ := hv
  refine b1_eq (tgt := 21) C jX9_get_9 (by decide) (fun h9 => ?_) (fun h9 => ?_)
  · refine sg0 C foX9 coX9 oX9_get_21 rfl rfl rfl ?_
    refine cl_s C (kX9_isPath hAD rfl hN x) cd_X9_isPath in_X9 ml_X9_101 sm_X9_isPath hd_X9_isPath rfl rfl ⟨(Nat.le_of_ble_eq_true rfl), (Nat.le_of_ble_eq_true rfl)⟩ ⟨(Nat.le_of_ble_eq_true rfl), (Nat.le_of_ble_eq_true rfl)⟩ (Nat.le_of_ble_eq_true rfl) jX9_get_22 (fun v ws' => Wa.and (fun hv => ?_))
    obtain ⟨rfl, rfl⟩ := hv
    refine b1_ne (tgt := 32) C jX9_get_25 (by decide) (fun h25 => ?_) (fun h25 => ?_)
    · exact absurd (if_neg hx) h25
    · refine sg0 C foX9 coX9 oX9_get_28 rfl rfl rfl ?_
      exact rt_i C hr hlk jX9_get_34 (fun H hN => ⟨⟨rfl, rfl⟩, hN⟩)
  · exact absurd (if_neg hx) h9
set_option maxRecDepth 100000 in
set_option maxHeartbeats 4000000 in
theorem kX9_erase_none (hAD : AD ad 24) (hN : NS D N) {P : Nat} (hP : P < 65536) : Ct l yX9_erase cX9_erase 7 (some .int) (rK 1 0 0) D ca ad (mW pa va sz fr tw ta wd wb wp ou o1 o2 pf pt ki bi ste hel low hgh su ro fe vs wn tp dp la rst hlf nd (-2) frd fa at_ end_ ab fo co ll lh hm) 24 [.ref 0, .int (nI P)] N (pG (mW pa va sz fr tw ta wd wb wp ou o1 o2 pf pt ki bi ste hel low hgh su ro fe vs wn tp dp la rst hlf nd (-2) frd fa at_ end_ ab fo co ll lh hm) N (some (.int (-2)))) := by
  have hP1 : 0 ≤ nI P ∧ nI P ≤ 65535 := ⟨show nI 0 ≤ nI P from nI_le (by omega) (by omega), show nI P ≤ nI 65535 from nI_le (by omega) (by decide)⟩
  refine enter (lv := [(0, .ref 0), (1, .int (nI P))]) (by decide +kernel) (Nat.le_of_ble_eq_true rfl) rfl hAD (fun U hK => ns_write hK hN) ?_
  intro p e s m below meth c A args hA C hr hlk hnm
  refine sg0 C foX9 coX9 oX9_erase_0 rfl rfl rfl ?_
  refine cl_s C (kX9_isPath hAD rfl hN (nI P)) cd_X9_isPath in_X9 ml_X9_101 sm_X9_isPath hd_X9_isPath rfl rfl ⟨(Nat.le_of_ble_eq_true rfl), (Nat.le_of_ble_eq_true rfl)⟩ ⟨(Nat.le_of_ble_eq_true rfl), (Nat.le_of_ble_eq_true rfl)⟩ (Nat.le_of_ble_eq_true rfl) jX9_erase_1 (fun v ws' => Wa.and (fun hv => ?_))
  obtain ⟨rfl, rfl⟩ := hv
  refine b1_eq (tgt := 16) C jX9_erase_4 (by decide) (fun h4 => ?_) (fun h4 => ?_)
  · exact absurd h4 (by rw [if_pos hP1]; decide)
  · refine sg0 C foX9 coX9 oX9_erase_7 rfl rfl rfl ?_
    refine b2_ne (tgt := 30) C jX9_erase_13 (by decide) (fun h13 => ?_) (fun h13 => ?_)
    · exact absurd rfl h13
    · refine sg0 C foX9 coX9 oX9_erase_16 rfl rfl rfl ?_
      refine cl_s C (kX9_isPath hAD rfl hN (nI P)) cd_X9_isPath in_X9 ml_X9_101 sm_X9_isPath hd_X9_isPath rfl rfl ⟨(Nat.le_of_ble_eq_true rfl), (Nat.le_of_ble_eq_true rfl)⟩ ⟨(Nat.le_of_ble_eq_true rfl), (Nat.le_of_ble_eq_true rfl)⟩ (Nat.le_of_ble_eq_true rfl) jX9_erase_17 (fun v ws' => Wa.and (fun hv => ?_))
      obtain ⟨rfl, rfl⟩ := hv
      refine b1_ne (tgt := 27) C jX9_erase_20 (by decide) (fun h20 => ?_) (fun h20 => ?_)
      · refine sg0 C foX9 coX9 oX9_erase_27 rfl rfl rfl ?_
        exact rt_i C hr hlk jX9_erase_29 (fun H hN => ⟨⟨rfl, rfl⟩, hN⟩)
      · exact absurd h20 (by rw [if_pos hP1]; decide)
set_option maxRecDepth 100000 in
set_option maxHeartbeats 4000000 in
theorem kX9_erase_bad (hAD : AD ad 24) (hN : NS D N) {x : Int32} (hx : ¬ (0 ≤ x ∧ x ≤ 65535)) : Ct l yX9_erase cX9_erase 7 (some .int) (rK 1 0 0) D ca ad (mW pa va sz fr tw ta wd wb wp ou o1 o2 pf pt ki bi ste hel low hgh su ro fe vs wn tp dp la rst hlf nd rt frd fa at_ end_ ab fo co ll lh hm) 24 [.ref 0, .int x] N (pG (mW pa va sz fr tw ta wd wb wp ou o1 o2 pf pt ki bi ste hel low hgh su ro fe vs wn tp dp la rst hlf nd rt frd fa at_ end_ ab fo co ll lh hm) N (some (.int (-1)))) := by
  refine enter (lv := [(0, .ref 0), (1, .int x)]) (by decide +kernel) (Nat.le_of_ble_eq_true rfl) rfl hAD (fun U hK => ns_write hK hN) ?_
  intro p e s m below meth c A args hA C hr hlk hnm
  refine sg0 C foX9 coX9 oX9_erase_0 rfl rfl rfl ?_
  refine cl_s C (kX9_isPath hAD rfl hN x) cd_X9_isPath in_X9 ml_X9_101 sm_X9_isPath hd_X9_isPath rfl rfl ⟨(Nat.le_of_ble_eq_true rfl), (Nat.le_of_ble_eq_true rfl)⟩ ⟨(Nat.le_of_ble_eq_true rfl), (Nat.le_of_ble_eq_true rfl)⟩ (Nat.le_of_ble_eq_true rfl) jX9_erase_1 (fun v ws' => Wa.and (fun hv => ?_))
  obtain ⟨rfl, rfl⟩ := hv
  refine b1_eq (tgt := 16) C jX9_erase_4 (by decide) (fun h4 => ?_) (fun h4 => ?_)
  · refine sg0 C foX9 coX9 oX9_erase_16 rfl rfl rfl ?_
    refine cl_s C (kX9_isPath hAD rfl hN x) cd_X9_isPath in_X9 ml_X9_101 sm_X9_isPath hd_X9_isPath rfl rfl ⟨(Nat.le_of_ble_eq_true rfl), (Nat.le_of_ble_eq_true rfl)⟩ ⟨(Nat.le_of_ble_eq_true rfl), (Nat.le_of_ble_eq_true rfl)⟩ (Nat.le_of_ble_eq_true rfl) jX9_erase_17 (fun v ws' => Wa.and (fun hv => ?_))
    obtain ⟨rfl, rfl⟩ := hv
    refine b1_ne (tgt := 27) C jX9_erase_20 (by decide) (fun h20 => ?_) (fun h20 => ?_)
    · exact absurd (if_neg hx) h20
    · refine sg0 C foX9 coX9 oX9_erase_23 rfl rfl rfl ?_
      exact rt_i C hr hlk jX9_erase_29 (fun H hN => ⟨⟨rfl, rfl⟩, hN⟩)
  · exact absurd (if_neg hx) h4
set_option maxRecDepth 100000 in
set_option maxHeartbeats 4000000 in
theorem kX9_next_none (hAD : AD ad 24) (hN : NS D N) {P : Nat} (hP : P < 65536) : Ct l yX9_next cX9_next 2 (some .int) (rK 1 0 0) D ca ad (mW pa va sz fr tw ta wd wb wp ou o1 o2 pf pt ki bi ste hel low hgh su ro fe vs wn tp dp la rst hlf nd (-2) frd fa at_ end_ ab fo co ll lh hm) 24 [.ref 0, .int (nI P)] N (pG (mW pa va sz fr tw ta wd wb wp ou o1 o2 pf pt ki bi ste hel low hgh su ro fe vs wn tp dp la rst hlf nd (-2) frd fa at_ end_ ab fo co ll lh hm) N (some (.int (-2)))) := by
  have hP1 : 0 ≤ nI P ∧ nI P ≤ 65535 := ⟨show nI 0 ≤ nI P from nI_le (by omega) (by omega), show nI P ≤ nI 65535 from nI_le (by omega) (by decide)⟩
  refine enter (lv := [(0, .ref 0), (1, .int (nI P))]) (by decide +kernel) (Nat.le_of_ble_eq_true rfl) rfl hAD (fun U hK => ns_write hK hN) ?_
  intro p e s m below meth c A args hA C hr hlk hnm
  refine sg0 C foX9 coX9 oX9_next_0 rfl rfl rfl ?_
  refine cl_s C (kX9_isPath hAD rfl hN (nI P)) cd_X9_isPath in_X9 ml_X9_101 sm_X9_isPath hd_X9_isPath rfl rfl ⟨(Nat.le_of_ble_eq_true rfl), (Nat.le_of_ble_eq_true rfl)⟩ ⟨(Nat.le_of_ble_eq_true rfl), (Nat.le_of_ble_eq_true rfl)⟩ (Nat.le_of_ble_eq_true rfl) jX9_next_1 (fun v ws' => Wa.and (fun hv => ?_))
  obtain ⟨rfl, rfl⟩ := hv
  refine b1_eq (tgt := 16) C jX9_next_4 (by decide) (fun h4 => ?_) (fun h4 => ?_)
  · exact absurd h4 (by rw [if_pos hP1]; decide)
  · refine sg0 C foX9 coX9 oX9_next_7 rfl rfl rfl ?_
    refine b2_ne (tgt := 30) C jX9_next_13 (by decide) (fun h13 => ?_) (fun h13 => ?_)
    · exact absurd rfl h13
    · refine sg0 C foX9 coX9 oX9_next_16 rfl rfl rfl ?_
      refine cl_s C (kX9_isPath hAD rfl hN (nI P)) cd_X9_isPath in_X9 ml_X9_101 sm_X9_isPath hd_X9_isPath rfl rfl ⟨(Nat.le_of_ble_eq_true rfl), (Nat.le_of_ble_eq_true rfl)⟩ ⟨(Nat.le_of_ble_eq_true rfl), (Nat.le_of_ble_eq_true rfl)⟩ (Nat.le_of_ble_eq_true rfl) jX9_next_17 (fun v ws' => Wa.and (fun hv => ?_))
      obtain ⟨rfl, rfl⟩ := hv
      refine b1_ne (tgt := 27) C jX9_next_20 (by decide) (fun h20 => ?_) (fun h20 => ?_)
      · refine sg0 C foX9 coX9 oX9_next_27 rfl rfl rfl ?_
        exact rt_i C hr hlk jX9_next_29 (fun H hN => ⟨⟨rfl, rfl⟩, hN⟩)
      · exact absurd h20 (by rw [if_pos hP1]; decide)
set_option maxRecDepth 100000 in
set_option maxHeartbeats 4000000 in
theorem kX9_next_bad (hAD : AD ad 24) (hN : NS D N) {x : Int32} (hx : ¬ (0 ≤ x ∧ x ≤ 65535)) : Ct l yX9_next cX9_next 2 (some .int) (rK 1 0 0) D ca ad (mW pa va sz fr tw ta wd wb wp ou o1 o2 pf pt ki bi ste hel low hgh su ro fe vs wn tp dp la rst hlf nd rt frd fa at_ end_ ab fo co ll lh hm) 24 [.ref 0, .int x] N (pG (mW pa va sz fr tw ta wd wb wp ou o1 o2 pf pt ki bi ste hel low hgh su ro fe vs wn tp dp la rst hlf nd rt frd fa at_ end_ ab fo co ll lh hm) N (some (.int (-1)))) := by
  refine enter (lv := [(0, .ref 0), (1, .int x)]) (by decide +kernel) (Nat.le_of_ble_eq_true rfl) rfl hAD (fun U hK => ns_write hK hN) ?_
  intro p e s m below meth c A args hA C hr hlk hnm
  refine sg0 C foX9 coX9 oX9_next_0 rfl rfl rfl ?_
  refine cl_s C (kX9_isPath hAD rfl hN x) cd_X9_isPath in_X9 ml_X9_101 sm_X9_isPath hd_X9_isPath rfl rfl ⟨(Nat.le_of_ble_eq_true rfl), (Nat.le_of_ble_eq_true rfl)⟩ ⟨(Nat.le_of_ble_eq_true rfl), (Nat.le_of_ble_eq_true rfl)⟩ (Nat.le_of_ble_eq_true rfl) jX9_next_1 (fun v ws' => Wa.and (fun hv => ?_))
  obtain ⟨rfl, rfl⟩ := hv
  refine b1_eq (tgt := 16) C jX9_next_4 (by decide) (fun h4 => ?_) (fun h4 => ?_)
  · refine sg0 C foX9 coX9 oX9_next_16 rfl rfl rfl ?_
    refine cl_s C (kX9_isPath hAD rfl hN x) cd_X9_isPath in_X9 ml_X9_101 sm_X9_isPath hd_X9_isPath rfl rfl ⟨(Nat.le_of_ble_eq_true rfl), (Nat.le_of_ble_eq_true rfl)⟩ ⟨(Nat.le_of_ble_eq_true rfl), (Nat.le_of_ble_eq_true rfl)⟩ (Nat.le_of_ble_eq_true rfl) jX9_next_17 (fun v ws' => Wa.and (fun hv => ?_))
    obtain ⟨rfl, rfl⟩ := hv
    refine b1_ne (tgt := 27) C jX9_next_20 (by decide) (fun h20 => ?_) (fun h20 => ?_)
    · exact absurd (if_neg hx) h20
    · refine sg0 C foX9 coX9 oX9_next_23 rfl rfl rfl ?_
      exact rt_i C hr hlk jX9_next_29 (fun H hN => ⟨⟨rfl, rfl⟩, hN⟩)
  · exact absurd (if_neg hx) h4
set_option maxRecDepth 100000 in
set_option maxHeartbeats 4000000 in
theorem kX9_write_none (hAD : AD ad 24) (hN : NS D N) {P : Nat} (hP : P < 65536) (v : Int64) : Ct l yX9_write cX9_write 8 (some .int) (rK 1 0 0) D ca ad (mW pa va sz fr tw ta wd wb wp ou o1 o2 pf pt ki bi ste hel low hgh su ro fe vs wn tp dp la rst hlf nd (-2) frd fa at_ end_ ab fo co ll lh hm) 24 [.ref 0, .int (nI P), .long v] N (pG (mW pa va sz fr tw ta wd wb wp ou o1 o2 pf pt ki bi ste hel low hgh su ro fe vs wn tp dp la rst hlf nd (-2) frd fa at_ end_ ab fo co ll lh hm) N (some (.int (-2)))) := by
  have hP1 : 0 ≤ nI P ∧ nI P ≤ 65535 := ⟨show nI 0 ≤ nI P from nI_le (by omega) (by omega), show nI P ≤ nI 65535 from nI_le (by omega) (by decide)⟩
  refine enter (lv := [(0, .ref 0), (1, .int (nI P)), (2, .long v)]) (by decide +kernel) (Nat.le_of_ble_eq_true rfl) rfl hAD (fun U hK => ns_write hK hN) ?_
  intro p e s m below meth c A args hA C hr hlk hnm
  refine sg0 C foX9 coX9 oX9_write_0 rfl rfl rfl ?_
  refine cl_s C (kX9_isPath hAD rfl hN (nI P)) cd_X9_isPath in_X9 ml_X9_101 sm_X9_isPath hd_X9_isPath rfl rfl ⟨(Nat.le_of_ble_eq_true rfl), (Nat.le_of_ble_eq_true rfl)⟩ ⟨(Nat.le_of_ble_eq_true rfl), (Nat.le_of_ble_eq_true rfl)⟩ (Nat.le_of_ble_eq_true rfl) jX9_write_1 (fun v ws' => Wa.and (fun hv => ?_))
  obtain ⟨rfl, rfl⟩ := hv
  refine b1_eq (tgt := 16) C jX9_write_4 (by decide) (fun h4 => ?_) (fun h4 => ?_)
  · exact absurd h4 (by rw [if_pos hP1]; decide)
  · refine sg0 C foX9 coX9 oX9_write_7 rfl rfl rfl ?_
    refine b2_ne (tgt := 30) C jX9_write_13 (by decide) (fun h13 => ?_) (fun h13 => ?_)
    · exact absurd rfl h13
    · refine sg0 C foX9 coX9 oX9_write_16 rfl rfl rfl ?_
      refine cl_s C (kX9_isPath hAD rfl hN (nI P)) cd_X9_isPath in_X9 ml_X9_101 sm_X9_isPath hd_X9_isPath rfl rfl ⟨(Nat.le_of_ble_eq_true rfl), (Nat.le_of_ble_eq_true rfl)⟩ ⟨(Nat.le_of_ble_eq_true rfl), (Nat.le_of_ble_eq_true rfl)⟩ (Nat.le_of_ble_eq_true rfl) jX9_write_17 (fun v ws' => Wa.and (fun hv => ?_))
      obtain ⟨rfl, rfl⟩ := hv
      refine b1_ne (tgt := 27) C jX9_write_20 (by decide) (fun h20 => ?_) (fun h20 => ?_)
      · refine sg0 C foX9 coX9 oX9_write_27 rfl rfl rfl ?_
        exact rt_i C hr hlk jX9_write_29 (fun H hN => ⟨⟨rfl, rfl⟩, hN⟩)
      · exact absurd h20 (by rw [if_pos hP1]; decide)
set_option maxRecDepth 100000 in
set_option maxHeartbeats 4000000 in
theorem kX9_write_bad (hAD : AD ad 24) (hN : NS D N) {x : Int32} (hx : ¬ (0 ≤ x ∧ x ≤ 65535)) (v : Int64) : Ct l yX9_write cX9_write 8 (some .int) (rK 1 0 0) D ca ad (mW pa va sz fr tw ta wd wb wp ou o1 o2 pf pt ki bi ste hel low hgh su ro fe vs wn tp dp la rst hlf nd rt frd fa at_ end_ ab fo co ll lh hm) 24 [.ref 0, .int x, .long v] N (pG (mW pa va sz fr tw ta wd wb wp ou o1 o2 pf pt ki bi ste hel low hgh su ro fe vs wn tp dp la rst hlf nd rt frd fa at_ end_ ab fo co ll lh hm) N (some (.int (-1)))) := by
  refine enter (lv := [(0, .ref 0), (1, .int x), (2, .long v)]) (by decide +kernel) (Nat.le_of_ble_eq_true rfl) rfl hAD (fun U hK => ns_write hK hN) ?_
  intro p e s m below meth c A args hA C hr hlk hnm
  refine sg0 C foX9 coX9 oX9_write_0 rfl rfl rfl ?_
  refine cl_s C (kX9_isPath hAD rfl hN x) cd_X9_isPath in_X9 ml_X9_101 sm_X9_isPath hd_X9_isPath rfl rfl ⟨(Nat.le_of_ble_eq_true rfl), (Nat.le_of_ble_eq_true rfl)⟩ ⟨(Nat.le_of_ble_eq_true rfl), (Nat.le_of_ble_eq_true rfl)⟩ (Nat.le_of_ble_eq_true rfl) jX9_write_1 (fun v ws' => Wa.and (fun hv => ?_))
  obtain ⟨rfl, rfl⟩ := hv
  refine b1_eq (tgt := 16) C jX9_write_4 (by decide) (fun h4 => ?_) (fun h4 => ?_)
  · refine sg0 C foX9 coX9 oX9_write_16 rfl rfl rfl ?_
    refine cl_s C (kX9_isPath hAD rfl hN x) cd_X9_isPath in_X9 ml_X9_101 sm_X9_isPath hd_X9_isPath rfl rfl ⟨(Nat.le_of_ble_eq_true rfl), (Nat.le_of_ble_eq_true rfl)⟩ ⟨(Nat.le_of_ble_eq_true rfl), (Nat.le_of_ble_eq_true rfl)⟩ (Nat.le_of_ble_eq_true rfl) jX9_write_17 (fun v ws' => Wa.and (fun hv => ?_))
    obtain ⟨rfl, rfl⟩ := hv
    refine b1_ne (tgt := 27) C jX9_write_20 (by decide) (fun h20 => ?_) (fun h20 => ?_)
    · exact absurd (if_neg hx) h20
    · refine sg0 C foX9 coX9 oX9_write_23 rfl rfl rfl ?_
      exact rt_i C hr hlk jX9_write_29 (fun H hN => ⟨⟨rfl, rfl⟩, hN⟩)
  · exact absurd (if_neg hx) h4
set_option maxRecDepth 100000 in
set_option maxHeartbeats 4000000 in
theorem kX9_view (hAD : AD ad 24) (hN : NS D N) {U : Term} (hgd : gdV (ki, bi, ste, hel, low, hgh) U) (hn : nodT U ≤ 800) : Ct l yX9_view cX9_view 1 (some .long) (rK 4 0 0) D ca ad (mW pa va sz fr tw ta wd wb wp ou o1 o2 pf pt ki bi ste hel low hgh su ro fe vs wn tp dp la rst hlf nd (nI (adr U)) frd fa at_ end_ ab fo co ll lh hm) 24 [.ref 0] N (fun r ws2 H => ∃ (su2 : Nat → Int64) (ro2 : Nat → Int32), (r = some (.long (dig U)) ∧ ws2 = (mW pa va sz fr tw ta wd wb wp ou o1 o2 pf pt ki bi ste hel low hgh su2 ro2 fe vs wn tp dp la rst hlf nd (nI (adr U)) frd fa at_ end_ ab fo co ll lh hm)) ∧ N H) := by
  have hb : adr U < 1600 := hgd.2.2 _ (adr_ids _ hgd.1)
  refine enter (lv := [(0, .ref 0)]) (by decide +kernel) (Nat.le_of_ble_eq_true rfl) rfl hAD (fun U hK => ns_write hK hN) ?_
  intro p e s m below meth c A args hA C hr hlk hnm
  refine sg0 C foX9 coX9 oX9_view_0 rfl rfl rfl ?_
  refine b2_ne (tgt := 13) C jX9_view_6 (by decide) (fun h6 => ?_) (fun h6 => ?_)
  · refine sg0 C foX9 coX9 oX9_view_13 rfl rfl rfl ?_
    refine cl_v C (kX9_sumUp hAD hN hgd hn) (rcv (ci := 8) C.2.1 rfl rfl) cd_X9_sumUp in_X9 ml_X9_183 im_X9_sumUp se_X9_sumUp hd_X9_sumUp rfl rfl ⟨(Nat.le_of_ble_eq_true rfl), (Nat.le_of_ble_eq_true rfl)⟩ ⟨(Nat.le_of_ble_eq_true rfl), (Nat.le_of_ble_eq_true rfl)⟩ (Nat.le_of_ble_eq_true rfl) jX9_view_18 (fun v ws' => Wa.ex (fun su2 => Wa.ex (fun ro2 => Wa.and (fun hv => ?_))))
    obtain ⟨rfl, rfl, hsm⟩ := hv
    exact rt_l C hr hlk jX9_view_21 (fun H hH => ⟨su2, ro2, ⟨rfl, rfl⟩, hH⟩)
  · exact absurd h6 (nI_m2 (by omega))
set_option maxRecDepth 100000 in
set_option maxHeartbeats 4000000 in
theorem kX9_view_none (hAD : AD ad 24) (hN : NS D N)  : Ct l yX9_view cX9_view 1 (some .long) (rK 0 0 0) D ca ad (mW pa va sz fr tw ta wd wb wp ou o1 o2 pf pt ki bi ste hel low hgh su ro fe vs wn tp dp la rst hlf nd (-2) frd fa at_ end_ ab fo co ll lh hm) 24 [.ref 0] N (pG (mW pa va sz fr tw ta wd wb wp ou o1 o2 pf pt ki bi ste hel low hgh su ro fe vs wn tp dp la rst hlf nd (-2) frd fa at_ end_ ab fo co ll lh hm) N (some (.long 0))) := by
  refine enter (lv := [(0, .ref 0)]) (by decide +kernel) (Nat.le_of_ble_eq_true rfl) rfl hAD (fun U hK => ns_write hK hN) ?_
  intro p e s m below meth c A args hA C hr hlk hnm
  refine sg0 C foX9 coX9 oX9_view_0 rfl rfl rfl ?_
  refine b2_ne (tgt := 13) C jX9_view_6 (by decide) (fun h6 => ?_) (fun h6 => ?_)
  · exact absurd rfl h6
  · refine sg0 C foX9 coX9 oX9_view_9 rfl rfl rfl ?_
    exact rt_l C hr hlk jX9_view_21 (fun H hN => ⟨⟨rfl, rfl⟩, hN⟩)
set_option maxRecDepth 100000 in
set_option maxHeartbeats 4000000 in
theorem kX9_fresh (hAD : AD ad 24) (hN : NS D N) {n q : Nat} (hn : n < 800) (hq : fe n = nI q) : Ct l yX9_fresh cX9_fresh 1 (some .int) (rK 0 0 0) D ca ad (mW pa va sz fr tw ta wd wb wp ou o1 o2 pf pt ki bi ste hel low hgh su ro fe vs wn tp dp la rst hlf nd rt (nI (n + 1)) fa at_ end_ ab fo co ll lh hm) 24 [.ref 0] N (pG (mW pa va sz fr tw ta wd wb wp ou o1 o2 pf pt ki bi ste hel low hgh su ro fe vs wn tp dp la rst hlf nd rt (nI n) fa at_ end_ ab fo co ll lh hm) N (some (.int (nI q)))) := by
  have hp1 : nI (n + 1) - 1 = nI n := by rw [show (1 : Int32) = nI 1 from rfl, pk_sub (by omega)]; rfl
  refine enter (lv := [(0, .ref 0)]) (by decide +kernel) (Nat.le_of_ble_eq_true rfl) rfl hAD (fun U hK => ns_write hK hN) ?_
  intro p e s m below meth c A args hA C hr hlk hnm
  refine sg C foX9 coX9 oX9_fresh_0 rfl rfl rfl (by rw [hp1]; exact ⟨vp_in_nI (by omega) (by decide), trivial⟩) ?_
  rw [hp1, nI_clamp (show n < 2 ^ 31 by omega), hq]
  exact rt_i C hr hlk jX9_fresh_19 (fun H hN => ⟨⟨rfl, rfl⟩, hN⟩)
set_option maxRecDepth 100000 in
set_option maxHeartbeats 4000000 in
theorem kX9_stand0 (hAD : AD ad 24) (hN : NS D N) {o x : Int32} : Ct l yX9_stand cX9_stand 4 none (rK 0 0 0) D ca ad (mW pa va sz fr tw ta wd wb wp ou o1 o2 pf pt ki bi ste hel low hgh su ro fe vs wn tp dp la rst hlf nd rt frd fa at_ end_ ab fo co ll lh hm) 24 [.ref 0, .int (-2), .int o, .int x] N (pG (mW pa va sz fr tw ta wd wb wp ou o1 o2 pf pt ki bi ste hel low hgh su ro fe vs wn tp dp la rst hlf nd x frd fa at_ end_ ab fo co ll lh hm) N none) := by
  refine enter (lv := [(0, .ref 0), (1, .int (-2)), (2, .int o), (3, .int x)]) (by decide +kernel) (Nat.le_of_ble_eq_true rfl) rfl hAD (fun U hK => ns_write hK hN) ?_
  intro p e s m below meth c A args hA C hr hlk hnm
  refine sg0 C foX9 coX9 oX9_stand_0 rfl rfl rfl ?_
  refine b2_ne (tgt := 14) C jX9_stand_3 (by decide) (fun h3 => ?_) (fun h3 => ?_)
  · exact absurd rfl h3
  · refine sg0 C foX9 coX9 oX9_stand_6 rfl rfl rfl ?_
    exact rt_v C hr hlk jX9_stand_41 (fun H hN => ⟨⟨rfl, rfl⟩, hN⟩)
set_option maxRecDepth 100000 in
set_option maxHeartbeats 4000000 in
theorem kX9_stand1 (hAD : AD ad 24) (hN : NS D N) {a : Nat} (ha : a < 1600) {o x : Int32} (h : low a = o) : Ct l yX9_stand cX9_stand 4 none (rK 0 0 0) D ca ad (mW pa va sz fr tw ta wd wb wp ou o1 o2 pf pt ki bi ste hel low hgh su ro fe vs wn tp dp la rst hlf nd rt frd fa at_ end_ ab fo co ll lh hm) 24 [.ref 0, .int (nI a), .int o, .int x] N (pG (mW pa va sz fr tw ta wd wb wp ou o1 o2 pf pt ki bi ste hel (upd low a x) hgh su ro fe vs wn tp dp la rst hlf nd rt frd fa at_ end_ ab fo co ll lh hm) N none) := by
  have hcl : (nI a).toNatClampNeg = a := nI_clamp (by omega)
  refine enter (lv := [(0, .ref 0), (1, .int (nI a)), (2, .int o), (3, .int x)]) (by decide +kernel) (Nat.le_of_ble_eq_true rfl) rfl hAD (fun U hK => ns_write hK hN) ?_
  intro p e s m below meth c A args hA C hr hlk hnm
  refine sg0 C foX9 coX9 oX9_stand_0 rfl rfl rfl ?_
  refine b2_ne (tgt := 14) C jX9_stand_3 (by decide) (fun h3 => ?_) (fun h3 => ?_)
  · refine sg C foX9 coX9 oX9_stand_14 rfl rfl rfl ⟨vp_in_nI (by omega) (by decide), trivial⟩ ?_
    rw [hcl]
    refine b2_ne (tgt := 34) C jX9_stand_21 (by decide) (fun h21 => ?_) (fun h21 => ?_)
    · exact absurd h h21
    · refine sg C foX9 coX9 oX9_stand_24 rfl rfl rfl ⟨vp_in_nI (by omega) (by decide), trivial⟩ ?_
      rw [hcl]
      exact rt_v C hr hlk jX9_stand_41 (fun H hN => ⟨⟨rfl, rfl⟩, hN⟩)
  · exact absurd h3 (nI_m2 (by omega))
set_option maxRecDepth 100000 in
set_option maxHeartbeats 4000000 in
theorem kX9_stand2 (hAD : AD ad 24) (hN : NS D N) {a : Nat} (ha : a < 1600) {o x : Int32} (h : ¬ low a = o) : Ct l yX9_stand cX9_stand 4 none (rK 0 0 0) D ca ad (mW pa va sz fr tw ta wd wb wp ou o1 o2 pf pt ki bi ste hel low hgh su ro fe vs wn tp dp la rst hlf nd rt frd fa at_ end_ ab fo co ll lh hm) 24 [.ref 0, .int (nI a), .int o, .int x] N (pG (mW pa va sz fr tw ta wd wb wp ou o1 o2 pf pt ki bi ste hel low (upd hgh a x) su ro fe vs wn tp dp la rst hlf nd rt frd fa at_ end_ ab fo co ll lh hm) N none) := by
  have hcl : (nI a).toNatClampNeg = a := nI_clamp (by omega)
  refine enter (lv := [(0, .ref 0), (1, .int (nI a)), (2, .int o), (3, .int x)]) (by decide +kernel) (Nat.le_of_ble_eq_true rfl) rfl hAD (fun U hK => ns_write hK hN) ?_
  intro p e s m below meth c A args hA C hr hlk hnm
  refine sg0 C foX9 coX9 oX9_stand_0 rfl rfl rfl ?_
  refine b2_ne (tgt := 14) C jX9_stand_3 (by decide) (fun h3 => ?_) (fun h3 => ?_)
  · refine sg C foX9 coX9 oX9_stand_14 rfl rfl rfl ⟨vp_in_nI (by omega) (by decide), trivial⟩ ?_
    rw [hcl]
    refine b2_ne (tgt := 34) C jX9_stand_21 (by decide) (fun h21 => ?_) (fun h21 => ?_)
    · refine sg C foX9 coX9 oX9_stand_34 rfl rfl rfl ⟨vp_in_nI (by omega) (by decide), trivial⟩ ?_
      rw [hcl]
      exact rt_v C hr hlk jX9_stand_41 (fun H hN => ⟨⟨rfl, rfl⟩, hN⟩)
    · exact absurd h21 h
  · exact absurd h3 (nI_m2 (by omega))
end
