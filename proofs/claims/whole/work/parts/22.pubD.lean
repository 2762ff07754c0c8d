/-! public methods of the class: show, pass, told, get, put, remove, write, erase -/
/-- the object's cells when the two tapes have changed places -/
def xS (qt nv : Nat) (kf : Nat → Option Nat) (fv : Value) (fp : Int32) (fd : Int64) (ra rb : Nat → Int32) (wn : Nat) (to : Nat → Int32) (tl : Nat) (so : Nat → Int32) (sl : Nat) : List va_E := [.inr (7, [.ref 1, .ref 2, .ref (qt + 100), .int (nI nv), .ref 7, .ref 5, fv, .int fp, .long fd]), .inl (2, 8, .inr (.inr (.inr (.inr kf)))), .inr (4, [.ref 3, .ref 4, .int (nI wn)]), .inl (0, 20, .inl ra), .inl (0, 20, .inl rb), .inr (6, [.ref 6, .int (nI tl)]), .inl (0, 4000, .inl to), .inr (6, [.ref 8, .int (nI sl)]), .inl (0, 4000, .inl so)]
theorem shp (T : Term) (hT : isT T) : (∃ q, T = tE q) ∨ (∃ q d0, T = tH q d0) ∨ (∃ q P v0, T = tL q P v0) ∨ ∃ q B S x y, T = tF q B S x y := by
  refine tr_ind (P := fun T => (∃ q, T = tE q) ∨ (∃ q d0, T = tH q d0) ∨ (∃ q P v0, T = tL q P v0) ∨ ∃ q B S x y, T = tF q B S x y) ?_ ?_ ?_ ?_ T hT
  · exact fun q => Or.inl ⟨q, rfl⟩
  · exact fun q d => Or.inr (Or.inl ⟨q, d, rfl⟩)
  · exact fun q p v => Or.inr (Or.inr (Or.inl ⟨q, p, v, rfl⟩))
  · exact fun q B S x y _ _ _ _ => Or.inr (Or.inr (Or.inr ⟨q, B, S, x, y, rfl⟩))
section
variable {p : Program} {l : Launch} {e : Env} {R : Room} {s : State} {m : MethodId} {args : Array Value} {below : List Frame} {meth : Method} {c : Code} {cells slots : Nat} {Q : State → Prop} {cc : ByteArray} {nL n : Nat} {own : String} {D : va_G} {ca : Nat → ClassId} {ad : Nat → Nat} {A : Nat → Prop} {N : Heap → Prop}
theorem tbI (C : Cx p s m args c cc nL own D ca ad A N n) {dflt lo hi : Int} {offs : Array Int} {len pc tgt : Nat} {x : Int32} {off : Int} {lv : List (Nat × Value)} {st : List Value} {ws : List va_E} (hdg : decode cc pc = .ok (.tableswitch dflt lo hi offs, len)) (h1 : ¬ x.toInt < lo) (h2 : ¬ hi < x.toInt) (ho : offs[(x.toInt - lo).toNat]? = some off) (ht : (pc : Int) + off = (tgt : Int)) (kk : Wa p l e R s m args below meth c cells slots Q D ca ad A nL N (lv, st, ws) tgt) : Wa p l e R s m args below meth c cells slots Q D ca ad A nL N (lv, .int x :: st, ws) pc := fun H locs ls a1 a2 a3 a4 => lv_tableIn C.1.1 C.1.2.1 hdg h1 h2 ho ht (kk H locs ls a1 a2 a3 a4)
theorem tbO (C : Cx p s m args c cc nL own D ca ad A N n) {dflt lo hi : Int} {offs : Array Int} {len pc tgt : Nat} {x : Int32} {lv : List (Nat × Value)} {st : List Value} {ws : List va_E} (hdg : decode cc pc = .ok (.tableswitch dflt lo hi offs, len)) (h : x.toInt < lo ∨ hi < x.toInt) (ht : (pc : Int) + dflt = (tgt : Int)) (kk : Wa p l e R s m args below meth c cells slots Q D ca ad A nL N (lv, st, ws) tgt) : Wa p l e R s m args below meth c cells slots Q D ca ad A nL N (lv, .int x :: st, ws) pc := fun H locs ls a1 a2 a3 a4 => lv_tableOut C.1.1 C.1.2.1 hdg h ht (kk H locs ls a1 a2 a3 a4)
end
section
variable {l : Launch} {D : va_G} {ca : Nat → ClassId} {ad : Nat → Nat} {N : Heap → Prop} {qt nv : Nat} {kf : Nat → Option Nat} {fv : Value} {fp : Int32} {fd : Int64} {ra rb : Nat → Int32} {wn : Nat} {to : Nat → Int32} {tl : Nat} {so : Nat → Int32} {sl : Nat}
set_option maxRecDepth 100000 in
set_option maxHeartbeats 4000000 in
theorem kX8_show (hAD : AD ad 9) (hN : NS D N) {T : Term} {Vs : List Term} (hfT : fitT T 16) (hT : ∀ H, N H → nodeAt D H T) (hkf : kfR kf Vs) (hVs : ∀ V ∈ Vs, fitT V 16 ∧ ∀ H, N H → nodeAt D H V) {Rg : List (Nat × Nat)} (hRg : rgR ra rb Rg) (x : Int32) : Ct l yX8_show cX8_show 3 (some .int) (rK 19 0 0) D ca ad (xW (adr T) Vs.length kf fv fp fd ra rb Rg.length to tl so sl) 9 [.ref 0, .int x] N (fun r ws2 H => ((whl T Vs x = none ∧ r = some (.int (-1)) ∧ ws2 = (xW (adr T) Vs.length kf fv fp fd ra rb Rg.length to tl so sl)) ∨ ∃ V, whl T Vs x = some V ∧ ∃ so2 : Nat → Int32, tpR so2 (shwT Rg V 0 65535) ∧ ((4000 < (shwT Rg V 0 65535).length ∧ r = some (.int (-3)) ∧ ws2 = (xW (adr T) Vs.length kf fv fp fd ra rb Rg.length to tl so2 (shwT Rg V 0 65535).length)) ∨ ((shwT Rg V 0 65535).length ≤ 4000 ∧ r = some (.int (nI (shwT Rg V 0 65535).length)) ∧ ws2 = (xS (adr T) Vs.length kf fv fp fd ra rb Rg.length to tl so2 (shwT Rg V 0 65535).length)))) ∧ N H) := by
  have hV : ∀ V, whl T Vs x = some V → fitT V 16 ∧ ∀ H, N H → nodeAt D H V := fun V hw => whl_ok (Z := fun V => fitT V 16 ∧ ∀ H, N H → nodeAt D H V) ⟨hfT, hT⟩ hVs hw
  cases hw : whl T Vs x with
  | none =>
    refine enter (lv := [(0, .ref 0), (1, .int x)]) (by decide +kernel) (Nat.le_of_ble_eq_true rfl) rfl hAD (fun U hK => ns_write hK hN) ?_
    intro p e s m below meth c A args hA C hr hlk hnm
    refine sg0 C foX8 coX8 oX8_show_0 rfl rfl rfl ?_
    refine cl_v C (kX8_wholeOf hAD hN hfT hT hkf x) (rcv (ci := 7) C.2.1 rfl rfl) cd_X8_wholeOf in_X8 ml_X8_83 im_X8_wholeOf se_X8_wholeOf hd_X8_wholeOf rfl rfl ⟨(Nat.le_of_ble_eq_true rfl), (Nat.le_of_ble_eq_true rfl)⟩ ⟨(Nat.le_of_ble_eq_true rfl), (Nat.le_of_ble_eq_true rfl)⟩ (Nat.le_of_ble_eq_true rfl) jX8_show_2 (fun v ws' => Wa.and (fun hv => ?_))
    obtain ⟨rfl, rfl⟩ := hv
    rw [hw]
    refine sg0 C foX8 coX8 oX8_show_5 rfl rfl rfl ?_
    refine bnn_n C jX8_show_7 ?_
    refine sg0 C foX8 coX8 oX8_show_10 rfl rfl rfl ?_
    exact rt_i C hr hlk jX8_show_19 (fun H hH => ⟨Or.inl ⟨rfl, rfl, rfl⟩, hH⟩)
  | some V =>
    obtain ⟨hfit, hx⟩ := hV V hw
    refine enter (lv := [(0, .ref 0), (1, .int x)]) (by decide +kernel) (Nat.le_of_ble_eq_true rfl) rfl hAD (fun U hK => ns_write hK hN) ?_
    intro p e s m below meth c A args hA C hr hlk hnm
    refine sg0 C foX8 coX8 oX8_show_0 rfl rfl rfl ?_
    refine cl_v C (kX8_wholeOf hAD hN hfT hT hkf x) (rcv (ci := 7) C.2.1 rfl rfl) cd_X8_wholeOf in_X8 ml_X8_83 im_X8_wholeOf se_X8_wholeOf hd_X8_wholeOf rfl rfl ⟨(Nat.le_of_ble_eq_true rfl), (Nat.le_of_ble_eq_true rfl)⟩ ⟨(Nat.le_of_ble_eq_true rfl), (Nat.le_of_ble_eq_true rfl)⟩ (Nat.le_of_ble_eq_true rfl) jX8_show_2 (fun v ws' => Wa.and (fun hv => ?_))
    obtain ⟨rfl, rfl⟩ := hv
    rw [hw]
    refine sg0 C foX8 coX8 oX8_show_5 rfl rfl rfl ?_
    refine bnn_r (tgt := 14) C jX8_show_7 (by decide) ?_
    refine sg0 C foX8 coX8 oX8_show_14 rfl rfl rfl ?_
    refine cl_v C (kX8_tapeBecomes hAD hN (show 9 + ([] : List va_E).length = 9 from rfl) hRg hfit hx) (rcv (ci := 7) C.2.1 rfl rfl) cd_X8_tapeBecomes in_X8 ml_X8_100 im_X8_tapeBecomes se_X8_tapeBecomes hd_X8_tapeBecomes rfl rfl ⟨(Nat.le_of_ble_eq_true rfl), (Nat.le_of_ble_eq_true rfl)⟩ ⟨(Nat.le_of_ble_eq_true rfl), (Nat.le_of_ble_eq_true rfl)⟩ (Nat.le_of_ble_eq_true rfl) jX8_show_16 (fun v ws' => Wa.ex (fun s1 => Wa.and (fun hv => ?_)))
    obtain ⟨hs1, hv⟩ := hv
    rcases hv with ⟨hq, rfl, rfl⟩ | ⟨hq, rfl, rfl⟩
    · exact rt_i C hr hlk jX8_show_19 (fun H hH => ⟨Or.inr ⟨V, rfl, s1, hs1, Or.inl ⟨hq, rfl, rfl⟩⟩, hH⟩)
    · exact rt_i C hr hlk jX8_show_19 (fun H hH => ⟨Or.inr ⟨V, rfl, s1, hs1, Or.inr ⟨hq, rfl, rfl⟩⟩, hH⟩)
set_option maxRecDepth 100000 in
set_option maxHeartbeats 4000000 in
theorem kX8_pass (hAD : AD ad 9) (hN : NS D N) {vo : Option Term} (hvo : ∀ V, vo = some V → fitT V 16 ∧ ∀ H, N H → nodeAt D H V) {Rg : List (Nat × Nat)} (hRg : rgR ra rb Rg) : Ct l yX8_pass cX8_pass 1 (some .int) (rK 19 0 0) D ca ad (xW qt nv kf (vF vo) fp fd ra rb Rg.length to tl so sl) 9 [.ref 0] N (fun r ws2 H => ((vo = none ∧ r = some (.int (-2)) ∧ ws2 = (xW qt nv kf (vF vo) fp fd ra rb Rg.length to tl so sl)) ∨ ∃ V, vo = some V ∧ ∃ so2 : Nat → Int32, tpR so2 (shwT Rg V 0 65535) ∧ ((4000 < (shwT Rg V 0 65535).length ∧ r = some (.int (-3)) ∧ ws2 = (xW qt nv kf (vF vo) fp fd ra rb Rg.length to tl so2 (shwT Rg V 0 65535).length)) ∨ ((shwT Rg V 0 65535).length ≤ 4000 ∧ r = some (.int (nI (shwT Rg V 0 65535).length)) ∧ ws2 = (xS qt nv kf (vF vo) fp fd ra rb Rg.length to tl so2 (shwT Rg V 0 65535).length)))) ∧ N H) := by
  cases vo with
  | none =>
    refine enter (lv := [(0, .ref 0)]) (by decide +kernel) (Nat.le_of_ble_eq_true rfl) rfl hAD (fun U hK => ns_write hK hN) ?_
    intro p e s m below meth c A args hA C hr hlk hnm
    refine sg0 C foX8 coX8 oX8_pass_0 rfl rfl rfl ?_
    refine bnn_n C jX8_pass_4 ?_
    refine sg0 C foX8 coX8 oX8_pass_7 rfl rfl rfl ?_
    exact rt_i C hr hlk jX8_pass_20 (fun H hH => ⟨Or.inl ⟨rfl, rfl, rfl⟩, hH⟩)
  | some V =>
    obtain ⟨hfit, hx⟩ := hvo V rfl
    refine enter (lv := [(0, .ref 0)]) (by decide +kernel) (Nat.le_of_ble_eq_true rfl) rfl hAD (fun U hK => ns_write hK hN) ?_
    intro p e s m below meth c A args hA C hr hlk hnm
    refine sg0 C foX8 coX8 oX8_pass_0 rfl rfl rfl ?_
    refine bnn_r (tgt := 12) C jX8_pass_4 (by decide) ?_
    refine sg0 C foX8 coX8 oX8_pass_12 rfl rfl rfl ?_
    refine cl_v C (kX8_tapeBecomes hAD hN (show 9 + ([] : List va_E).length = 9 from rfl) hRg hfit hx) (rcv (ci := 7) C.2.1 rfl rfl) cd_X8_tapeBecomes in_X8 ml_X8_100 im_X8_tapeBecomes se_X8_tapeBecomes hd_X8_tapeBecomes rfl rfl ⟨(Nat.le_of_ble_eq_true rfl), (Nat.le_of_ble_eq_true rfl)⟩ ⟨(Nat.le_of_ble_eq_true rfl), (Nat.le_of_ble_eq_true rfl)⟩ (Nat.le_of_ble_eq_true rfl) jX8_pass_17 (fun v ws' => Wa.ex (fun s1 => Wa.and (fun hv => ?_)))
    obtain ⟨hs1, hv⟩ := hv
    rcases hv with ⟨hq, rfl, rfl⟩ | ⟨hq, rfl, rfl⟩
    · exact rt_i C hr hlk jX8_pass_20 (fun H hH => ⟨Or.inr ⟨V, rfl, s1, hs1, Or.inl ⟨hq, rfl, rfl⟩⟩, hH⟩)
    · exact rt_i C hr hlk jX8_pass_20 (fun H hH => ⟨Or.inr ⟨V, rfl, s1, hs1, Or.inr ⟨hq, rfl, rfl⟩⟩, hH⟩)
set_option maxRecDepth 100000 in
set_option maxHeartbeats 4000000 in
theorem kX8_told0 (hAD : AD ad 9) (hN : NS D N)  : Ct l yX8_told cX8_told 2 (some .int) (rK 0 0 0) D ca ad (xW qt nv kf fv fp fd ra rb wn to tl so sl) 9 [.ref 0, .int 0] N (pG (xW qt nv kf fv fp fd ra rb wn to tl so sl) N (some (.int (nI tl)))) := by
  refine enter (lv := [(0, .ref 0), (1, .int 0)]) (by decide +kernel) (Nat.le_of_ble_eq_true rfl) rfl hAD (fun U hK => ns_write hK hN) ?_
  intro p e s m below meth c A args hA C hr hlk hnm
  refine sg0 C foX8 coX8 oX8_told_0 rfl rfl rfl ?_
  refine tbI (off := 39) (tgt := 40) C jX8_told_1 (by decide) (by decide) (by decide) (by decide) ?_
  refine sg0 C foX8 coX8 oX8_told_40 rfl rfl rfl ?_
  exact rt_i C hr hlk jX8_told_47 (fun H hN => ⟨⟨rfl, rfl⟩, hN⟩)
set_option maxRecDepth 100000 in
set_option maxHeartbeats 4000000 in
theorem kX8_told1 (hAD : AD ad 9) (hN : NS D N)  : Ct l yX8_told cX8_told 2 (some .int) (rK 0 0 0) D ca ad (xW qt nv kf fv fp fd ra rb wn to tl so sl) 9 [.ref 0, .int 1] N (pG (xW qt nv kf fv fp fd ra rb wn to tl so sl) N (some (.int (nI wn)))) := by
  refine enter (lv := [(0, .ref 0), (1, .int 1)]) (by decide +kernel) (Nat.le_of_ble_eq_true rfl) rfl hAD (fun U hK => ns_write hK hN) ?_
  intro p e s m below meth c A args hA C hr hlk hnm
  refine sg0 C foX8 coX8 oX8_told_0 rfl rfl rfl ?_
  refine tbI (off := 47) (tgt := 48) C jX8_told_1 (by decide) (by decide) (by decide) (by decide) ?_
  refine sg0 C foX8 coX8 oX8_told_48 rfl rfl rfl ?_
  exact rt_i C hr hlk jX8_told_55 (fun H hN => ⟨⟨rfl, rfl⟩, hN⟩)
set_option maxRecDepth 100000 in
set_option maxHeartbeats 4000000 in
theorem kX8_told2 (hAD : AD ad 9) (hN : NS D N)  : Ct l yX8_told cX8_told 2 (some .int) (rK 0 0 0) D ca ad (xW qt nv kf fv fp fd ra rb wn to tl so sl) 9 [.ref 0, .int 2] N (pG (xW qt nv kf fv fp fd ra rb wn to tl so sl) N (some (.int (nI nv)))) := by
  refine enter (lv := [(0, .ref 0), (1, .int 2)]) (by decide +kernel) (Nat.le_of_ble_eq_true rfl) rfl hAD (fun U hK => ns_write hK hN) ?_
  intro p e s m below meth c A args hA C hr hlk hnm
  refine sg0 C foX8 coX8 oX8_told_0 rfl rfl rfl ?_
  refine tbI (off := 55) (tgt := 56) C jX8_told_1 (by decide) (by decide) (by decide) (by decide) ?_
  refine sg0 C foX8 coX8 oX8_told_56 rfl rfl rfl ?_
  exact rt_i C hr hlk jX8_told_60 (fun H hN => ⟨⟨rfl, rfl⟩, hN⟩)
set_option maxRecDepth 100000 in
set_option maxHeartbeats 4000000 in
theorem kX8_told_bad (hAD : AD ad 9) (hN : NS D N) (x : Int32) (hx : x.toInt < 0 ∨ 5 < x.toInt) : Ct l yX8_told cX8_told 2 (some .int) (rK 0 0 0) D ca ad (xW qt nv kf fv fp fd ra rb wn to tl so sl) 9 [.ref 0, .int x] N (pG (xW qt nv kf fv fp fd ra rb wn to tl so sl) N (some (.int (-1)))) := by
  refine enter (lv := [(0, .ref 0), (1, .int x)]) (by decide +kernel) (Nat.le_of_ble_eq_true rfl) rfl hAD (fun U hK => ns_write hK hN) ?_
  intro p e s m below meth c A args hA C hr hlk hnm
  refine sg0 C foX8 coX8 oX8_told_0 rfl rfl rfl ?_
  refine tbO (tgt := 94) C jX8_told_1 hx (by decide) ?_
  refine sg0 C foX8 coX8 oX8_told_94 rfl rfl rfl ?_
  exact rt_i C hr hlk jX8_told_95 (fun H hN => ⟨⟨rfl, rfl⟩, hN⟩)
set_option maxRecDepth 100000 in
set_option maxHeartbeats 4000000 in
theorem kX8_told5 (hAD : AD ad 9) (hN : NS D N) {T : Term} (hfT : fitT T 16) (hT : ∀ H, N H → nodeAt D H T) : Ct l yX8_told cX8_told 2 (some .int) (rK 18 0 0) D ca ad (xW (adr T) nv kf fv fp fd ra rb wn to tl so sl) 9 [.ref 0, .int 5] N (pG (xW (adr T) nv kf fv fp fd ra rb wn to tl so sl) N (some (.int (nI (frkT T))))) := by
  refine enter (lv := [(0, .ref 0), (1, .int 5)]) (by decide +kernel) (Nat.le_of_ble_eq_true rfl) rfl hAD (fun U hK => ns_write hK hN) ?_
  intro p e s m below meth c A args hA C hr hlk hnm
  refine sg0 C foX8 coX8 oX8_told_0 rfl rfl rfl ?_
  refine tbI (off := 84) (tgt := 85) C jX8_told_1 (by decide) (by decide) (by decide) (by decide) ?_
  refine sg0 C foX8 coX8 oX8_told_85 rfl rfl rfl ?_
  refine cl_s C (kX8_mostForks hAD rfl T (fit_T T _ hfT) 16 0 N hfT (by decide) hN hT) cd_X8_mostForks in_X8 ml_X8_149 sm_X8_mostForks hd_X8_mostForks rfl rfl ⟨(Nat.le_of_ble_eq_true rfl), (Nat.le_of_ble_eq_true rfl)⟩ ⟨(Nat.le_of_ble_eq_true rfl), (Nat.le_of_ble_eq_true rfl)⟩ (Nat.le_of_ble_eq_true rfl) jX8_told_90 (fun v ws' => Wa.and (fun hv => ?_))
  obtain ⟨rfl, rfl⟩ := hv
  exact rt_i C hr hlk jX8_told_93 (fun H hN => ⟨⟨rfl, rfl⟩, hN⟩)
end
section
variable {l : Launch} {D : va_G} {ca : Nat → ClassId} {ad : Nat → Nat} {ws : List va_E} {n : Nat} {N : Heap → Prop}
set_option maxRecDepth 100000 in
set_option maxHeartbeats 4000000 in
theorem kX8_nodesOf0 (hAD : AD ad n) (hn : ws.length = n) (hN : NS D N) : Ct l yX8_nodesOf cX8_nodesOf 3 (some .int) (rK 0 0 0) D ca ad ws n [.null, .int 0] N (pG ws N (some (.int 0))) := by
  refine enter (lv := [(0, .null), (1, .int 0)]) (by decide +kernel) (Nat.le_of_ble_eq_true rfl) rfl hAD (fun U hK => ns_write hK hN) ?_
  intro p e s m below meth c A args hA C hr hlk hnm
  refine sg0 C foX8 coX8 oX8_nodesOf_0 rfl rfl hn ?_
  refine ni_0 C jX8_nodesOf_1 ?_
  refine b1_eq (tgt := 42) C jX8_nodesOf_4 (by decide) (fun h4 => ?_) (fun h4 => ?_)
  · refine sg0 C foX8 coX8 oX8_nodesOf_42 rfl rfl hn ?_
    refine bnn_n C jX8_nodesOf_43 ?_
    refine sg0 C foX8 coX8 oX8_nodesOf_46 rfl rfl hn ?_
    exact rt_i C hr hlk jX8_nodesOf_51 (fun H hN => ⟨⟨rfl, rfl⟩, hN⟩)
  · exact absurd h4 (by decide)
set_option maxRecDepth 100000 in
set_option maxHeartbeats 4000000 in
theorem kX8_hiddenOver0 (hAD : AD ad n) (hn : ws.length = n) (hN : NS D N) (a b x y z : Int32) : Ct l yX8_hiddenOver cX8_hiddenOver 7 (some .int) (rK 0 0 0) D ca ad ws n [.null, .int a, .int b, .int x, .int y, .int z] N (pG ws N (some (.int 0))) := by
  refine enter (lv := [(0, .null), (1, .int a), (2, .int b), (3, .int x), (4, .int y), (5, .int z)]) (by decide +kernel) (Nat.le_of_ble_eq_true rfl) rfl hAD (fun U hK => ns_write hK hN) ?_
  intro p e s m below meth c A args hA C hr hlk hnm
  refine sg0 C foX8 coX8 oX8_hiddenOver_0 rfl rfl hn ?_
  refine ni_0 C jX8_hiddenOver_1 ?_
  refine b1_eq (tgt := 74) C jX8_hiddenOver_4 (by decide) (fun h4 => ?_) (fun h4 => ?_)
  · refine sg0 C foX8 coX8 oX8_hiddenOver_74 rfl rfl hn ?_
    refine ni_0 C jX8_hiddenOver_75 ?_
    refine b1_eq (tgt := 96) C jX8_hiddenOver_78 (by decide) (fun h78 => ?_) (fun h78 => ?_)
    · refine sg0 C foX8 coX8 oX8_hiddenOver_96 rfl rfl hn ?_
      exact rt_i C hr hlk jX8_hiddenOver_97 (fun H hN => ⟨⟨rfl, rfl⟩, hN⟩)
    · exact absurd h78 (by decide)
  · exact absurd h4 (by decide)
end
section
variable {l : Launch} {D : va_G} {ca : Nat → ClassId} {ad : Nat → Nat} {N : Heap → Prop} {qt nv : Nat} {kf : Nat → Option Nat} {fv : Value} {fp : Int32} {fd : Int64} {ra rb : Nat → Int32} {wn : Nat} {to : Nat → Int32} {tl : Nat} {so : Nat → Int32} {sl : Nat}
set_option maxRecDepth 100000 in
set_option maxHeartbeats 4000000 in
theorem kX8_told3 (hAD : AD ad 9) (hN : NS D N) {vo : Option Term} (hvo : ∀ V, vo = some V → fitT V 16 ∧ ∀ H, N H → nodeAt D H V)  : Ct l yX8_told cX8_told 2 (some .int) (rK 18 0 0) D ca ad (xW qt nv kf (vF vo) fp fd ra rb wn to tl so sl) 9 [.ref 0, .int 3] N (pG (xW qt nv kf (vF vo) fp fd ra rb wn to tl so sl) N (some (.int (match vo with | none => 0 | some V => nI (nodT V))))) := by
  cases vo with
  | none =>
    refine enter (lv := [(0, .ref 0), (1, .int 3)]) (by decide +kernel) (Nat.le_of_ble_eq_true rfl) rfl hAD (fun U hK => ns_write hK hN) ?_
    intro p e s m below meth c A args hA C hr hlk hnm
    refine sg0 C foX8 coX8 oX8_told_0 rfl rfl rfl ?_
    refine tbI (off := 60) (tgt := 61) C jX8_told_1 (by decide) (by decide) (by decide) (by decide) ?_
    refine sg0 C foX8 coX8 oX8_told_61 rfl rfl rfl ?_
    refine cl_s C (kX8_nodesOf0 hAD rfl hN) cd_X8_nodesOf in_X8 ml_X8_130 sm_X8_nodesOf hd_X8_nodesOf rfl rfl ⟨(Nat.le_of_ble_eq_true rfl), (Nat.le_of_ble_eq_true rfl)⟩ ⟨(Nat.le_of_ble_eq_true rfl), (Nat.le_of_ble_eq_true rfl)⟩ (Nat.le_of_ble_eq_true rfl) jX8_told_66 (fun v ws' => Wa.and (fun hv => ?_))
    obtain ⟨rfl, rfl⟩ := hv
    exact rt_i C hr hlk jX8_told_69 (fun H hN => ⟨⟨rfl, rfl⟩, hN⟩)
  | some V =>
    obtain ⟨hfit, hx⟩ := hvo V rfl
    refine enter (lv := [(0, .ref 0), (1, .int 3)]) (by decide +kernel) (Nat.le_of_ble_eq_true rfl) rfl hAD (fun U hK => ns_write hK hN) ?_
    intro p e s m below meth c A args hA C hr hlk hnm
    refine sg0 C foX8 coX8 oX8_told_0 rfl rfl rfl ?_
    refine tbI (off := 60) (tgt := 61) C jX8_told_1 (by decide) (by decide) (by decide) (by decide) ?_
    refine sg0 C foX8 coX8 oX8_told_61 rfl rfl rfl ?_
    refine cl_s C (kX8_nodesOf hAD rfl V (fit_T V _ hfit) 16 0 N hfit (by decide) hN hx) cd_X8_nodesOf in_X8 ml_X8_130 sm_X8_nodesOf hd_X8_nodesOf rfl rfl ⟨(Nat.le_of_ble_eq_true rfl), (Nat.le_of_ble_eq_true rfl)⟩ ⟨(Nat.le_of_ble_eq_true rfl), (Nat.le_of_ble_eq_true rfl)⟩ (Nat.le_of_ble_eq_true rfl) jX8_told_66 (fun v ws' => Wa.and (fun hv => ?_))
    obtain ⟨rfl, rfl⟩ := hv
    exact rt_i C hr hlk jX8_told_69 (fun H hN => ⟨⟨rfl, rfl⟩, hN⟩)
set_option maxRecDepth 100000 in
set_option maxHeartbeats 4000000 in
theorem kX8_told4 (hAD : AD ad 9) (hN : NS D N) {vo : Option Term} (hvo : ∀ V, vo = some V → fitT V 16 ∧ ∀ H, N H → nodeAt D H V)  : Ct l yX8_told cX8_told 2 (some .int) (rK 18 0 0) D ca ad (xW qt nv kf (vF vo) fp fd ra rb wn to tl so sl) 9 [.ref 0, .int 4] N (pG (xW qt nv kf (vF vo) fp fd ra rb wn to tl so sl) N (some (.int (match vo with | none => 0 | some V => nI (hidT V 0 65535 0 65535))))) := by
  cases vo with
  | none =>
    refine enter (lv := [(0, .ref 0), (1, .int 4)]) (by decide +kernel) (Nat.le_of_ble_eq_true rfl) rfl hAD (fun U hK => ns_write hK hN) ?_
    intro p e s m below meth c A args hA C hr hlk hnm
    refine sg0 C foX8 coX8 oX8_told_0 rfl rfl rfl ?_
    refine tbI (off := 69) (tgt := 70) C jX8_told_1 (by decide) (by decide) (by decide) (by decide) ?_
    refine sg0 C foX8 coX8 oX8_told_70 rfl rfl rfl ?_
    refine cl_s C (kX8_hiddenOver0 hAD rfl hN _ _ _ _ _) cd_X8_hiddenOver in_X8 ml_X8_142 sm_X8_hiddenOver hd_X8_hiddenOver rfl rfl ⟨(Nat.le_of_ble_eq_true rfl), (Nat.le_of_ble_eq_true rfl)⟩ ⟨(Nat.le_of_ble_eq_true rfl), (Nat.le_of_ble_eq_true rfl)⟩ (Nat.le_of_ble_eq_true rfl) jX8_told_81 (fun v ws' => Wa.and (fun hv => ?_))
    obtain ⟨rfl, rfl⟩ := hv
    exact rt_i C hr hlk jX8_told_84 (fun H hN => ⟨⟨rfl, rfl⟩, hN⟩)
  | some V =>
    obtain ⟨hfit, hx⟩ := hvo V rfl
    refine enter (lv := [(0, .ref 0), (1, .int 4)]) (by decide +kernel) (Nat.le_of_ble_eq_true rfl) rfl hAD (fun U hK => ns_write hK hN) ?_
    intro p e s m below meth c A args hA C hr hlk hnm
    refine sg0 C foX8 coX8 oX8_told_0 rfl rfl rfl ?_
    refine tbI (off := 69) (tgt := 70) C jX8_told_1 (by decide) (by decide) (by decide) (by decide) ?_
    refine sg0 C foX8 coX8 oX8_told_70 rfl rfl rfl ?_
    refine cl_s C (kX8_hiddenOver hAD rfl (a := 0) (b := 65535) (by decide) (by decide) V (fit_T V _ hfit) 16 0 N 0 65535 hfit (by decide) hN hx (by decide) (by decide)) cd_X8_hiddenOver in_X8 ml_X8_142 sm_X8_hiddenOver hd_X8_hiddenOver rfl rfl ⟨(Nat.le_of_ble_eq_true rfl), (Nat.le_of_ble_eq_true rfl)⟩ ⟨(Nat.le_of_ble_eq_true rfl), (Nat.le_of_ble_eq_true rfl)⟩ (Nat.le_of_ble_eq_true rfl) jX8_told_81 (fun v ws' => Wa.and (fun hv => ?_))
    obtain ⟨rfl, rfl⟩ := hv
    exact rt_i C hr hlk jX8_told_84 (fun H hN => ⟨⟨rfl, rfl⟩, hN⟩)
/-- the value of a leaf, if its path is P; else 0 -/
def lvT : Term → Nat → Int64
  | .add (.arg _) (.elem (.arg p) (.long v)), P => if p = P then v else 0
  | _, _ => 0
set_option maxRecDepth 100000 in
set_option maxHeartbeats 4000000 in
theorem kX8_get (hAD : AD ad 9) (hN : NS D N) {vo : Option Term} (hvo : ∀ V, vo = some V → fitT V 16 ∧ ∀ H, N H → nodeAt D H V) {P : Nat} (hP : P < 65536) : Ct l yX8_get cX8_get 4 (some .int) (rK 3 0 0) D ca ad (xW qt nv kf (vF vo) fp fd ra rb wn to tl so sl) 9 [.ref 0, .int (nI P)] N (fun r ws2 H => (r = some (.int (match vo with | none => -2 | some V => if isH (wayT V P) = true then -4 else if lfT (wayT V P) P = true then 1 else 0)) ∧ ws2 = (xW qt nv kf (vF vo) fp (match vo with | none => 0 | some V => lvT (wayT V P) P) ra rb wn to tl so sl)) ∧ N H) := by
  cases vo with
  | none =>
    refine enter (lv := [(0, .ref 0), (1, .int (nI P))]) (by decide +kernel) (Nat.le_of_ble_eq_true rfl) rfl hAD (fun U hK => ns_write hK hN) ?_
    intro p e s m below meth c A args hA C hr hlk hnm
    refine sg0 C foX8 coX8 oX8_get_0 rfl rfl rfl ?_
    refine cl_s C (kX8_isPath hAD rfl hN (nI P)) cd_X8_isPath in_X8 ml_X8_53 sm_X8_isPath hd_X8_isPath rfl rfl ⟨(Nat.le_of_ble_eq_true rfl), (Nat.le_of_ble_eq_true rfl)⟩ ⟨(Nat.le_of_ble_eq_true rfl), (Nat.le_of_ble_eq_true rfl)⟩ (Nat.le_of_ble_eq_true rfl) jX8_get_6 (fun v ws' => Wa.and (fun hv => ?_))
    obtain ⟨rfl, rfl⟩ := hv
    rw [if_pos (pth_ok hP)]
    refine b1_ne (tgt := 14) C jX8_get_9 (by decide) (fun h9 => ?_) (fun h9 => ?_)
    · refine sg0 C foX8 coX8 oX8_get_14 rfl rfl rfl ?_
      refine bnn_n C jX8_get_18 ?_
      refine sg0 C foX8 coX8 oX8_get_21 rfl rfl rfl ?_
      exact rt_i C hr hlk jX8_get_23 (fun H hN => ⟨⟨rfl, rfl⟩, hN⟩)
    · exact absurd h9 (by decide)
  | some V =>
    obtain ⟨hfit, hx0⟩ := hvo V rfl
    have hwn : ∀ H, N H → nodeAt D H (wayT V P) := fun H hH => way_node V P (hx0 H hH)
    have hwf := way_fit V (fit_T V _ hfit) P 16 (Nat.le_refl _) hfit
    rcases shp (wayT V P) (way_T V (fit_T V _ hfit) P) with ⟨q, hW⟩ | ⟨q, d0, hW⟩ | ⟨q, p0, v0, hW⟩ | ⟨q, B, S, x, y, hW⟩
    · refine enter (lv := [(0, .ref 0), (1, .int (nI P))]) (by decide +kernel) (Nat.le_of_ble_eq_true rfl) rfl hAD (fun U hK => ns_write hK hN) ?_
      intro p e s m below meth c A args hA C hr hlk hnm
      refine sg0 C foX8 coX8 oX8_get_0 rfl rfl rfl ?_
      refine cl_s C (kX8_isPath hAD rfl hN (nI P)) cd_X8_isPath in_X8 ml_X8_53 sm_X8_isPath hd_X8_isPath rfl rfl ⟨(Nat.le_of_ble_eq_true rfl), (Nat.le_of_ble_eq_true rfl)⟩ ⟨(Nat.le_of_ble_eq_true rfl), (Nat.le_of_ble_eq_true rfl)⟩ (Nat.le_of_ble_eq_true rfl) jX8_get_6 (fun v ws' => Wa.and (fun hv => ?_))
      obtain ⟨rfl, rfl⟩ := hv
      rw [if_pos (pth_ok hP)]
      refine b1_ne (tgt := 14) C jX8_get_9 (by decide) (fun h9 => ?_) (fun h9 => ?_)
      · refine sg0 C foX8 coX8 oX8_get_14 rfl rfl rfl ?_
        refine bnn_r (tgt := 24) C jX8_get_18 (by decide) ?_
        refine sg0 C foX8 coX8 oX8_get_24 rfl rfl rfl ?_
        refine cl_s C (kX8_endOfWay hAD rfl hN hfit hx0 hP) cd_X8_endOfWay in_X8 ml_X8_57 sm_X8_endOfWay hd_X8_endOfWay rfl rfl ⟨(Nat.le_of_ble_eq_true rfl), (Nat.le_of_ble_eq_true rfl)⟩ ⟨(Nat.le_of_ble_eq_true rfl), (Nat.le_of_ble_eq_true rfl)⟩ (Nat.le_of_ble_eq_true rfl) jX8_get_29 (fun v ws' => Wa.and (fun hv => ?_))
        obtain ⟨rfl, rfl⟩ := hv
        rw [hW]
        have hx : ∀ H, N H → nodeAt D H (tE q) := fun H hH => hW ▸ hwn H hH
        refine sg0 C foX8 coX8 oX8_get_32 rfl rfl rfl ?_
        refine ni_n (ci := 0) C (fun H hH => hx H hH) rfl kl_X8_134 (by decide) jX8_get_34 ?_
        refine b1_eq (tgt := 43) C jX8_get_37 (by decide) (fun h37 => ?_) (fun h37 => ?_)
        · refine sg0 C foX8 coX8 oX8_get_43 rfl rfl rfl ?_
          refine ni_n (ci := 0) C (fun H hH => hx H hH) rfl kl_X8_65 (by decide) jX8_get_44 ?_
          refine b1_eq (tgt := 73) C jX8_get_47 (by decide) (fun h47 => ?_) (fun h47 => ?_)
          · refine sg0 C foX8 coX8 oX8_get_73 rfl rfl rfl ?_
            exact rt_i C hr hlk jX8_get_74 (fun H hH => ⟨⟨by show _ = some (Value.int (if _ then _ else _)); rw [hW]; simp [isH, lfT], by show _ = xW _ _ _ _ _ (lvT (wayT V P) P) _ _ _ _ _ _ _; rw [hW]; rfl⟩, hH⟩)
          · exact absurd h47 (by decide)
        · exact absurd h37 (by decide)
      · exact absurd h9 (by decide)
    · refine enter (lv := [(0, .ref 0), (1, .int (nI P))]) (by decide +kernel) (Nat.le_of_ble_eq_true rfl) rfl hAD (fun U hK => ns_write hK hN) ?_
      intro p e s m below meth c A args hA C hr hlk hnm
      refine sg0 C foX8 coX8 oX8_get_0 rfl rfl rfl ?_
      refine cl_s C (kX8_isPath hAD rfl hN (nI P)) cd_X8_isPath in_X8 ml_X8_53 sm_X8_isPath hd_X8_isPath rfl rfl ⟨(Nat.le_of_ble_eq_true rfl), (Nat.le_of_ble_eq_true rfl)⟩ ⟨(Nat.le_of_ble_eq_true rfl), (Nat.le_of_ble_eq_true rfl)⟩ (Nat.le_of_ble_eq_true rfl) jX8_get_6 (fun v ws' => Wa.and (fun hv => ?_))
      obtain ⟨rfl, rfl⟩ := hv
      rw [if_pos (pth_ok hP)]
      refine b1_ne (tgt := 14) C jX8_get_9 (by decide) (fun h9 => ?_) (fun h9 => ?_)
      · refine sg0 C foX8 coX8 oX8_get_14 rfl rfl rfl ?_
        refine bnn_r (tgt := 24) C jX8_get_18 (by decide) ?_
        refine sg0 C foX8 coX8 oX8_get_24 rfl rfl rfl ?_
        refine cl_s C (kX8_endOfWay hAD rfl hN hfit hx0 hP) cd_X8_endOfWay in_X8 ml_X8_57 sm_X8_endOfWay hd_X8_endOfWay rfl rfl ⟨(Nat.le_of_ble_eq_true rfl), (Nat.le_of_ble_eq_true rfl)⟩ ⟨(Nat.le_of_ble_eq_true rfl), (Nat.le_of_ble_eq_true rfl)⟩ (Nat.le_of_ble_eq_true rfl) jX8_get_29 (fun v ws' => Wa.and (fun hv => ?_))
        obtain ⟨rfl, rfl⟩ := hv
        rw [hW]
        have hx : ∀ H, N H → nodeAt D H (tH q d0) := fun H hH => hW ▸ hwn H hH
        refine sg0 C foX8 coX8 oX8_get_32 rfl rfl rfl ?_
        refine ni_y (ci := 2) C (fun H hH => hx H hH) rfl kl_X8_134 (by decide) jX8_get_34 ?_
        refine b1_eq (tgt := 43) C jX8_get_37 (by decide) (fun h37 => ?_) (fun h37 => ?_)
        · exact absurd h37 (by decide)
        · refine sg0 C foX8 coX8 oX8_get_40 rfl rfl rfl ?_
          exact rt_i C hr hlk jX8_get_42 (fun H hH => ⟨⟨by show _ = some (Value.int (if _ then _ else _)); rw [hW]; simp [isH, lfT], by show _ = xW _ _ _ _ _ (lvT (wayT V P) P) _ _ _ _ _ _ _; rw [hW]; rfl⟩, hH⟩)
      · exact absurd h9 (by decide)
    · refine enter (lv := [(0, .ref 0), (1, .int (nI P))]) (by decide +kernel) (Nat.le_of_ble_eq_true rfl) rfl hAD (fun U hK => ns_write hK hN) ?_
      intro p e s m below meth c A args hA C hr hlk hnm
      refine sg0 C foX8 coX8 oX8_get_0 rfl rfl rfl ?_
      refine cl_s C (kX8_isPath hAD rfl hN (nI P)) cd_X8_isPath in_X8 ml_X8_53 sm_X8_isPath hd_X8_isPath rfl rfl ⟨(Nat.le_of_ble_eq_true rfl), (Nat.le_of_ble_eq_true rfl)⟩ ⟨(Nat.le_of_ble_eq_true rfl), (Nat.le_of_ble_eq_true rfl)⟩ (Nat.le_of_ble_eq_true rfl) jX8_get_6 (fun v ws' => Wa.and (fun hv => ?_))
      obtain ⟨rfl, rfl⟩ := hv
      rw [if_pos (pth_ok hP)]
      refine b1_ne (tgt := 14) C jX8_get_9 (by decide) (fun h9 => ?_) (fun h9 => ?_)
      · refine sg0 C foX8 coX8 oX8_get_14 rfl rfl rfl ?_
        refine bnn_r (tgt := 24) C jX8_get_18 (by decide) ?_
        refine sg0 C foX8 coX8 oX8_get_24 rfl rfl rfl ?_
        refine cl_s C (kX8_endOfWay hAD rfl hN hfit hx0 hP) cd_X8_endOfWay in_X8 ml_X8_57 sm_X8_endOfWay hd_X8_endOfWay rfl rfl ⟨(Nat.le_of_ble_eq_true rfl), (Nat.le_of_ble_eq_true rfl)⟩ ⟨(Nat.le_of_ble_eq_true rfl), (Nat.le_of_ble_eq_true rfl)⟩ (Nat.le_of_ble_eq_true rfl) jX8_get_29 (fun v ws' => Wa.and (fun hv => ?_))
        obtain ⟨rfl, rfl⟩ := hv
        rw [hW]
        have hx : ∀ H, N H → nodeAt D H (tL q p0 v0) := fun H hH => hW ▸ hwn H hH
        refine sg0 C foX8 coX8 oX8_get_32 rfl rfl rfl ?_
        refine ni_n (ci := 3) C (fun H hH => hx H hH) rfl kl_X8_134 (by decide) jX8_get_34 ?_
        refine b1_eq (tgt := 43) C jX8_get_37 (by decide) (fun h37 => ?_) (fun h37 => ?_)
        · refine sg0 C foX8 coX8 oX8_get_43 rfl rfl rfl ?_
          refine ni_y (ci := 3) C (fun H hH => hx H hH) rfl kl_X8_65 (by decide) jX8_get_44 ?_
          refine b1_eq (tgt := 73) C jX8_get_47 (by decide) (fun h47 => ?_) (fun h47 => ?_)
          · exact absurd h47 (by decide)
          · refine sg0 C foX8 coX8 oX8_get_50 rfl rfl rfl ?_
            refine nc_y (ci := 3) C (fun H hH => hx H hH) rfl kl_X8_65 (by decide) jX8_get_51 ?_
            refine sg0 C foX8 coX8 oX8_get_54 rfl rfl rfl ?_
            refine ng (ci := 3) (k := 1) (v := .int (nI p0)) C (fun H hH => hx H hH) rfl (by decide) fl_X8_136 rfl jX8_get_56 ?_
            refine sg0 C foX8 coX8 oX8_get_59 rfl rfl rfl ?_
            refine b2_ne (tgt := 73) C jX8_get_60 (by decide) (fun h60 => ?_) (fun h60 => ?_)
            · have he : ¬ p0 = P := fun q9 => h60 (by rw [q9])
              refine sg0 C foX8 coX8 oX8_get_73 rfl rfl rfl ?_
              exact rt_i C hr hlk jX8_get_74 (fun H hH => ⟨⟨by show _ = some (Value.int (if _ then _ else _)); rw [hW]; simp [isH, lfT, he], by show _ = xW _ _ _ _ _ (lvT (wayT V P) P) _ _ _ _ _ _ _; rw [hW]; simp only [lvT, if_neg he]; rfl⟩, hH⟩)
            · have he : p0 = P := (nI_eq (by rw [hW] at hwf; have hz : p0 < 65536 := hwf; omega) (by omega)).mp h60
              refine sg0 C foX8 coX8 oX8_get_63 rfl rfl rfl ?_
              refine ng (ci := 3) (k := 2) (v := .long v0) C (fun H hH => hx H hH) rfl (by decide) fl_X8_139 rfl jX8_get_65 ?_
              refine sg0 C foX8 coX8 oX8_get_68 rfl rfl rfl ?_
              exact rt_i C hr hlk jX8_get_72 (fun H hH => ⟨⟨by show _ = some (Value.int (if _ then _ else _)); rw [hW]; simp [isH, lfT, he], by show _ = xW _ _ _ _ _ (lvT (wayT V P) P) _ _ _ _ _ _ _; rw [hW]; simp only [lvT, if_pos he]; rfl⟩, hH⟩)
        · exact absurd h37 (by decide)
      · exact absurd h9 (by decide)
    · refine enter (lv := [(0, .ref 0), (1, .int (nI P))]) (by decide +kernel) (Nat.le_of_ble_eq_true rfl) rfl hAD (fun U hK => ns_write hK hN) ?_
      intro p e s m below meth c A args hA C hr hlk hnm
      refine sg0 C foX8 coX8 oX8_get_0 rfl rfl rfl ?_
      refine cl_s C (kX8_isPath hAD rfl hN (nI P)) cd_X8_isPath in_X8 ml_X8_53 sm_X8_isPath hd_X8_isPath rfl rfl ⟨(Nat.le_of_ble_eq_true rfl), (Nat.le_of_ble_eq_true rfl)⟩ ⟨(Nat.le_of_ble_eq_true rfl), (Nat.le_of_ble_eq_true rfl)⟩ (Nat.le_of_ble_eq_true rfl) jX8_get_6 (fun v ws' => Wa.and (fun hv => ?_))
      obtain ⟨rfl, rfl⟩ := hv
      rw [if_pos (pth_ok hP)]
      refine b1_ne (tgt := 14) C jX8_get_9 (by decide) (fun h9 => ?_) (fun h9 => ?_)
      · refine sg0 C foX8 coX8 oX8_get_14 rfl rfl rfl ?_
        refine bnn_r (tgt := 24) C jX8_get_18 (by decide) ?_
        refine sg0 C foX8 coX8 oX8_get_24 rfl rfl rfl ?_
        refine cl_s C (kX8_endOfWay hAD rfl hN hfit hx0 hP) cd_X8_endOfWay in_X8 ml_X8_57 sm_X8_endOfWay hd_X8_endOfWay rfl rfl ⟨(Nat.le_of_ble_eq_true rfl), (Nat.le_of_ble_eq_true rfl)⟩ ⟨(Nat.le_of_ble_eq_true rfl), (Nat.le_of_ble_eq_true rfl)⟩ (Nat.le_of_ble_eq_true rfl) jX8_get_29 (fun v ws' => Wa.and (fun hv => ?_))
        obtain ⟨rfl, rfl⟩ := hv
        rw [hW]
        have hx : ∀ H, N H → nodeAt D H (tF q B S x y) := fun H hH => hW ▸ hwn H hH
        refine sg0 C foX8 coX8 oX8_get_32 rfl rfl rfl ?_
        refine ni_n (ci := 1) C (fun H hH => (hx H hH).1) rfl kl_X8_134 (by decide) jX8_get_34 ?_
        refine b1_eq (tgt := 43) C jX8_get_37 (by decide) (fun h37 => ?_) (fun h37 => ?_)
        · refine sg0 C foX8 coX8 oX8_get_43 rfl rfl rfl ?_
          refine ni_n (ci := 1) C (fun H hH => (hx H hH).1) rfl kl_X8_65 (by decide) jX8_get_44 ?_
          refine b1_eq (tgt := 73) C jX8_get_47 (by decide) (fun h47 => ?_) (fun h47 => ?_)
          · refine sg0 C foX8 coX8 oX8_get_73 rfl rfl rfl ?_
            exact rt_i C hr hlk jX8_get_74 (fun H hH => ⟨⟨by show _ = some (Value.int (if _ then _ else _)); rw [hW]; simp [isH, lfT], by show _ = xW _ _ _ _ _ (lvT (wayT V P) P) _ _ _ _ _ _ _; rw [hW]; rfl⟩, hH⟩)
          · exact absurd h47 (by decide)
        · exact absurd h37 (by decide)
      · exact absurd h9 (by decide)
end
