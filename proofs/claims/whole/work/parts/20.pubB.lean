/-! public methods of the class: ranges, the tree, the view -/
def isH : Term → Bool
  | .add (.arg _) (.long _) => true
  | _ => false
theorem isH_at {D : va_G} {H : Heap} {T : Term} (h : nodeAt D H T) : (isH T = true ∧ ∃ fs, va_at D vwCl (adr T, .inr (2, fs)) H) ∨ (isH T = false ∧ ∃ (ci : Nat) (r : vw_C) (fs : List Value), vwCl[ci]? = some r ∧ (r.1, "PathProofs$Hidden") ∈ notL ∧ va_at D vwCl (adr T, .inr (ci, fs)) H) := by
  have hT := nodeAt.T T h
  revert h
  refine tr_ind (P := fun T => nodeAt D H T → (isH T = true ∧ ∃ fs, va_at D vwCl (adr T, .inr (2, fs)) H) ∨ (isH T = false ∧ ∃ (ci : Nat) (r : vw_C) (fs : List Value), vwCl[ci]? = some r ∧ (r.1, "PathProofs$Hidden") ∈ notL ∧ va_at D vwCl (adr T, .inr (ci, fs)) H)) ?_ ?_ ?_ ?_ T hT
  · exact fun q h => Or.inr ⟨rfl, 0, _, _, rfl, by decide, h⟩
  · exact fun q d h => Or.inl ⟨rfl, _, h⟩
  · exact fun q p v h => Or.inr ⟨rfl, 3, _, _, rfl, by decide, h⟩
  · exact fun q B S x y _ _ _ _ h => Or.inr ⟨rfl, 1, _, _, rfl, by decide, h.1⟩
section
variable {p : Program} {l : Launch} {e : Env} {R : Room} {s : State} {m : MethodId} {args : Array Value} {below : List Frame} {meth : Method} {c : Code} {cells slots : Nat} {Q : State → Prop} {cc : ByteArray} {nL n : Nat} {own : String} {D : va_G} {ca : Nat → ClassId} {ad : Nat → Nat} {A : Nat → Prop} {N : Heap → Prop}
/-- instanceof Hidden, of any node -/
theorem ni_H (C : Cx p s m args c cc nL own D ca ad A N n) {T : Term} {idx pc : Nat} {lv : List (Nat × Value)} {st : List Value} {ws : List va_E} (hx : ∀ H, N H → nodeAt D H T) (hkl : Cond.classLink own idx RX2 ∈ tb) (hdg : decode cc pc = .ok (.instanceof idx, 3))
    (kk : Wa p l e R s m args below meth c cells slots Q D ca ad A nL N (lv, .int (if isH T = true then 1 else 0) :: st, ws) (pc + 3)) : Wa p l e R s m args below meth c cells slots Q D ca ad A nL N (lv, .ref (adr T + 100) :: st, ws) pc := by
  intro H locs ls h1 h2 h3 h4
  have k2 := kk H locs ls h1 h2 h3 h4
  have hr := C.2.2.2.1.2 (adr T)
  show W p l e R s m args below meth c H locs cells slots Q (F0 m pc ls (.ref (ad (adr T + 100)) :: st.map (cv ad)))
  rcases isH_at (hx H h4) with ⟨e1, fs, g⟩ | ⟨e1, ci, r, fs, g1, g2, g⟩
  · rw [if_pos e1] at k2
    obtain ⟨r2, b1, cell, b2, b3, b4, -⟩ := g
    exact va_instY (C := RX2) (nm := RX2) C.1.1 C.1.2.1 C.1.2.2.2.1 (C.1.2.2.2.2 _ hkl) (C.2.1.2.2.1 (RX2, RX2) (by decide)) ⟨cell, by rw [hr]; exact b2, by rw [b4]; rfl, by rw [b3]; exact (C.2.1.1.1 2 _ rfl).2.1⟩ hdg k2
  · rw [if_neg (by rw [e1]; decide)] at k2
    obtain ⟨r2, b1, cell, b2, b3, b4, -⟩ := g
    exact va_instNo (C := r.1) (nm := RX2) C.1.1 C.1.2.1 C.1.2.2.2.1 (C.1.2.2.2.2 _ hkl) (C.2.1.2.2.2.1 (r.1, RX2) g2) ⟨cell, by rw [hr]; exact b2, by rw [b4]; rfl, by rw [b3]; exact (C.2.1.1.1 ci r g1).2.1⟩ hdg k2
/-- the digest of any node -/
theorem ng_dig (C : Cx p s m args c cc nL own D ca ad A N n) {T : Term} {idx pc : Nat} {lv : List (Nat × Value)} {st : List Value} {ws : List va_E} (hx : ∀ H, N H → nodeAt D H T) (hfl : Cond.fieldLink own idx "PathProofs$Node" "digest" "J" ∈ tb) (hdg : decode cc pc = .ok (.getfield idx, 3))
    (kk : Wa p l e R s m args below meth c cells slots Q D ca ad A nL N (lv, .long (dig T) :: st, ws) (pc + 3)) : Wa p l e R s m args below meth c cells slots Q D ca ad A nL N (lv, .ref (adr T + 100) :: st, ws) pc := by
  intro H locs ls h1 h2 h3 h4
  obtain ⟨ci, r, fs, x1, x2, x3, x4, x5, x6⟩ := dig_at (hx H h4)
  obtain ⟨C9, T9, N9⟩ := r
  show W p l e R s m args below meth c H locs cells slots Q (F0 m pc ls (cv ad (.ref (adr T + 100)) :: st.map (cv ad)))
  rw [cv_raw C]
  have x4 : T9 0 = ("PathProofs$Node", "digest", "J", true) := x4
  exact va_get (D := D) (cl := vwCl) (ci := ci) (C := C9) (T := T9) (N := N9) (ws := [(adr T, .inr (ci, fs))]) (fs := fs) (v := .long (dig T)) C.1.1 C.1.2.1 C.1.2.2.2.2 (clsOk ci _ x2).1 C.1.2.2.2.1 C.2.1.1 (fun k x hx => by
    have hz : k < 1 := (List.getElem?_eq_some_iff.mp hx).1
    rw [show k = 0 by omega] at hx
    cases hx
    exact x5) 0 rfl x2 0 x3 (by rw [x4]; exact C.1.2.2.2.2 _ hfl) (fun _ h9 => by rw [x4] at *; exact h9) x6 hdg (kk H locs ls h1 h2 h3 h4)
end
section
variable {l : Launch} {D : va_G} {ca : Nat → ClassId} {ad : Nat → Nat} {N : Heap → Prop} {qt nv : Nat} {kf : Nat → Option Nat} {fv : Value} {fp : Int32} {fd : Int64} {ra rb : Nat → Int32} {wn : Nat} {to : Nat → Int32} {tl : Nat} {so : Nat → Int32} {sl : Nat}
set_option maxRecDepth 100000 in
set_option maxHeartbeats 4000000 in
theorem kX8_want (hAD : AD ad 9) (hN : NS D N) (hwn : wn ≤ 20) (x y : Int32) : Ct l yX8_want cX8_want 3 (some .int) (rK 2 0 0) D ca ad (xW qt nv kf fv fp fd ra rb wn to tl so sl) 9 [.ref 0, .int x, .int y] N (fun r ws2 H => ((¬ ((0 ≤ x ∧ x ≤ 65535) ∧ (0 ≤ y ∧ y ≤ 65535) ∧ x ≤ y) ∧ r = some (.int (-1)) ∧ ws2 = (xW qt nv kf fv fp fd ra rb wn to tl so sl)) ∨ (((0 ≤ x ∧ x ≤ 65535) ∧ (0 ≤ y ∧ y ≤ 65535) ∧ x ≤ y) ∧ 20 ≤ wn ∧ r = some (.int (-3)) ∧ ws2 = (xW qt nv kf fv fp fd ra rb wn to tl so sl)) ∨ (((0 ≤ x ∧ x ≤ 65535) ∧ (0 ≤ y ∧ y ≤ 65535) ∧ x ≤ y) ∧ wn < 20 ∧ r = some (.int (nI (wn + 1))) ∧ ws2 = (xW qt nv kf fv fp fd (upd ra (nI wn).toNatClampNeg x) (upd rb (nI wn).toNatClampNeg y) (wn + 1) to tl so sl))) ∧ N H) := by
  refine enter (lv := [(0, .ref 0), (1, .int x), (2, .int y)]) (by decide +kernel) (Nat.le_of_ble_eq_true rfl) rfl hAD (fun U hK => ns_write hK hN) ?_
  intro p e s m below meth c A args hA C hr hlk hnm
  refine sg0 C foX8 coX8 oX8_want_0 rfl rfl rfl ?_
  refine cl_s C (kX8_isRange hAD rfl hN x y) cd_X8_isRange in_X8 ml_X8_90 sm_X8_isRange hd_X8_isRange rfl rfl ⟨(Nat.le_of_ble_eq_true rfl), (Nat.le_of_ble_eq_true rfl)⟩ ⟨(Nat.le_of_ble_eq_true rfl), (Nat.le_of_ble_eq_true rfl)⟩ (Nat.le_of_ble_eq_true rfl) jX8_want_2 (fun v ws' => Wa.and (fun hv => ?_))
  obtain ⟨rfl, rfl⟩ := hv
  refine b1_ne (tgt := 10) C jX8_want_5 (by decide) (fun h5 => ?_) (fun h5 => ?_)
  · have hq : ((0 ≤ x ∧ x ≤ 65535) ∧ (0 ≤ y ∧ y ≤ 65535) ∧ x ≤ y) := Decidable.byContradiction fun e1 => h5 (if_neg e1)
    refine sg0 C foX8 coX8 oX8_want_10 rfl rfl rfl ?_
    refine cl_v C (kX5_add hAD hN hwn x y) (rcv (ci := 4) C.2.1 rfl rfl) cd_X5_add in_X5 ml_X8_94 im_X5_add se_X5_add hd_X5_add rfl rfl ⟨(Nat.le_of_ble_eq_true rfl), (Nat.le_of_ble_eq_true rfl)⟩ ⟨(Nat.le_of_ble_eq_true rfl), (Nat.le_of_ble_eq_true rfl)⟩ (Nat.le_of_ble_eq_true rfl) jX8_want_16 (fun v ws' => Wa.and (fun hv => ?_))
    rcases hv with ⟨hw, rfl, rfl⟩ | ⟨hw, rfl, rfl⟩
    · refine b1_eq (tgt := 32) C jX8_want_19 (by decide) (fun h19 => ?_) (fun h19 => ?_)
      · refine sg0 C foX8 coX8 oX8_want_32 rfl rfl rfl ?_
        exact rt_i C hr hlk jX8_want_34 (fun H hH => ⟨Or.inr (Or.inl ⟨hq, hw, rfl, rfl⟩), hH⟩)
      · exact absurd h19 (by decide)
    · refine b1_eq (tgt := 32) C jX8_want_19 (by decide) (fun h19 => ?_) (fun h19 => ?_)
      · exact absurd h19 (by decide)
      · refine sg0 C foX8 coX8 oX8_want_22 rfl rfl rfl ?_
        exact rt_i C hr hlk jX8_want_34 (fun H hH => ⟨Or.inr (Or.inr ⟨hq, hw, rfl, rfl⟩), hH⟩)
  · have hq : ¬ ((0 ≤ x ∧ x ≤ 65535) ∧ (0 ≤ y ∧ y ≤ 65535) ∧ x ≤ y) := fun e1 => by rw [if_pos e1] at h5; exact absurd h5 (by decide)
    refine sg0 C foX8 coX8 oX8_want_8 rfl rfl rfl ?_
    exact rt_i C hr hlk jX8_want_9 (fun H hH => ⟨Or.inl ⟨hq, rfl, rfl⟩, hH⟩)
set_option maxRecDepth 100000 in
set_option maxHeartbeats 4000000 in
theorem kX8_view (hAD : AD ad 9) (hN : NS D N) {vo : Option Term} (hvo : ∀ V, vo = some V → fitT V 16 ∧ ∀ H, N H → nodeAt D H V)  : Ct l yX8_view cX8_view 1 (some .long) (rK 0 0 0) D ca ad (xW qt nv kf (vF vo) fp fd ra rb wn to tl so sl) 9 [.ref 0] N (pG (xW qt nv kf (vF vo) fp fd ra rb wn to tl so sl) N (some (.long (match vo with | none => 0 | some V => dig V)))) := by
  cases vo with
  | none =>
    refine enter (lv := [(0, .ref 0)]) (by decide +kernel) (Nat.le_of_ble_eq_true rfl) rfl hAD (fun U hK => ns_write hK hN) ?_
    intro p e s m below meth c A args hA C hr hlk hnm
    refine sg0 C foX8 coX8 oX8_view_0 rfl rfl rfl ?_
    refine bnn_n C jX8_view_4 ?_
    refine sg0 C foX8 coX8 oX8_view_7 rfl rfl rfl ?_
    exact rt_l C hr hlk jX8_view_18 (fun H hN => ⟨⟨rfl, rfl⟩, hN⟩)
  | some V =>
    obtain ⟨hfit, hx⟩ := hvo V rfl
    refine enter (lv := [(0, .ref 0)]) (by decide +kernel) (Nat.le_of_ble_eq_true rfl) rfl hAD (fun U hK => ns_write hK hN) ?_
    intro p e s m below meth c A args hA C hr hlk hnm
    refine sg0 C foX8 coX8 oX8_view_0 rfl rfl rfl ?_
    refine bnn_r (tgt := 11) C jX8_view_4 (by decide) ?_
    refine sg0 C foX8 coX8 oX8_view_11 rfl rfl rfl ?_
    refine ng_dig C hx fl_X8_87 jX8_view_15 ?_
    exact rt_l C hr hlk jX8_view_18 (fun H hN => ⟨⟨rfl, rfl⟩, hN⟩)
theorem hid_le (T : Term) (hT : isT T) : ∀ f t a b k : Nat, fitT T k → hidT T f t a b ≤ 2 ^ k := by
  refine tr_ind (P := fun T => ∀ f t a b k : Nat, fitT T k → hidT T f t a b ≤ 2 ^ k) ?_ ?_ ?_ ?_ T hT
  · exact fun q f t a b k _ => Nat.zero_le _
  · intro q d f t a b k _
    simp only [hidT]
    have := Nat.two_pow_pos k
    split <;> omega
  · exact fun q p v f t a b k _ => Nat.zero_le _
  · intro q B S x y _ _ i1 i2 f t a b k h
    obtain ⟨⟨hB, hkB, hS, hstm⟩, hfx, hfy⟩ := fitF h
    have h1 := i1 S (S + 2 ^ (15 - B) - 1) a b _ hfx
    have h2 := i2 (S + 2 ^ (15 - B)) (S + 2 ^ (16 - B) - 1) a b _ hfy
    have h3 : 2 ^ (15 - B) * 2 ≤ 2 ^ k := by rw [← Nat.pow_succ]; exact Nat.pow_le_pow_right (by decide) (by omega)
    simp only [hidT]
    omega
set_option maxRecDepth 100000 in
set_option maxHeartbeats 4000000 in
theorem kX8_count (hAD : AD ad 9) (hN : NS D N) {vo : Option Term} (hvo : ∀ V, vo = some V → fitT V 16 ∧ ∀ H, N H → nodeAt D H V) {a b : Nat} (ha : a < 65536) (hb : b < 65536) (hab : a ≤ b) : Ct l yX8_count cX8_count 3 (some .int) (rK 18 0 0) D ca ad (xW qt nv kf (vF vo) fp fd ra rb wn to tl so sl) 9 [.ref 0, .int (nI a), .int (nI b)] N (pG (xW qt nv kf (vF vo) fp fd ra rb wn to tl so sl) N (some (.int (match vo with | none => -2 | some V => if hidT V 0 65535 a b = 0 then nI (cntT V a b) else -4)))) := by
  cases vo with
  | none =>
    refine enter (lv := [(0, .ref 0), (1, .int (nI a)), (2, .int (nI b))]) (by decide +kernel) (Nat.le_of_ble_eq_true rfl) rfl hAD (fun U hK => ns_write hK hN) ?_
    intro p e s m below meth c A args hA C hr hlk hnm
    refine sg0 C foX8 coX8 oX8_count_0 rfl rfl rfl ?_
    refine cl_s C (kX8_isRange hAD rfl hN (nI a) (nI b)) cd_X8_isRange in_X8 ml_X8_90 sm_X8_isRange hd_X8_isRange rfl rfl ⟨(Nat.le_of_ble_eq_true rfl), (Nat.le_of_ble_eq_true rfl)⟩ ⟨(Nat.le_of_ble_eq_true rfl), (Nat.le_of_ble_eq_true rfl)⟩ (Nat.le_of_ble_eq_true rfl) jX8_count_2 (fun v ws' => Wa.and (fun hv => ?_))
    obtain ⟨rfl, rfl⟩ := hv
    rw [if_pos (show (0 ≤ nI a ∧ nI a ≤ 65535) ∧ (0 ≤ nI b ∧ nI b ≤ 65535) ∧ nI a ≤ nI b from ⟨pth_ok ha, pth_ok hb, nI_le hab (by omega)⟩)]
    refine b1_ne (tgt := 10) C jX8_count_5 (by decide) (fun h5 => ?_) (fun h5 => ?_)
    · refine sg0 C foX8 coX8 oX8_count_10 rfl rfl rfl ?_
      refine bnn_n C jX8_count_14 ?_
      refine sg0 C foX8 coX8 oX8_count_17 rfl rfl rfl ?_
      exact rt_i C hr hlk jX8_count_19 (fun H hN => ⟨⟨rfl, rfl⟩, hN⟩)
    · exact absurd h5 (by decide)
  | some V =>
    obtain ⟨hfit, hx⟩ := hvo V rfl
    refine enter (lv := [(0, .ref 0), (1, .int (nI a)), (2, .int (nI b))]) (by decide +kernel) (Nat.le_of_ble_eq_true rfl) rfl hAD (fun U hK => ns_write hK hN) ?_
    intro p e s m below meth c A args hA C hr hlk hnm
    refine sg0 C foX8 coX8 oX8_count_0 rfl rfl rfl ?_
    refine cl_s C (kX8_isRange hAD rfl hN (nI a) (nI b)) cd_X8_isRange in_X8 ml_X8_90 sm_X8_isRange hd_X8_isRange rfl rfl ⟨(Nat.le_of_ble_eq_true rfl), (Nat.le_of_ble_eq_true rfl)⟩ ⟨(Nat.le_of_ble_eq_true rfl), (Nat.le_of_ble_eq_true rfl)⟩ (Nat.le_of_ble_eq_true rfl) jX8_count_2 (fun v ws' => Wa.and (fun hv => ?_))
    obtain ⟨rfl, rfl⟩ := hv
    rw [if_pos (show (0 ≤ nI a ∧ nI a ≤ 65535) ∧ (0 ≤ nI b ∧ nI b ≤ 65535) ∧ nI a ≤ nI b from ⟨pth_ok ha, pth_ok hb, nI_le hab (by omega)⟩)]
    refine b1_ne (tgt := 10) C jX8_count_5 (by decide) (fun h5 => ?_) (fun h5 => ?_)
    · refine sg0 C foX8 coX8 oX8_count_10 rfl rfl rfl ?_
      refine bnn_r (tgt := 20) C jX8_count_14 (by decide) ?_
      refine sg0 C foX8 coX8 oX8_count_20 rfl rfl rfl ?_
      refine cl_s C (kX8_hiddenOver hAD rfl ha hb V (fit_T V _ hfit) 16 0 N 0 65535 hfit (by decide) hN hx (by decide) (by decide)) cd_X8_hiddenOver in_X8 ml_X8_142 sm_X8_hiddenOver hd_X8_hiddenOver rfl rfl ⟨(Nat.le_of_ble_eq_true rfl), (Nat.le_of_ble_eq_true rfl)⟩ ⟨(Nat.le_of_ble_eq_true rfl), (Nat.le_of_ble_eq_true rfl)⟩ (Nat.le_of_ble_eq_true rfl) jX8_count_30 (fun v ws' => Wa.and (fun hv => ?_))
      obtain ⟨rfl, rfl⟩ := hv
      have hle := hid_le V (fit_T V _ hfit) 0 65535 a b 16 hfit
      refine b1_le (tgt := 39) C jX8_count_33 (by decide) (fun h33 => ?_) (fun h33 => ?_)
      · have hq : hidT V 0 65535 a b = 0 := Decidable.byContradiction fun q => nI_nle (Nat.pos_of_ne_zero q) (by omega) h33
        refine sg0 C foX8 coX8 oX8_count_39 rfl rfl rfl ?_
        refine cl_s C (kX8_leavesWithin hAD rfl ha hb V (fit_T V _ hfit) 16 0 N hfit (by decide) hN hx) cd_X8_leavesWithin in_X8 ml_X8_75 sm_X8_leavesWithin hd_X8_leavesWithin rfl rfl ⟨(Nat.le_of_ble_eq_true rfl), (Nat.le_of_ble_eq_true rfl)⟩ ⟨(Nat.le_of_ble_eq_true rfl), (Nat.le_of_ble_eq_true rfl)⟩ (Nat.le_of_ble_eq_true rfl) jX8_count_46 (fun v ws' => Wa.and (fun hv => ?_))
        obtain ⟨rfl, rfl⟩ := hv
        exact rt_i C hr hlk jX8_count_49 (fun H hH => ⟨⟨by show _ = some (Value.int (if _ then _ else _)); rw [if_pos hq], rfl⟩, hH⟩)
      · have hq : ¬ hidT V 0 65535 a b = 0 := fun q => h33 (by rw [q]; decide)
        refine sg0 C foX8 coX8 oX8_count_36 rfl rfl rfl ?_
        exact rt_i C hr hlk jX8_count_38 (fun H hH => ⟨⟨by show _ = some (Value.int (if _ then _ else _)); rw [if_neg hq], rfl⟩, hH⟩)
    · exact absurd h5 (by decide)
set_option maxRecDepth 100000 in
set_option maxHeartbeats 4000000 in
theorem kX8_next (hAD : AD ad 9) (hN : NS D N) {vo : Option Term} (hvo : ∀ V, vo = some V → fitT V 16 ∧ ∀ H, N H → nodeAt D H V) {a : Nat} (ha : a < 65536) : Ct l yX8_next cX8_next 2 (some .int) (rK 18 0 0) D ca ad (xW qt nv kf (vF vo) fp fd ra rb wn to tl so sl) 9 [.ref 0, .int (nI a)] N (pG (xW qt nv kf (vF vo) fp fd ra rb wn to tl so sl) N (some (.int (match vo with | none => -2 | some V => lstT V 65535 a)))) := by
  cases vo with
  | none =>
    refine enter (lv := [(0, .ref 0), (1, .int (nI a))]) (by decide +kernel) (Nat.le_of_ble_eq_true rfl) rfl hAD (fun U hK => ns_write hK hN) ?_
    intro p e s m below meth c A args hA C hr hlk hnm
    refine sg0 C foX8 coX8 oX8_next_0 rfl rfl rfl ?_
    refine cl_s C (kX8_isPath hAD rfl hN (nI a)) cd_X8_isPath in_X8 ml_X8_53 sm_X8_isPath hd_X8_isPath rfl rfl ⟨(Nat.le_of_ble_eq_true rfl), (Nat.le_of_ble_eq_true rfl)⟩ ⟨(Nat.le_of_ble_eq_true rfl), (Nat.le_of_ble_eq_true rfl)⟩ (Nat.le_of_ble_eq_true rfl) jX8_next_1 (fun v ws' => Wa.and (fun hv => ?_))
    obtain ⟨rfl, rfl⟩ := hv
    rw [if_pos (pth_ok ha)]
    refine b1_ne (tgt := 9) C jX8_next_4 (by decide) (fun h4 => ?_) (fun h4 => ?_)
    · refine sg0 C foX8 coX8 oX8_next_9 rfl rfl rfl ?_
      refine bnn_n C jX8_next_13 ?_
      refine sg0 C foX8 coX8 oX8_next_16 rfl rfl rfl ?_
      exact rt_i C hr hlk jX8_next_32 (fun H hN => ⟨⟨rfl, rfl⟩, hN⟩)
    · exact absurd h4 (by decide)
  | some V =>
    obtain ⟨hfit, hx⟩ := hvo V rfl
    refine enter (lv := [(0, .ref 0), (1, .int (nI a))]) (by decide +kernel) (Nat.le_of_ble_eq_true rfl) rfl hAD (fun U hK => ns_write hK hN) ?_
    intro p e s m below meth c A args hA C hr hlk hnm
    refine sg0 C foX8 coX8 oX8_next_0 rfl rfl rfl ?_
    refine cl_s C (kX8_isPath hAD rfl hN (nI a)) cd_X8_isPath in_X8 ml_X8_53 sm_X8_isPath hd_X8_isPath rfl rfl ⟨(Nat.le_of_ble_eq_true rfl), (Nat.le_of_ble_eq_true rfl)⟩ ⟨(Nat.le_of_ble_eq_true rfl), (Nat.le_of_ble_eq_true rfl)⟩ (Nat.le_of_ble_eq_true rfl) jX8_next_1 (fun v ws' => Wa.and (fun hv => ?_))
    obtain ⟨rfl, rfl⟩ := hv
    rw [if_pos (pth_ok ha)]
    refine b1_ne (tgt := 9) C jX8_next_4 (by decide) (fun h4 => ?_) (fun h4 => ?_)
    · refine sg0 C foX8 coX8 oX8_next_9 rfl rfl rfl ?_
      refine bnn_r (tgt := 21) C jX8_next_13 (by decide) ?_
      refine sg0 C foX8 coX8 oX8_next_21 rfl rfl rfl ?_
      refine cl_s C (kX8_leastFrom hAD rfl ha V (fit_T V _ hfit) 16 0 N 65535 hfit (by decide) hN hx (by decide)) cd_X8_leastFrom in_X8 ml_X8_146 sm_X8_leastFrom hd_X8_leastFrom rfl rfl ⟨(Nat.le_of_ble_eq_true rfl), (Nat.le_of_ble_eq_true rfl)⟩ ⟨(Nat.le_of_ble_eq_true rfl), (Nat.le_of_ble_eq_true rfl)⟩ (Nat.le_of_ble_eq_true rfl) jX8_next_29 (fun v ws' => Wa.and (fun hv => ?_))
      obtain ⟨rfl, rfl⟩ := hv
      exact rt_i C hr hlk jX8_next_32 (fun H hN => ⟨⟨rfl, rfl⟩, hN⟩)
    · exact absurd h4 (by decide)
set_option maxRecDepth 100000 in
set_option maxHeartbeats 4000000 in
theorem kX8_next_bad (hAD : AD ad 9) (hN : NS D N) (x : Int32) (hx : ¬ (0 ≤ x ∧ x ≤ 65535)) : Ct l yX8_next cX8_next 2 (some .int) (rK 1 0 0) D ca ad (xW qt nv kf fv fp fd ra rb wn to tl so sl) 9 [.ref 0, .int x] N (pG (xW qt nv kf fv fp fd ra rb wn to tl so sl) N (some (.int (-1)))) := by
  refine enter (lv := [(0, .ref 0), (1, .int x)]) (by decide +kernel) (Nat.le_of_ble_eq_true rfl) rfl hAD (fun U hK => ns_write hK hN) ?_
  intro p e s m below meth c A args hA C hr hlk hnm
  refine sg0 C foX8 coX8 oX8_next_0 rfl rfl rfl ?_
  refine cl_s C (kX8_isPath hAD rfl hN x) cd_X8_isPath in_X8 ml_X8_53 sm_X8_isPath hd_X8_isPath rfl rfl ⟨(Nat.le_of_ble_eq_true rfl), (Nat.le_of_ble_eq_true rfl)⟩ ⟨(Nat.le_of_ble_eq_true rfl), (Nat.le_of_ble_eq_true rfl)⟩ (Nat.le_of_ble_eq_true rfl) jX8_next_1 (fun v ws' => Wa.and (fun hv => ?_))
  obtain ⟨rfl, rfl⟩ := hv
  rw [if_neg hx]
  refine b1_ne (tgt := 9) C jX8_next_4 (by decide) (fun h4 => ?_) (fun h4 => ?_)
  · exact absurd rfl h4
  · refine sg0 C foX8 coX8 oX8_next_7 rfl rfl rfl ?_
    exact rt_i C hr hlk jX8_next_8 (fun H hN => ⟨⟨rfl, rfl⟩, hN⟩)
set_option maxRecDepth 100000 in
set_option maxHeartbeats 4000000 in
theorem kX8_put_bad (hAD : AD ad 9) (hN : NS D N) (x : Int32) (v : Int64) (hx : ¬ (0 ≤ x ∧ x ≤ 65535)) : Ct l yX8_put cX8_put 6 (some .int) (rK 1 0 0) D ca ad (xW qt nv kf fv fp fd ra rb wn to tl so sl) 9 [.ref 0, .int x, .long v] N (pG (xW qt nv kf fv fp fd ra rb wn to tl so sl) N (some (.int (-1)))) := by
  refine enter (lv := [(0, .ref 0), (1, .int x), (2, .long v)]) (by decide +kernel) (Nat.le_of_ble_eq_true rfl) rfl hAD (fun U hK => ns_write hK hN) ?_
  intro p e s m below meth c A args hA C hr hlk hnm
  refine sg0 C foX8 coX8 oX8_put_0 rfl rfl rfl ?_
  refine cl_s C (kX8_isPath hAD rfl hN x) cd_X8_isPath in_X8 ml_X8_53 sm_X8_isPath hd_X8_isPath rfl rfl ⟨(Nat.le_of_ble_eq_true rfl), (Nat.le_of_ble_eq_true rfl)⟩ ⟨(Nat.le_of_ble_eq_true rfl), (Nat.le_of_ble_eq_true rfl)⟩ (Nat.le_of_ble_eq_true rfl) jX8_put_1 (fun v ws' => Wa.and (fun hv => ?_))
  obtain ⟨rfl, rfl⟩ := hv
  rw [if_neg hx]
  refine b1_ne (tgt := 9) C jX8_put_4 (by decide) (fun h4 => ?_) (fun h4 => ?_)
  · exact absurd rfl h4
  · refine sg0 C foX8 coX8 oX8_put_7 rfl rfl rfl ?_
    exact rt_i C hr hlk jX8_put_8 (fun H hN => ⟨⟨rfl, rfl⟩, hN⟩)
set_option maxRecDepth 100000 in
set_option maxHeartbeats 4000000 in
theorem kX8_remove_bad (hAD : AD ad 9) (hN : NS D N) (x : Int32) (hx : ¬ (0 ≤ x ∧ x ≤ 65535)) : Ct l yX8_remove cX8_remove 2 (some .int) (rK 1 0 0) D ca ad (xW qt nv kf fv fp fd ra rb wn to tl so sl) 9 [.ref 0, .int x] N (pG (xW qt nv kf fv fp fd ra rb wn to tl so sl) N (some (.int (-1)))) := by
  refine enter (lv := [(0, .ref 0), (1, .int x)]) (by decide +kernel) (Nat.le_of_ble_eq_true rfl) rfl hAD (fun U hK => ns_write hK hN) ?_
  intro p e s m below meth c A args hA C hr hlk hnm
  refine sg0 C foX8 coX8 oX8_remove_0 rfl rfl rfl ?_
  refine cl_s C (kX8_isPath hAD rfl hN x) cd_X8_isPath in_X8 ml_X8_53 sm_X8_isPath hd_X8_isPath rfl rfl ⟨(Nat.le_of_ble_eq_true rfl), (Nat.le_of_ble_eq_true rfl)⟩ ⟨(Nat.le_of_ble_eq_true rfl), (Nat.le_of_ble_eq_true rfl)⟩ (Nat.le_of_ble_eq_true rfl) jX8_remove_1 (fun v ws' => Wa.and (fun hv => ?_))
  obtain ⟨rfl, rfl⟩ := hv
  rw [if_neg hx]
  refine b1_ne (tgt := 9) C jX8_remove_4 (by decide) (fun h4 => ?_) (fun h4 => ?_)
  · exact absurd rfl h4
  · refine sg0 C foX8 coX8 oX8_remove_7 rfl rfl rfl ?_
    exact rt_i C hr hlk jX8_remove_8 (fun H hN => ⟨⟨rfl, rfl⟩, hN⟩)
set_option maxRecDepth 100000 in
set_option maxHeartbeats 4000000 in
theorem kX8_write_bad (hAD : AD ad 9) (hN : NS D N) (x : Int32) (v : Int64) (hx : ¬ (0 ≤ x ∧ x ≤ 65535)) : Ct l yX8_write cX8_write 6 (some .int) (rK 1 0 0) D ca ad (xW qt nv kf fv fp fd ra rb wn to tl so sl) 9 [.ref 0, .int x, .long v] N (pG (xW qt nv kf fv fp fd ra rb wn to tl so sl) N (some (.int (-1)))) := by
  refine enter (lv := [(0, .ref 0), (1, .int x), (2, .long v)]) (by decide +kernel) (Nat.le_of_ble_eq_true rfl) rfl hAD (fun U hK => ns_write hK hN) ?_
  intro p e s m below meth c A args hA C hr hlk hnm
  refine sg0 C foX8 coX8 oX8_write_0 rfl rfl rfl ?_
  refine cl_s C (kX8_isPath hAD rfl hN x) cd_X8_isPath in_X8 ml_X8_53 sm_X8_isPath hd_X8_isPath rfl rfl ⟨(Nat.le_of_ble_eq_true rfl), (Nat.le_of_ble_eq_true rfl)⟩ ⟨(Nat.le_of_ble_eq_true rfl), (Nat.le_of_ble_eq_true rfl)⟩ (Nat.le_of_ble_eq_true rfl) jX8_write_1 (fun v ws' => Wa.and (fun hv => ?_))
  obtain ⟨rfl, rfl⟩ := hv
  rw [if_neg hx]
  refine b1_ne (tgt := 9) C jX8_write_4 (by decide) (fun h4 => ?_) (fun h4 => ?_)
  · exact absurd rfl h4
  · refine sg0 C foX8 coX8 oX8_write_7 rfl rfl rfl ?_
    exact rt_i C hr hlk jX8_write_8 (fun H hN => ⟨⟨rfl, rfl⟩, hN⟩)
set_option maxRecDepth 100000 in
set_option maxHeartbeats 4000000 in
theorem kX8_erase_bad (hAD : AD ad 9) (hN : NS D N) (x : Int32) (hx : ¬ (0 ≤ x ∧ x ≤ 65535)) : Ct l yX8_erase cX8_erase 3 (some .int) (rK 1 0 0) D ca ad (xW qt nv kf fv fp fd ra rb wn to tl so sl) 9 [.ref 0, .int x] N (pG (xW qt nv kf fv fp fd ra rb wn to tl so sl) N (some (.int (-1)))) := by
  refine enter (lv := [(0, .ref 0), (1, .int x)]) (by decide +kernel) (Nat.le_of_ble_eq_true rfl) rfl hAD (fun U hK => ns_write hK hN) ?_
  intro p e s m below meth c A args hA C hr hlk hnm
  refine sg0 C foX8 coX8 oX8_erase_0 rfl rfl rfl ?_
  refine cl_s C (kX8_isPath hAD rfl hN x) cd_X8_isPath in_X8 ml_X8_53 sm_X8_isPath hd_X8_isPath rfl rfl ⟨(Nat.le_of_ble_eq_true rfl), (Nat.le_of_ble_eq_true rfl)⟩ ⟨(Nat.le_of_ble_eq_true rfl), (Nat.le_of_ble_eq_true rfl)⟩ (Nat.le_of_ble_eq_true rfl) jX8_erase_1 (fun v ws' => Wa.and (fun hv => ?_))
  obtain ⟨rfl, rfl⟩ := hv
  rw [if_neg hx]
  refine b1_ne (tgt := 9) C jX8_erase_4 (by decide) (fun h4 => ?_) (fun h4 => ?_)
  · exact absurd rfl h4
  · refine sg0 C foX8 coX8 oX8_erase_7 rfl rfl rfl ?_
    exact rt_i C hr hlk jX8_erase_8 (fun H hN => ⟨⟨rfl, rfl⟩, hN⟩)
set_option maxRecDepth 100000 in
set_option maxHeartbeats 4000000 in
theorem kX8_count_bad (hAD : AD ad 9) (hN : NS D N) (x y : Int32) (hx : ¬ ((0 ≤ x ∧ x ≤ 65535) ∧ (0 ≤ y ∧ y ≤ 65535) ∧ x ≤ y)) : Ct l yX8_count cX8_count 3 (some .int) (rK 2 0 0) D ca ad (xW qt nv kf fv fp fd ra rb wn to tl so sl) 9 [.ref 0, .int x, .int y] N (pG (xW qt nv kf fv fp fd ra rb wn to tl so sl) N (some (.int (-1)))) := by
  refine enter (lv := [(0, .ref 0), (1, .int x), (2, .int y)]) (by decide +kernel) (Nat.le_of_ble_eq_true rfl) rfl hAD (fun U hK => ns_write hK hN) ?_
  intro p e s m below meth c A args hA C hr hlk hnm
  refine sg0 C foX8 coX8 oX8_count_0 rfl rfl rfl ?_
  refine cl_s C (kX8_isRange hAD rfl hN x y) cd_X8_isRange in_X8 ml_X8_90 sm_X8_isRange hd_X8_isRange rfl rfl ⟨(Nat.le_of_ble_eq_true rfl), (Nat.le_of_ble_eq_true rfl)⟩ ⟨(Nat.le_of_ble_eq_true rfl), (Nat.le_of_ble_eq_true rfl)⟩ (Nat.le_of_ble_eq_true rfl) jX8_count_2 (fun v ws' => Wa.and (fun hv => ?_))
  obtain ⟨rfl, rfl⟩ := hv
  rw [if_neg hx]
  refine b1_ne (tgt := 10) C jX8_count_5 (by decide) (fun h5 => ?_) (fun h5 => ?_)
  · exact absurd rfl h5
  · refine sg0 C foX8 coX8 oX8_count_8 rfl rfl rfl ?_
    exact rt_i C hr hlk jX8_count_9 (fun H hN => ⟨⟨rfl, rfl⟩, hN⟩)
set_option maxRecDepth 100000 in
set_option maxHeartbeats 4000000 in
theorem kX8_get_bad (hAD : AD ad 9) (hN : NS D N) (x : Int32) (hx : ¬ (0 ≤ x ∧ x ≤ 65535)) : Ct l yX8_get cX8_get 4 (some .int) (rK 1 0 0) D ca ad (xW qt nv kf fv fp fd ra rb wn to tl so sl) 9 [.ref 0, .int x] N (fun r ws2 H => (r = some (.int (-1)) ∧ ws2 = (xW qt nv kf fv fp 0 ra rb wn to tl so sl)) ∧ N H) := by
  refine enter (lv := [(0, .ref 0), (1, .int x)]) (by decide +kernel) (Nat.le_of_ble_eq_true rfl) rfl hAD (fun U hK => ns_write hK hN) ?_
  intro p e s m below meth c A args hA C hr hlk hnm
  refine sg0 C foX8 coX8 oX8_get_0 rfl rfl rfl ?_
  refine cl_s C (kX8_isPath hAD rfl hN x) cd_X8_isPath in_X8 ml_X8_53 sm_X8_isPath hd_X8_isPath rfl rfl ⟨(Nat.le_of_ble_eq_true rfl), (Nat.le_of_ble_eq_true rfl)⟩ ⟨(Nat.le_of_ble_eq_true rfl), (Nat.le_of_ble_eq_true rfl)⟩ (Nat.le_of_ble_eq_true rfl) jX8_get_6 (fun v ws' => Wa.and (fun hv => ?_))
  obtain ⟨rfl, rfl⟩ := hv
  rw [if_neg hx]
  refine b1_ne (tgt := 14) C jX8_get_9 (by decide) (fun h9 => ?_) (fun h9 => ?_)
  · exact absurd rfl h9
  · refine sg0 C foX8 coX8 oX8_get_12 rfl rfl rfl ?_
    exact rt_i C hr hlk jX8_get_13 (fun H hN => ⟨⟨rfl, rfl⟩, hN⟩)
end
