/-! the model: single fields, ranges, tapes -/
theorem nx_xor (a b : Nat) : nI a ^^^ nI b = nI (a ^^^ b) := by
  apply Int32.toBitVec_inj.mp
  rw [Int32.toBitVec_xor]
  apply BitVec.eq_of_toNat_eq
  rw [BitVec.toNat_xor]
  show (BitVec.ofNat 32 a).toNat ^^^ (BitVec.ofNat 32 b).toNat = (BitVec.ofNat 32 (a ^^^ b)).toNat
  rw [BitVec.toNat_ofNat, BitVec.toNat_ofNat, BitVec.toNat_ofNat, Nat.xor_mod_two_pow]
theorem xor_0 {a b : Nat} (h : a ^^^ b = 0) : a = b := by
  apply Nat.eq_of_testBit_eq
  intro i
  have h1 := congrArg (fun z => z.testBit i) h
  simp only [Nat.testBit_xor, Nat.zero_testBit] at h1
  revert h1
  cases a.testBit i <;> cases b.testBit i <;> simp
theorem xor_dv {P Q k : Nat} : (P ^^^ Q) / 2 ^ k = 0 ↔ P / 2 ^ k = Q / 2 ^ k := by
  rw [← Nat.shiftRight_eq_div_pow, ← Nat.shiftRight_eq_div_pow, ← Nat.shiftRight_eq_div_pow, Nat.shiftRight_xor_distrib]
  exact ⟨xor_0, fun h => by rw [h]; exact Nat.xor_self _⟩
theorem fb_x {P Q B : Nat} (hP : P < 65536) (hQ : Q < 65536) (hB : B ≤ 15) : (nI P ^^^ nI Q) >>> (((15 : Int32) - nI B) &&& 31) = nI ((P ^^^ Q) / 2 ^ (15 - B)) := by
  have h1 : P ^^^ Q < 2 ^ 16 := Nat.xor_lt_two_pow hP hQ
  rw [nx_xor, c15 hB, pk_shrN (by omega) _ (15 - B) (sm_l _ (by omega))]
section
variable {p : Program} {l : Launch} {e : Env} {R : Room} {s : State} {m : MethodId} {args : Array Value} {below : List Frame} {meth : Method} {c : Code} {cells slots : Nat} {QQ : State → Prop} {D : va_G} {ca : Nat → ClassId} {ad : Nat → Nat} {A : Nat → Prop} {N : Heap → Prop} {ws : List va_E} {n : Nat}
set_option maxRecDepth 100000 in
set_option maxHeartbeats 4000000 in
theorem lp_firstBit (C : Cx p s m args c cX9_firstBit 3 RX9 D ca ad A N n) (hn : ws.length = n) {P Q : Nat} (hP : P < 65536) (hQ : Q < 65536) (hne : P ≠ Q) : ∀ k : Nat, k ≤ 15 → P / 2 ^ (k + 1) = Q / 2 ^ (k + 1) → Wa p l e R s m args below meth c cells slots QQ D ca ad A 3 N ([(0, .int (nI P)), (1, .int (nI Q)), (2, .int (nI (fbg P Q (k + 1))))], [], ws) 25 → Wa p l e R s m args below meth c cells slots QQ D ca ad A 3 N ([(0, .int (nI P)), (1, .int (nI Q)), (2, .int (nI (15 - k)))], [], ws) 2 := by
  intro k
  induction k with
  | zero =>
    intro hk hPQ hK
    have hz : ¬ P / 2 ^ 0 = Q / 2 ^ 0 := fun e9 => hne (by simpa using e9)
    rw [fbg_ne (by decide) hz] at hK
    refine sg0 C foX9 coX9 oX9_firstBit_2 rfl rfl hn ?_
    exact b2_ge (tgt := 25) C jX9_firstBit_5 (by decide) (fun _ => hK) (fun h5 => absurd (by decide) h5)
  | succ k ih =>
    intro hk hPQ hK
    have hx : (nI P ^^^ nI Q) >>> (((15 : Int32) - nI (15 - (k + 1))) &&& 31) = nI ((P ^^^ Q) / 2 ^ (k + 1)) := by
      rw [fb_x hP hQ (show 15 - (k + 1) ≤ 15 by omega), show 15 - (15 - (k + 1)) = k + 1 by omega]
    have hxl : (P ^^^ Q) / 2 ^ (k + 1) < 65536 := Nat.lt_of_le_of_lt (Nat.div_le_self _ _) (Nat.xor_lt_two_pow (n := 16) hP hQ)
    refine sg0 C foX9 coX9 oX9_firstBit_2 rfl rfl hn ?_
    refine b2_ge (tgt := 25) C jX9_firstBit_5 (by decide) (fun h5 => ?_) (fun h5 => ?_)
    · exact absurd h5 (by rw [show (15 : Int32) = nI 15 from rfl]; exact nI_ge (by omega) (by decide))
    · refine sg0 C foX9 coX9 oX9_firstBit_8 rfl rfl hn ?_
      rw [hx]
      refine b1_ne (tgt := 25) C jX9_firstBit_16 (by decide) (fun h16 => ?_) (fun h16 => ?_)
      · have hz : ¬ P / 2 ^ (k + 1) = Q / 2 ^ (k + 1) := fun e9 => h16 (by rw [xor_dv.mpr e9]; rfl)
        rw [fbg, if_neg hz] at hK
        exact hK
      · have hz : P / 2 ^ (k + 1) = Q / 2 ^ (k + 1) := xor_dv.mp (Decidable.byContradiction fun e9 => nI_ne0 (Nat.pos_of_ne_zero e9) (Nat.lt_trans hxl (by decide)) h16)
        rw [fbg_eq hz] at hK
        refine sg0 C foX9 coX9 oX9_firstBit_19 rfl rfl hn ?_
        rw [show nI (15 - (k + 1)) + 1 = nI (15 - k) by rw [nI_1, show 15 - (k + 1) + 1 = 15 - k by omega]]
        exact ih (by omega) hz hK
end
section
variable {l : Launch} {D : va_G} {ca : Nat → ClassId} {ad : Nat → Nat} {ws : List va_E} {n : Nat} {N : Heap → Prop}
set_option maxRecDepth 100000 in
set_option maxHeartbeats 4000000 in
theorem kX9_firstBit (hAD : AD ad n) (hN : NS D N) (hn : ws.length = n) {P Q : Nat} (hP : P < 65536) (hQ : Q < 65536) (hne : P ≠ Q) : Ct l yX9_firstBit cX9_firstBit 3 (some .int) (rK 0 0 0) D ca ad ws n [.int (nI P), .int (nI Q)] N (pG ws N (some (.int (nI (fbit P Q))))) := by
  refine enter (lv := [(0, .int (nI P)), (1, .int (nI Q))]) (by decide +kernel) (Nat.le_of_ble_eq_true rfl) rfl hAD (fun U hK => ns_write hK hN) ?_
  intro p e s m below meth c A args hA C hr hlk hnm
  refine sg0 C foX9 coX9 oX9_firstBit_0 rfl rfl hn ?_
  refine lp_firstBit C hn hP hQ hne 15 (by decide) (by rw [p16 hP, p16 hQ]) ?_
  refine sg0 C foX9 coX9 oX9_firstBit_25 rfl rfl hn ?_
  exact rt_i C hr hlk jX9_firstBit_26 (fun H hN => ⟨⟨rfl, rfl⟩, hN⟩)
set_option maxRecDepth 100000 in
set_option maxHeartbeats 4000000 in
theorem kX9_takesIn (hAD : AD ad n) (hN : NS D N) (hn : ws.length = n) {P B S : Nat} (hP : P < 65536) (hB : B ≤ 15) (hS : S < 65536) : Ct l yX9_takesIn cX9_takesIn 3 (some .boolean) (rK 1 0 0) D ca ad ws n [.int (nI P), .int (nI S), .int (nI B)] N (pG ws N (some (.int (if stm P B = S then 1 else 0)))) := by
  refine enter (lv := [(0, .int (nI P)), (1, .int (nI S)), (2, .int (nI B))]) (by decide +kernel) (Nat.le_of_ble_eq_true rfl) rfl hAD (fun U hK => ns_write hK hN) ?_
  intro p e s m below meth c A args hA C hr hlk hnm
  refine sg0 C foX9 coX9 oX9_takesIn_0 rfl rfl hn ?_
  refine cl_s C (kX9_stemOf hAD hn hN hP (show B ≤ 16 by omega)) cd_X9_stemOf in_X9 ml_X9_118 sm_X9_stemOf hd_X9_stemOf rfl rfl ⟨(Nat.le_of_ble_eq_true rfl), (Nat.le_of_ble_eq_true rfl)⟩ ⟨(Nat.le_of_ble_eq_true rfl), (Nat.le_of_ble_eq_true rfl)⟩ (Nat.le_of_ble_eq_true rfl) jX9_takesIn_2 (fun v ws' => Wa.and (fun hv => ?_))
  obtain ⟨rfl, rfl⟩ := hv
  refine sg0 C foX9 coX9 oX9_takesIn_5 rfl rfl hn ?_
  refine b2_ne (tgt := 13) C jX9_takesIn_6 (by decide) (fun h6 => ?_) (fun h6 => ?_)
  · refine sg0 C foX9 coX9 oX9_takesIn_13 rfl rfl hn ?_
    exact rt_z C hr hlk (by decide) jX9_takesIn_14 (fun H hH => ⟨⟨by rw [if_neg (fun e1 => h6 (by rw [e1]))], rfl⟩, hH⟩)
  · refine sg0 C foX9 coX9 oX9_takesIn_9 rfl rfl hn ?_
    exact rt_z C hr hlk (by decide) jX9_takesIn_14 (fun H hH => ⟨⟨by rw [if_pos ((nI_eq (Nat.lt_of_le_of_lt (stm_le P B) (by omega)) (by omega)).mp h6)], rfl⟩, hH⟩)
end
section
variable {l : Launch} {D : va_G} {ca : Nat → ClassId} {ad : Nat → Nat} {N : Heap → Prop} {pa : Nat → Int32} {va : Nat → Int64} {sz : Nat → Int32} {fr : Nat → Int32} {tw : Nat → Int32} {ta : Nat → Int32} {wd : Nat → Int64} {wb : Nat → Int32} {wp : Nat → Int32} {ou : Nat → Int32} {o1 : Nat → Int32} {o2 : Nat → Int32} {pf : Nat → Int32} {pt : Nat → Int32} {ki : Nat → Int32} {bi : Nat → Int32} {ste : Nat → Int32} {hel : Nat → Int64} {low : Nat → Int32} {hgh : Nat → Int32} {su : Nat → Int64} {ro : Nat → Int32} {fe : Nat → Int32} {vs : Int32} {wn : Int32} {tp : Int32} {dp : Int32} {la : Int32} {rst : Int32} {hlf : Int32} {nd : Int32} {rt : Int32} {frd : Int32} {fa : Int32} {at_ : Int32} {end_ : Int32} {ab : Int32} {fo : Int64} {co : Int32} {ll : Int32} {lh : Int32} {hm : Int32}
set_option maxRecDepth 100000 in
set_option maxHeartbeats 4000000 in
theorem kX9_place (hAD : AD ad 24) (hN : NS D N)  : Ct l yX9_place cX9_place 1 (some .int) (rK 0 0 0) D ca ad (mW pa va sz fr tw ta wd wb wp ou o1 o2 pf pt ki bi ste hel low hgh su ro fe vs wn tp dp la rst hlf nd rt frd fa at_ end_ ab fo co ll lh hm) 24 [.ref 0] N (pG (mW pa va sz fr tw ta wd wb wp ou o1 o2 pf pt ki bi ste hel low hgh su ro fe vs wn tp dp la rst hlf nd rt frd fa at_ end_ ab fo co ll lh hm) N (some (.int fa))) := by
  refine enter (lv := [(0, .ref 0)]) (by decide +kernel) (Nat.le_of_ble_eq_true rfl) rfl hAD (fun U hK => ns_write hK hN) ?_
  intro p e s m below meth c A args hA C hr hlk hnm
  refine sg0 C foX9 coX9 oX9_place_0 rfl rfl rfl ?_
  exact rt_i C hr hlk jX9_place_4 (fun H hN => ⟨⟨rfl, rfl⟩, hN⟩)
set_option maxRecDepth 100000 in
set_option maxHeartbeats 4000000 in
theorem kX9_value (hAD : AD ad 24) (hN : NS D N)  : Ct l yX9_value cX9_value 1 (some .long) (rK 0 0 0) D ca ad (mW pa va sz fr tw ta wd wb wp ou o1 o2 pf pt ki bi ste hel low hgh su ro fe vs wn tp dp la rst hlf nd rt frd fa at_ end_ ab fo co ll lh hm) 24 [.ref 0] N (pG (mW pa va sz fr tw ta wd wb wp ou o1 o2 pf pt ki bi ste hel low hgh su ro fe vs wn tp dp la rst hlf nd rt frd fa at_ end_ ab fo co ll lh hm) N (some (.long fo))) := by
  refine enter (lv := [(0, .ref 0)]) (by decide +kernel) (Nat.le_of_ble_eq_true rfl) rfl hAD (fun U hK => ns_write hK hN) ?_
  intro p e s m below meth c A args hA C hr hlk hnm
  refine sg0 C foX9 coX9 oX9_value_0 rfl rfl rfl ?_
  exact rt_l C hr hlk jX9_value_4 (fun H hN => ⟨⟨rfl, rfl⟩, hN⟩)
set_option maxRecDepth 100000 in
set_option maxHeartbeats 4000000 in
theorem kX9_forget (hAD : AD ad 24) (hN : NS D N)  : Ct l yX9_forget cX9_forget 2 (some .int) (rK 0 0 0) D ca ad (mW pa va sz fr tw ta wd wb wp ou o1 o2 pf pt ki bi ste hel low hgh su ro fe vs wn tp dp la rst hlf nd rt frd fa at_ end_ ab fo co ll lh hm) 24 [.ref 0] N (pG (mW pa va sz fr tw ta wd wb wp ou o1 o2 pf pt ki bi ste hel low hgh su ro fe vs 0 tp dp la rst hlf nd rt frd fa at_ end_ ab fo co ll lh hm) N (some (.int wn))) := by
  refine enter (lv := [(0, .ref 0)]) (by decide +kernel) (Nat.le_of_ble_eq_true rfl) rfl hAD (fun U hK => ns_write hK hN) ?_
  intro p e s m below meth c A args hA C hr hlk hnm
  refine sg0 C foX9 coX9 oX9_forget_0 rfl rfl rfl ?_
  exact rt_i C hr hlk jX9_forget_11 (fun H hN => ⟨⟨rfl, rfl⟩, hN⟩)
set_option maxRecDepth 100000 in
set_option maxHeartbeats 4000000 in
theorem kX9_want (hAD : AD ad 24) (hN : NS D N) {wv : Nat} (hwn : wv ≤ 20) (x y : Int32) : Ct l yX9_want cX9_want 3 (some .int) (rK 1 0 0) D ca ad (mW pa va sz fr tw ta wd wb wp ou o1 o2 pf pt ki bi ste hel low hgh su ro fe vs (nI wv) tp dp la rst hlf nd rt frd fa at_ end_ ab fo co ll lh hm) 24 [.ref 0, .int x, .int y] N (fun r ws2 H => ((¬ ((0 ≤ x ∧ x ≤ 65535) ∧ (0 ≤ y ∧ y ≤ 65535) ∧ x ≤ y) ∧ r = some (.int (-1)) ∧ ws2 = (mW pa va sz fr tw ta wd wb wp ou o1 o2 pf pt ki bi ste hel low hgh su ro fe vs (nI wv) tp dp la rst hlf nd rt frd fa at_ end_ ab fo co ll lh hm)) ∨ (((0 ≤ x ∧ x ≤ 65535) ∧ (0 ≤ y ∧ y ≤ 65535) ∧ x ≤ y) ∧ 20 ≤ wv ∧ r = some (.int (-3)) ∧ ws2 = (mW pa va sz fr tw ta wd wb wp ou o1 o2 pf pt ki bi ste hel low hgh su ro fe vs (nI wv) tp dp la rst hlf nd rt frd fa at_ end_ ab fo co ll lh hm)) ∨ (((0 ≤ x ∧ x ≤ 65535) ∧ (0 ≤ y ∧ y ≤ 65535) ∧ x ≤ y) ∧ wv < 20 ∧ r = some (.int (nI (wv + 1))) ∧ ws2 = (mW pa va sz (upd fr (nI wv).toNatClampNeg x) (upd tw (nI wv).toNatClampNeg y) ta wd wb wp ou o1 o2 pf pt ki bi ste hel low hgh su ro fe vs (nI (wv + 1)) tp dp la rst hlf nd rt frd fa at_ end_ ab fo co ll lh hm))) ∧ N H) := by
  refine enter (lv := [(0, .ref 0), (1, .int x), (2, .int y)]) (by decide +kernel) (Nat.le_of_ble_eq_true rfl) rfl hAD (fun U hK => ns_write hK hN) ?_
  intro p e s m below meth c A args hA C hr hlk hnm
  refine sg0 C foX9 coX9 oX9_want_0 rfl rfl rfl ?_
  refine cl_s C (kX9_isPath hAD rfl hN x) cd_X9_isPath in_X9 ml_X9_101 sm_X9_isPath hd_X9_isPath rfl rfl ⟨(Nat.le_of_ble_eq_true rfl), (Nat.le_of_ble_eq_true rfl)⟩ ⟨(Nat.le_of_ble_eq_true rfl), (Nat.le_of_ble_eq_true rfl)⟩ (Nat.le_of_ble_eq_true rfl) jX9_want_1 (fun v ws' => Wa.and (fun hv => ?_))
  obtain ⟨rfl, rfl⟩ := hv
  refine b1_eq (tgt := 19) C jX9_want_4 (by decide) (fun h4 => ?_) (fun h4 => ?_)
  · have hx : ¬ (0 ≤ x ∧ x ≤ 65535) := fun e1 => by rw [if_pos e1] at h4; exact absurd h4 (by decide)
    refine sg0 C foX9 coX9 oX9_want_19 rfl rfl rfl ?_
    exact rt_i C hr hlk jX9_want_20 (fun H hH => ⟨Or.inl ⟨fun q => hx q.1, rfl, rfl⟩, hH⟩)
  · have hx : (0 ≤ x ∧ x ≤ 65535) := Decidable.byContradiction fun e1 => h4 (if_neg e1)
    refine sg0 C foX9 coX9 oX9_want_7 rfl rfl rfl ?_
    refine cl_s C (kX9_isPath hAD rfl hN y) cd_X9_isPath in_X9 ml_X9_101 sm_X9_isPath hd_X9_isPath rfl rfl ⟨(Nat.le_of_ble_eq_true rfl), (Nat.le_of_ble_eq_true rfl)⟩ ⟨(Nat.le_of_ble_eq_true rfl), (Nat.le_of_ble_eq_true rfl)⟩ (Nat.le_of_ble_eq_true rfl) jX9_want_8 (fun v ws' => Wa.and (fun hv => ?_))
    obtain ⟨rfl, rfl⟩ := hv
    refine b1_eq (tgt := 19) C jX9_want_11 (by decide) (fun h11 => ?_) (fun h11 => ?_)
    · have hy : ¬ (0 ≤ y ∧ y ≤ 65535) := fun e1 => by rw [if_pos e1] at h11; exact absurd h11 (by decide)
      refine sg0 C foX9 coX9 oX9_want_19 rfl rfl rfl ?_
      exact rt_i C hr hlk jX9_want_20 (fun H hH => ⟨Or.inl ⟨fun q => hy q.2.1, rfl, rfl⟩, hH⟩)
    · have hy : (0 ≤ y ∧ y ≤ 65535) := Decidable.byContradiction fun e1 => h11 (if_neg e1)
      refine sg0 C foX9 coX9 oX9_want_14 rfl rfl rfl ?_
      refine b2_le (tgt := 21) C jX9_want_16 (by decide) (fun h16 => ?_) (fun h16 => ?_)
      · refine sg0 C foX9 coX9 oX9_want_21 rfl rfl rfl ?_
        refine b2_ne (tgt := 33) C jX9_want_27 (by decide) (fun h27 => ?_) (fun h27 => ?_)
        · have hq : wv < 20 := Nat.lt_of_le_of_ne hwn fun e1 => h27 (by rw [e1]; rfl)
          refine sg C foX9 coX9 oX9_want_33 rfl rfl rfl ⟨vp_in_nI hq (by decide), vp_in_nI hq (by decide), trivial⟩ ?_
          exact rt_i C hr hlk jX9_want_67 (fun H hH => ⟨Or.inr (Or.inr ⟨⟨hx, hy, h16⟩, hq, by rw [nI_1], by rw [nI_1]⟩), hH⟩)
        · have hq : wv = 20 := (nI_eq (by omega) (by decide)).mp (show nI wv = nI 20 from h27)
          refine sg0 C foX9 coX9 oX9_want_30 rfl rfl rfl ?_
          exact rt_i C hr hlk jX9_want_32 (fun H hH => ⟨Or.inr (Or.inl ⟨⟨hx, hy, h16⟩, by omega, rfl, rfl⟩), hH⟩)
      · refine sg0 C foX9 coX9 oX9_want_19 rfl rfl rfl ?_
        exact rt_i C hr hlk jX9_want_20 (fun H hH => ⟨Or.inl ⟨fun q => h16 q.2.2, rfl, rfl⟩, hH⟩)
set_option maxRecDepth 100000 in
set_option maxHeartbeats 4000000 in
theorem kX9_cut (hAD : AD ad 24) (hN : NS D N) {tl : Nat} (htl : tl ≤ 4000) (x : Int32) : Ct l yX9_cut cX9_cut 3 (some .int) (rK 0 0 0) D ca ad (mW pa va sz fr tw ta wd wb wp ou o1 o2 pf pt ki bi ste hel low hgh su ro fe vs wn (nI tl) dp la rst hlf nd rt frd fa at_ end_ ab fo co ll lh hm) 24 [.ref 0, .int x] N (fun r ws2 H => ((¬ (0 ≤ x.toInt ∧ x.toInt ≤ (tl : Int)) ∧ r = some (.int (-1)) ∧ ws2 = (mW pa va sz fr tw ta wd wb wp ou o1 o2 pf pt ki bi ste hel low hgh su ro fe vs wn (nI tl) dp la rst hlf nd rt frd fa at_ end_ ab fo co ll lh hm)) ∨ ∃ j : Nat, x = nI j ∧ j ≤ tl ∧ r = some (.int (nI (tl - j))) ∧ ws2 = (mW pa va sz fr tw ta wd wb wp ou o1 o2 pf pt ki bi ste hel low hgh su ro fe vs wn (nI j) dp la rst hlf nd rt frd fa at_ end_ ab fo co ll lh hm)) ∧ N H) := by
  refine enter (lv := [(0, .ref 0), (1, .int x)]) (by decide +kernel) (Nat.le_of_ble_eq_true rfl) rfl hAD (fun U hK => ns_write hK hN) ?_
  intro p e s m below meth c A args hA C hr hlk hnm
  refine sg0 C foX9 coX9 oX9_cut_0 rfl rfl rfl ?_
  refine b1_lt (tgt := 12) C jX9_cut_1 (by decide) (fun h1 => ?_) (fun h1 => ?_)
  · refine sg0 C foX9 coX9 oX9_cut_12 rfl rfl rfl ?_
    exact rt_i C hr hlk jX9_cut_13 (fun H hH => ⟨Or.inl ⟨fun q => absurd h1 (Int32.not_lt.mpr (by rw [Int32.le_iff_toInt_le, Int32.toInt_zero]; exact q.1)), rfl, rfl⟩, hH⟩)
  · refine sg0 C foX9 coX9 oX9_cut_4 rfl rfl rfl ?_
    refine b2_le (tgt := 14) C jX9_cut_9 (by decide) (fun h9 => ?_) (fun h9 => ?_)
    · obtain ⟨j, hj, rfl⟩ := nI_of h1
      have hq : j ≤ tl := (nI_leI hj (by omega)).mp h9
      refine sg0 C foX9 coX9 oX9_cut_14 rfl rfl rfl ?_
      exact rt_i C hr hlk jX9_cut_27 (fun H hH => ⟨Or.inr ⟨j, rfl, hq, by rw [pk_sub hq], rfl⟩, hH⟩)
    · refine sg0 C foX9 coX9 oX9_cut_12 rfl rfl rfl ?_
      exact rt_i C hr hlk jX9_cut_13 (fun H hH => ⟨Or.inl ⟨fun q => h9 (by rw [Int32.le_iff_toInt_le, nI_toInt (by omega)]; exact q.2), rfl, rfl⟩, hH⟩)
set_option maxRecDepth 100000 in
set_option maxHeartbeats 4000000 in
theorem kX9_octet (hAD : AD ad 24) (hN : NS D N) {tl : Nat} (htl : tl ≤ 4000) (x : Int32) : Ct l yX9_octet cX9_octet 2 (some .int) (rK 0 0 0) D ca ad (mW pa va sz fr tw ta wd wb wp ou o1 o2 pf pt ki bi ste hel low hgh su ro fe vs wn (nI tl) dp la rst hlf nd rt frd fa at_ end_ ab fo co ll lh hm) 24 [.ref 0, .int x] N (pG (mW pa va sz fr tw ta wd wb wp ou o1 o2 pf pt ki bi ste hel low hgh su ro fe vs wn (nI tl) dp la rst hlf nd rt frd fa at_ end_ ab fo co ll lh hm) N (some (.int (if (0 ≤ x.toInt ∧ x.toInt < (tl : Int)) then ta x.toNatClampNeg else -1)))) := by
  refine enter (lv := [(0, .ref 0), (1, .int x)]) (by decide +kernel) (Nat.le_of_ble_eq_true rfl) rfl hAD (fun U hK => ns_write hK hN) ?_
  intro p e s m below meth c A args hA C hr hlk hnm
  refine sg0 C foX9 coX9 oX9_octet_0 rfl rfl rfl ?_
  refine b1_lt (tgt := 12) C jX9_octet_1 (by decide) (fun h1 => ?_) (fun h1 => ?_)
  · refine sg0 C foX9 coX9 oX9_octet_12 rfl rfl rfl ?_
    exact rt_i C hr hlk jX9_octet_22 (fun H hH => ⟨⟨by rw [if_neg (fun q => absurd h1 (Int32.not_lt.mpr (by rw [Int32.le_iff_toInt_le, Int32.toInt_zero]; exact q.1)))], rfl⟩, hH⟩)
  · refine sg0 C foX9 coX9 oX9_octet_4 rfl rfl rfl ?_
    refine b2_lt (tgt := 16) C jX9_octet_9 (by decide) (fun h9 => ?_) (fun h9 => ?_)
    · have hq : (0 ≤ x.toInt ∧ x.toInt < (tl : Int)) := ⟨by rw [Int32.lt_iff_toInt_lt, Int32.toInt_zero] at h1; omega, by rw [Int32.lt_iff_toInt_lt, nI_toInt (by omega)] at h9; exact h9⟩
      refine sg C foX9 coX9 oX9_octet_16 rfl rfl rfl ⟨vp_in_iff.mpr ⟨hq.1, by omega⟩, trivial⟩ ?_
      exact rt_i C hr hlk jX9_octet_22 (fun H hH => ⟨⟨by rw [if_pos hq], rfl⟩, hH⟩)
    · refine sg0 C foX9 coX9 oX9_octet_12 rfl rfl rfl ?_
      exact rt_i C hr hlk jX9_octet_22 (fun H hH => ⟨⟨by rw [if_neg (fun q => h9 (by rw [Int32.lt_iff_toInt_lt, nI_toInt (by omega)]; exact q.2))], rfl⟩, hH⟩)
set_option maxRecDepth 100000 in
set_option maxHeartbeats 4000000 in
theorem kX9_spoil (hAD : AD ad 24) (hN : NS D N) {tl : Nat} (htl : tl ≤ 4000) (x y : Int32) : Ct l yX9_spoil cX9_spoil 3 (some .int) (rK 0 0 0) D ca ad (mW pa va sz fr tw ta wd wb wp ou o1 o2 pf pt ki bi ste hel low hgh su ro fe vs wn (nI tl) dp la rst hlf nd rt frd fa at_ end_ ab fo co ll lh hm) 24 [.ref 0, .int x, .int y] N (fun r ws2 H => ((¬ ((0 ≤ x.toInt ∧ x.toInt < (tl : Int)) ∧ 0 ≤ y ∧ y ≤ 255) ∧ r = some (.int (-1)) ∧ ws2 = (mW pa va sz fr tw ta wd wb wp ou o1 o2 pf pt ki bi ste hel low hgh su ro fe vs wn (nI tl) dp la rst hlf nd rt frd fa at_ end_ ab fo co ll lh hm)) ∨ (((0 ≤ x.toInt ∧ x.toInt < (tl : Int)) ∧ 0 ≤ y ∧ y ≤ 255) ∧ r = some (.int (ta x.toNatClampNeg ^^^ y)) ∧ ws2 = (mW pa va sz fr tw (upd ta x.toNatClampNeg (ta x.toNatClampNeg ^^^ y)) wd wb wp ou o1 o2 pf pt ki bi ste hel low hgh su ro fe vs wn (nI tl) dp la rst hlf nd rt frd fa at_ end_ ab fo co ll lh hm))) ∧ N H) := by
  refine enter (lv := [(0, .ref 0), (1, .int x), (2, .int y)]) (by decide +kernel) (Nat.le_of_ble_eq_true rfl) rfl hAD (fun U hK => ns_write hK hN) ?_
  intro p e s m below meth c A args hA C hr hlk hnm
  refine sg0 C foX9 coX9 oX9_spoil_0 rfl rfl rfl ?_
  refine b1_lt (tgt := 23) C jX9_spoil_1 (by decide) (fun h1 => ?_) (fun h1 => ?_)
  · refine sg0 C foX9 coX9 oX9_spoil_23 rfl rfl rfl ?_
    exact rt_i C hr hlk jX9_spoil_24 (fun H hH => ⟨Or.inl ⟨fun q => absurd h1 (Int32.not_lt.mpr (by rw [Int32.le_iff_toInt_le, Int32.toInt_zero]; exact q.1.1)), rfl, rfl⟩, hH⟩)
  · refine sg0 C foX9 coX9 oX9_spoil_4 rfl rfl rfl ?_
    refine b2_ge (tgt := 23) C jX9_spoil_9 (by decide) (fun h9 => ?_) (fun h9 => ?_)
    · refine sg0 C foX9 coX9 oX9_spoil_23 rfl rfl rfl ?_
      exact rt_i C hr hlk jX9_spoil_24 (fun H hH => ⟨Or.inl ⟨fun q => absurd h9 (Int32.not_le.mpr (by rw [Int32.lt_iff_toInt_lt, nI_toInt (by omega)]; exact q.1.2)), rfl, rfl⟩, hH⟩)
    · have hq : (0 ≤ x.toInt ∧ x.toInt < (tl : Int)) := ⟨by rw [Int32.lt_iff_toInt_lt, Int32.toInt_zero] at h1; omega, by have h9 := Int32.not_le.mp h9; rw [Int32.lt_iff_toInt_lt, nI_toInt (by omega)] at h9; exact h9⟩
      refine sg0 C foX9 coX9 oX9_spoil_12 rfl rfl rfl ?_
      refine b1_lt (tgt := 23) C jX9_spoil_13 (by decide) (fun h13 => ?_) (fun h13 => ?_)
      · refine sg0 C foX9 coX9 oX9_spoil_23 rfl rfl rfl ?_
        exact rt_i C hr hlk jX9_spoil_24 (fun H hH => ⟨Or.inl ⟨fun q => absurd h13 (Int32.not_lt.mpr q.2.1), rfl, rfl⟩, hH⟩)
      · refine sg0 C foX9 coX9 oX9_spoil_16 rfl rfl rfl ?_
        refine b2_le (tgt := 25) C jX9_spoil_20 (by decide) (fun h20 => ?_) (fun h20 => ?_)
        · refine sg C foX9 coX9 oX9_spoil_25 rfl rfl rfl ⟨vp_in_iff.mpr ⟨hq.1, by omega⟩, vp_in_iff.mpr ⟨hq.1, by omega⟩, vp_in_iff.mpr ⟨hq.1, by omega⟩, trivial⟩ ?_
          exact rt_i C hr hlk jX9_spoil_41 (fun H hH => ⟨Or.inr ⟨⟨hq, Int32.not_lt.mp h13, h20⟩, by simp [upd], rfl⟩, hH⟩)
        · refine sg0 C foX9 coX9 oX9_spoil_23 rfl rfl rfl ?_
          exact rt_i C hr hlk jX9_spoil_24 (fun H hH => ⟨Or.inl ⟨fun q => h20 q.2.2, rfl, rfl⟩, hH⟩)
end
