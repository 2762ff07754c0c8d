/-! the reader: single octets and numbers, leaves -/
section
variable {l : Launch} {D : va_G} {ca : Nat → ClassId} {ad : Nat → Nat} {N : Heap → Prop} {c0 c1 c2 c3 c4 c7 c8 : va_E} {S : List Int32} {to : Nat → Int32} {fa fp : Int32}
set_option maxRecDepth 100000 in
set_option maxHeartbeats 4000000 in
theorem kX6_refuse (hAD : AD ad 10) (hN : NS D N) {i : Nat} (x y : Int32) : Ct l yX6_refuse cX6_refuse 3 (some (.object "PathProofs$Node")) (rK 0 0 0) D ca ad (c0 :: c1 :: c2 :: c3 :: c4 :: .inr (6, [.ref 6, .int (nI S.length)]) :: .inl (0, 4000, .inl to) :: c7 :: c8 :: .inr (5, [.ref 5, .int (nI i), .int fa, .int fp]) :: []) 10 [.ref 9, .int x, .int y] N (fun r ws2 H => (r = some .null ∧ ws2 = (c0 :: c1 :: c2 :: c3 :: c4 :: .inr (6, [.ref 6, .int (nI S.length)]) :: .inl (0, 4000, .inl to) :: c7 :: c8 :: .inr (5, [.ref 5, .int (nI i), .int x, .int y]) :: [])) ∧ N H) := by
  refine enter (lv := [(0, .ref 9), (1, .int x), (2, .int y)]) (by decide +kernel) (Nat.le_of_ble_eq_true rfl) rfl hAD (fun U hK => ns_write hK hN) ?_
  intro p e s m below meth c A args hA C hr hlk hnm
  refine sg0 C foX6 coX6 oX6_refuse_0 rfl rfl rfl ?_
  exact rt_n C hr (Or.inl ⟨_, rfl⟩) hlk jX6_refuse_11 (fun H hN => ⟨⟨rfl, rfl⟩, hN⟩)
set_option maxRecDepth 100000 in
set_option maxHeartbeats 4000000 in
theorem kX6_lacks (hAD : AD ad 10) (hN : NS D N) {i j : Nat} (hlen : S.length ≤ 4000) (hi : i ≤ S.length) (hj : j ≤ 8) : Ct l yX6_lacks cX6_lacks 2 (some .boolean) (rK 1 0 0) D ca ad (c0 :: c1 :: c2 :: c3 :: c4 :: .inr (6, [.ref 6, .int (nI S.length)]) :: .inl (0, 4000, .inl to) :: c7 :: c8 :: .inr (5, [.ref 5, .int (nI i), .int fa, .int fp]) :: []) 10 [.ref 9, .int (nI j)] N (fun r ws2 H => ((S.length < i + j ∧ r = some (.int 1) ∧ ws2 = (c0 :: c1 :: c2 :: c3 :: c4 :: .inr (6, [.ref 6, .int (nI S.length)]) :: .inl (0, 4000, .inl to) :: c7 :: c8 :: .inr (5, [.ref 5, .int (nI i), .int 1, .int (nI S.length)]) :: [])) ∨ (i + j ≤ S.length ∧ r = some (.int 0) ∧ ws2 = (c0 :: c1 :: c2 :: c3 :: c4 :: .inr (6, [.ref 6, .int (nI S.length)]) :: .inl (0, 4000, .inl to) :: c7 :: c8 :: .inr (5, [.ref 5, .int (nI i), .int fa, .int fp]) :: []))) ∧ N H) := by
  refine enter (lv := [(0, .ref 9), (1, .int (nI j))]) (by decide +kernel) (Nat.le_of_ble_eq_true rfl) rfl hAD (fun U hK => ns_write hK hN) ?_
  intro p e s m below meth c A args hA C hr hlk hnm
  refine sg0 C foX6 coX6 oX6_lacks_0 rfl rfl rfl ?_
  rw [pk_sub hi]
  refine b2_lt (tgt := 18) C jX6_lacks_13 (by decide) (fun h13 => ?_) (fun h13 => ?_)
  · have hq : S.length < i + j := by have := (nI_ltI (by omega) (by omega)).mp h13; omega
    refine sg0 C foX6 coX6 oX6_lacks_18 rfl rfl rfl ?_
    refine cl_v C (kX6_refuse hAD hN 1 (nI S.length)) (rcv (ci := 5) C.2.1 rfl rfl) cd_X6_refuse in_X6 ml_X6_35 im_X6_refuse se_X6_refuse hd_X6_refuse rfl rfl ⟨(Nat.le_of_ble_eq_true rfl), (Nat.le_of_ble_eq_true rfl)⟩ ⟨(Nat.le_of_ble_eq_true rfl), (Nat.le_of_ble_eq_true rfl)⟩ (Nat.le_of_ble_eq_true rfl) jX6_lacks_27 (fun v ws' => Wa.and (fun hv => ?_))
    obtain ⟨rfl, rfl⟩ := hv
    refine sg0 C foX6 coX6 oX6_lacks_30 rfl rfl rfl ?_
    exact rt_z C hr hlk (by decide) jX6_lacks_32 (fun H hH => ⟨Or.inl ⟨hq, rfl, rfl⟩, hH⟩)
  · have hq : i + j ≤ S.length := by have := Nat.not_lt.mp (fun q => h13 ((nI_ltI (by omega) (by omega)).mpr q)); omega
    refine sg0 C foX6 coX6 oX6_lacks_16 rfl rfl rfl ?_
    exact rt_z C hr hlk (by decide) jX6_lacks_17 (fun H hH => ⟨Or.inr ⟨hq, rfl, rfl⟩, hH⟩)
end
section
variable {p : Program} {l : Launch} {e : Env} {R : Room} {s : State} {m : MethodId} {args : Array Value} {below : List Frame} {meth : Method} {c : Code} {cells slots : Nat} {QQ : State → Prop} {D : va_G} {ca : Nat → ClassId} {ad : Nat → Nat} {A : Nat → Prop} {N : Heap → Prop} {c0 c1 c2 c3 c4 c7 c8 : va_E} {S : List Int32} {to : Nat → Int32} {fa fp : Int32}
set_option maxRecDepth 100000 in
set_option maxHeartbeats 4000000 in
theorem lp_number (C : Cx p s m args c cX6_number 5 RX6 D ca ad A N 10) (hAD : AD ad 10) (hN : NS D N) (hS : tpR to S) (hlen : S.length ≤ 4000) {j : Nat} (hj : j ≤ 8) (hR : 1 ≤ R.frames ∧ 40 ≤ R.locals ∧ cells ≤ R.cells ∧ slots ≤ R.slots) : ∀ (mm k i : Nat) (a : Int64), k + mm = j → i + mm ≤ S.length → Wa p l e R s m args below meth c cells slots QQ D ca ad A 5 N ([(0, .ref 9), (1, .int (nI j)), (2, .long (nmF S mm i a)), (4, .int (nI j))], [], (c0 :: c1 :: c2 :: c3 :: c4 :: .inr (6, [.ref 6, .int (nI S.length)]) :: .inl (0, 4000, .inl to) :: c7 :: c8 :: .inr (5, [.ref 5, .int (nI (i + mm)), .int fa, .int fp]) :: [])) 60 → Wa p l e R s m args below meth c cells slots QQ D ca ad A 5 N ([(0, .ref 9), (1, .int (nI j)), (2, .long (a)), (4, .int (nI k))], [], (c0 :: c1 :: c2 :: c3 :: c4 :: .inr (6, [.ref 6, .int (nI S.length)]) :: .inl (0, 4000, .inl to) :: c7 :: c8 :: .inr (5, [.ref 5, .int (nI i), .int fa, .int fp]) :: [])) 5 := by
  obtain ⟨hR1, hR2, hR3, hR4⟩ := hR
  intro mm
  induction mm with
  | zero =>
    intro k i a hk hi hK
    have hkj : k = j := by omega
    subst hkj
    refine sg0 C foX6 coX6 oX6_number_5 rfl rfl rfl ?_
    exact b2_ge (tgt := 60) C jX6_number_8 (by decide) (fun _ => hK) (fun h8 => absurd (Int32.le_refl _) h8)
  | succ mm ih =>
    intro k i a hk hi hK
    have hcl : (nI i).toNatClampNeg = i := nI_clamp (by omega)
    have htl : to i = (S[i]?).getD 0 := by rw [hS i (by omega) (by omega)]; rfl
    simp only [nmF] at hK
    refine sg0 C foX6 coX6 oX6_number_5 rfl rfl rfl ?_
    refine b2_ge (tgt := 60) C jX6_number_8 (by decide) (fun h8 => ?_) (fun h8 => ?_)
    · exact absurd h8 (nI_ge (by omega) (by omega))
    · refine sg0 C foX6 coX6 oX6_number_11 rfl rfl rfl ?_
      refine cl_v C (kX7_has hAD hN (show 7 + ([c7, c8, .inr (5, [.ref 5, .int (nI i), .int fa, .int fp])] : List va_E).length = 10 from rfl) hlen (nI i)) (rcv (ci := 6) C.2.1 rfl rfl) cd_X7_has in_X7 ml_X6_81 im_X7_has se_X7_has hd_X7_has rfl rfl ⟨by omega, by show 8 + (2 + 11) + 40 * 0 ≤ R.locals; omega⟩ ⟨by show cells + 0 ≤ R.cells; omega, by show slots + 0 ≤ R.slots; omega⟩ (Nat.le_of_ble_eq_true rfl) jX6_number_19 (fun v ws' => Wa.and (fun hv => ?_))
      obtain ⟨rfl, rfl⟩ := hv
      rw [if_pos (show 0 ≤ (nI i).toInt ∧ (nI i).toInt < (S.length : Int) by rw [nI_toInt (by omega)]; omega)]
      refine b1_eq (tgt := 60) C jX6_number_22 (by decide) (fun h22 => ?_) (fun h22 => ?_)
      · exact absurd h22 (by decide)
      · refine sg C foX6 coX6 oX6_number_25 rfl rfl rfl ⟨vp_in_nI (by omega) (by decide), trivial⟩ ?_
        rw [nI_1 i, nI_1 k, hcl, htl]
        exact ih (k + 1) (i + 1) _ (by omega) (by omega) (by rw [show i + 1 + mm = i + (mm + 1) by omega]; exact hK)
end
section
variable {l : Launch} {D : va_G} {ca : Nat → ClassId} {ad : Nat → Nat} {N : Heap → Prop} {c0 c1 c2 c3 c4 c7 c8 : va_E} {S : List Int32} {to : Nat → Int32} {fa fp : Int32}
set_option maxRecDepth 100000 in
set_option maxHeartbeats 4000000 in
theorem kX6_number (hAD : AD ad 10) (hN : NS D N) {i j : Nat} (hS : tpR to S) (hlen : S.length ≤ 4000) (hj : j ≤ 8) (hi : i + j ≤ S.length) : Ct l yX6_number cX6_number 5 (some .long) (rK 1 0 0) D ca ad (c0 :: c1 :: c2 :: c3 :: c4 :: .inr (6, [.ref 6, .int (nI S.length)]) :: .inl (0, 4000, .inl to) :: c7 :: c8 :: .inr (5, [.ref 5, .int (nI i), .int fa, .int fp]) :: []) 10 [.ref 9, .int (nI j)] N (fun r ws2 H => (r = some (.long (nmF S j i 0)) ∧ ws2 = (c0 :: c1 :: c2 :: c3 :: c4 :: .inr (6, [.ref 6, .int (nI S.length)]) :: .inl (0, 4000, .inl to) :: c7 :: c8 :: .inr (5, [.ref 5, .int (nI (i + j)), .int fa, .int fp]) :: [])) ∧ N H) := by
  refine enter (lv := [(0, .ref 9), (1, .int (nI j))]) (by decide +kernel) (Nat.le_of_ble_eq_true rfl) rfl hAD (fun U hK => ns_write hK hN) ?_
  intro p e s m below meth c A args hA C hr hlk hnm
  refine sg0 C foX6 coX6 oX6_number_0 rfl rfl rfl ?_
  refine lp_number C hAD hN hS hlen hj ⟨(Nat.le_of_ble_eq_true rfl), (Nat.le_of_ble_eq_true rfl), (Nat.le_of_ble_eq_true rfl), (Nat.le_of_ble_eq_true rfl)⟩ j 0 i 0 (Nat.zero_add j) hi ?_
  refine sg0 C foX6 coX6 oX6_number_60 rfl rfl rfl ?_
  exact rt_l C hr hlk jX6_number_61 (fun H hH => ⟨⟨rfl, rfl⟩, hH⟩)
end
/-- what reading a node leaves: a fault, or a node and the place behind it -/
abbrev rdG (D : va_G) (N : Heap → Prop) (W9 : Nat → Int32 → Int32 → List va_E) (fa fp : Int32) (res : PR) : Option Value → List va_E → Heap → Prop := fun r ws2 H => (∃ a b i2, (res = .inl (a, b) ∧ r = some .null ∧ ws2 = W9 i2 (nI a) (nI b)) ∧ N H) ∨ ∃ T, (∃ U i1, res = .inr (U, i1) ∧ r = some (.ref (adr T + 100)) ∧ ws2 = W9 i1 fa fp ∧ strp T = U) ∧ N H ∧ nodeAt D H T
theorem Wa.or {p : Program} {l : Launch} {e : Env} {R : Room} {s : State} {m : MethodId} {args : Array Value} {below : List Frame} {meth : Method} {c : Code} {cells slots : Nat} {Q : State → Prop} {D : va_G} {ca : Nat → ClassId} {ad : Nat → Nat} {A : Nat → Prop} {nL : Nat} {N1 N2 : Heap → Prop} {S : AS} {pc : Nat} (h1 : Wa p l e R s m args below meth c cells slots Q D ca ad A nL N1 S pc) (h2 : Wa p l e R s m args below meth c cells slots Q D ca ad A nL N2 S pc) : Wa p l e R s m args below meth c cells slots Q D ca ad A nL (fun H => N1 H ∨ N2 H) S pc := fun H locs ls a1 a2 a3 a4 => a4.elim (h1 H locs ls a1 a2 a3) (h2 H locs ls a1 a2 a3)
section
variable {l : Launch} {D : va_G} {ca : Nat → ClassId} {ad : Nat → Nat} {N : Heap → Prop} {c0 c1 c2 c3 c4 c7 c8 : va_E} {S : List Int32} {to : Nat → Int32} {fa fp : Int32}
set_option maxRecDepth 100000 in
set_option maxHeartbeats 4000000 in
theorem kX6_readLeaf (hAD : AD ad 10) (hN : NS D N) {i f t : Nat} (hS : tpR to S) (hlen : S.length ≤ 4000) (hoc : ocOk S) (hww : ∀ (i : Nat) (fa fp : Int32), ((c0 :: c1 :: c2 :: c3 :: c4 :: .inr (6, [.ref 6, .int (nI S.length)]) :: .inl (0, 4000, .inl to) :: c7 :: c8 :: .inr (5, [.ref 5, .int (nI i), .int fa, .int fp]) :: []) : List va_E).all nno = true) (hi : i < S.length) (hf : f < 65536) (ht : t < 65536) : Ct l yX6_readLeaf cX6_readLeaf 4 (some (.object "PathProofs$Node")) (rK 3 (usd S (prL S i f t) i / 4) (5 * (usd S (prL S i f t) i / 4))) D ca ad (c0 :: c1 :: c2 :: c3 :: c4 :: .inr (6, [.ref 6, .int (nI S.length)]) :: .inl (0, 4000, .inl to) :: c7 :: c8 :: .inr (5, [.ref 5, .int (nI (i + 1)), .int fa, .int fp]) :: []) 10 [.ref 9, .int (nI f), .int (nI t)] N (rdG D N (fun i fa fp => (c0 :: c1 :: c2 :: c3 :: c4 :: .inr (6, [.ref 6, .int (nI S.length)]) :: .inl (0, 4000, .inl to) :: c7 :: c8 :: .inr (5, [.ref 5, .int (nI i), .int fa, .int fp]) :: [])) fa fp (prL S i f t)) := by
  refine enter (lv := [(0, .ref 9), (1, .int (nI f)), (2, .int (nI t))]) (by decide +kernel) (Nat.le_of_ble_eq_true rfl) rfl hAD (fun U hK => ns_write hK hN) ?_
  intro p e s m below meth c A args hA C hr hlk hnm
  refine sg0 C foX6 coX6 oX6_readLeaf_0 rfl rfl rfl ?_
  refine cl_v C (kX6_lacks hAD hN (i := i + 1) (j := 2) hlen (by omega) (by decide)) (rcv (ci := 5) C.2.1 rfl rfl) cd_X6_lacks in_X6 ml_X6_45 im_X6_lacks se_X6_lacks hd_X6_lacks rfl rfl ⟨(Nat.le_of_ble_eq_true rfl), (Nat.le_of_ble_eq_true rfl)⟩ ⟨by show 0 + 0 ≤ _; omega, by show 0 + 0 ≤ _; omega⟩ (Nat.le_of_ble_eq_true rfl) jX6_readLeaf_2 (fun v ws' => Wa.and (fun hv => ?_))
  rcases hv with ⟨hl2, rfl, rfl⟩ | ⟨hl2, rfl, rfl⟩
  · refine b1_eq (tgt := 10) C jX6_readLeaf_5 (by decide) (fun h5 => ?_) (fun h5 => ?_)
    · exact absurd h5 (by decide)
    · refine sg0 C foX6 coX6 oX6_readLeaf_8 rfl rfl rfl ?_
      refine Wa.wid (k1 := usd S (prL S i f t) i / 4) (k2 := 5 * (usd S (prL S i f t) i / 4)) (Nat.zero_le _) (Nat.zero_le _) ?_
      exact rt_n C hr (Or.inl ⟨_, rfl⟩) hlk jX6_readLeaf_9 (fun H hH => Or.inl ⟨1, S.length, i + 1, ⟨by unfold prL; rw [if_pos (by omega)], rfl, rfl⟩, hH⟩)
  · refine b1_eq (tgt := 10) C jX6_readLeaf_5 (by decide) (fun h5 => ?_) (fun h5 => ?_)
    · refine sg0 C foX6 coX6 oX6_readLeaf_10 rfl rfl rfl ?_
      refine cl_v C (kX6_number hAD hN (i := i + 1) (j := 2) hS hlen (by decide) hl2) (rcv (ci := 5) C.2.1 rfl rfl) cd_X6_number in_X6 ml_X6_49 im_X6_number se_X6_number hd_X6_number rfl rfl ⟨(Nat.le_of_ble_eq_true rfl), (Nat.le_of_ble_eq_true rfl)⟩ ⟨by show 0 + 0 ≤ _; omega, by show 0 + 0 ≤ _; omega⟩ (Nat.le_of_ble_eq_true rfl) jX6_readLeaf_12 (fun v ws' => Wa.and (fun hv => ?_))
      obtain ⟨rfl, rfl⟩ := hv
      have h1b := (oc_at hoc (show i + 1 < S.length by omega)).2
      have h2b := (oc_at hoc (show i + 2 < S.length by omega)).2
      have hnm : (nmF S 2 (i + 1) 0).toInt32 = nI (oc S (i + 1) * 256 + oc S (i + 2)) := nm2 hoc (by omega)
      refine sg0 C foX6 coX6 oX6_readLeaf_15 rfl rfl rfl ?_
      rw [hnm]
      refine b2_lt (tgt := 27) C jX6_readLeaf_19 (by decide) (fun h19 => ?_) (fun h19 => ?_)
      · have hq : (oc S (i + 1) * 256 + oc S (i + 2)) < f := (nI_ltI (by omega) (by omega)).mp h19
        refine sg0 C foX6 coX6 oX6_readLeaf_27 rfl rfl rfl ?_
        rw [show (2 : Int32) = nI 2 from rfl, pk_sub (show 2 ≤ i + 1 + 2 by omega), show i + 1 + 2 - 2 = i + 1 by omega]
        refine cl_v C (kX6_refuse hAD hN 5 (nI (i + 1))) (rcv (ci := 5) C.2.1 rfl rfl) cd_X6_refuse in_X6 ml_X6_35 im_X6_refuse se_X6_refuse hd_X6_refuse rfl rfl ⟨(Nat.le_of_ble_eq_true rfl), (Nat.le_of_ble_eq_true rfl)⟩ ⟨by show 0 + 0 ≤ _; omega, by show 0 + 0 ≤ _; omega⟩ (Nat.le_of_ble_eq_true rfl) jX6_readLeaf_35 (fun v ws' => Wa.and (fun hv => ?_))
        obtain ⟨rfl, rfl⟩ := hv
        refine Wa.wid (k1 := usd S (prL S i f t) i / 4) (k2 := 5 * (usd S (prL S i f t) i / 4)) (Nat.zero_le _) (Nat.zero_le _) ?_
        exact rt_n C hr (Or.inl ⟨_, rfl⟩) hlk jX6_readLeaf_38 (fun H hH => Or.inl ⟨5, i + 1, i + 3, ⟨by unfold prL; rw [if_neg (by omega), if_neg (by omega)], rfl, rfl⟩, hH⟩)
      · have hq : f ≤ (oc S (i + 1) * 256 + oc S (i + 2)) := Nat.not_lt.mp fun q => h19 ((nI_ltI (by omega) (by omega)).mpr q)
        refine sg0 C foX6 coX6 oX6_readLeaf_22 rfl rfl rfl ?_
        refine b2_le (tgt := 39) C jX6_readLeaf_24 (by decide) (fun h24 => ?_) (fun h24 => ?_)
        · have hq2 : (oc S (i + 1) * 256 + oc S (i + 2)) ≤ t := (nI_leI (by omega) (by omega)).mp h24
          refine sg0 C foX6 coX6 oX6_readLeaf_39 rfl rfl rfl ?_
          refine cl_v C (kX6_lacks hAD hN (i := i + 1 + 2) (j := 8) hlen (by omega) (by decide)) (rcv (ci := 5) C.2.1 rfl rfl) cd_X6_lacks in_X6 ml_X6_45 im_X6_lacks se_X6_lacks hd_X6_lacks rfl rfl ⟨(Nat.le_of_ble_eq_true rfl), (Nat.le_of_ble_eq_true rfl)⟩ ⟨by show 0 + 0 ≤ _; omega, by show 0 + 0 ≤ _; omega⟩ (Nat.le_of_ble_eq_true rfl) jX6_readLeaf_42 (fun v ws' => Wa.and (fun hv => ?_))
          rcases hv with ⟨hl42, rfl, rfl⟩ | ⟨hl42, rfl, rfl⟩
          · refine b1_eq (tgt := 52) C jX6_readLeaf_45 (by decide) (fun h45 => ?_) (fun h45 => ?_)
            · exact absurd h45 (by decide)
            · refine sg0 C foX6 coX6 oX6_readLeaf_48 rfl rfl rfl ?_
              refine Wa.wid (k1 := usd S (prL S i f t) i / 4) (k2 := 5 * (usd S (prL S i f t) i / 4)) (Nat.zero_le _) (Nat.zero_le _) ?_
              exact rt_n C hr (Or.inl ⟨_, rfl⟩) hlk jX6_readLeaf_66 (fun H hH => Or.inl ⟨1, S.length, i + 3, ⟨by unfold prL; rw [if_neg (by omega), if_pos (by omega), if_pos (by omega)], rfl, rfl⟩, hH⟩)
          · refine b1_eq (tgt := 52) C jX6_readLeaf_45 (by decide) (fun h45 => ?_) (fun h45 => ?_)
            · have hres : prL S i f t = .inr (tL 0 (oc S (i + 1) * 256 + oc S (i + 2)) (nmF S 8 (i + 3) 0), i + 11) := by unfold prL; rw [if_neg (by omega), if_pos (by omega), if_neg (by omega)]
              have hu : usd S (prL S i f t) i / 4 = 2 := by rw [hres]; show (i + 11 - i) / 4 = 2; omega
              refine nw (ci := 3) (fs := [.long 0, .int 0, .long 0]) C hN rfl (by decide) kl_X6_67 is_X3 in_X3 tyX3 tyX3_ok dfX3 ⟨by rw [hu]; decide, by rw [hu]; decide⟩ jX6_readLeaf_52 (fun H1 q1 hN_q1 hq1 => ?_)
              have C := C.to (N2 := BN D H1 q1 3 [.long 0, .int 0, .long 0]) BN.ns
              refine sg0 C foX6 coX6 oX6_readLeaf_55 rfl rfl rfl ?_
              refine cl_v C (kX6_number hAD BN.ns (i := i + 1 + 2) (j := 8) hS hlen (by decide) hl42) (rcv (ci := 5) C.2.1 rfl rfl) cd_X6_number in_X6 ml_X6_49 im_X6_number se_X6_number hd_X6_number rfl rfl ⟨(Nat.le_of_ble_eq_true rfl), (Nat.le_of_ble_eq_true rfl)⟩ ⟨by show 0 + 1 + 0 ≤ usd S (prL S i f t) i / 4; omega, by show 0 + 3 + 0 ≤ 5 * (usd S (prL S i f t) i / 4); omega⟩ (Nat.le_of_ble_eq_true rfl) jX6_readLeaf_60 (fun v ws' => Wa.and (fun hv => ?_))
              obtain ⟨rfl, rfl⟩ := hv
              refine cl_i C (kX3_init hAD rfl (hww _ _ _) (oc S (i + 1) * 256 + oc S (i + 2)) (nmF S 8 (i + 3) 0)) (C.2.2.2.2.2 _ hq1) cd_X3_init in_X3 ml_X6_69 im_X3_init rfl hd_X3_init rfl rfl ⟨(Nat.le_of_ble_eq_true rfl), (Nat.le_of_ble_eq_true rfl)⟩ ⟨by show 0 + 1 + 0 + 0 ≤ usd S (prL S i f t) i / 4; omega, by show 0 + 3 + 0 + 0 ≤ 5 * (usd S (prL S i f t) i / 4); omega⟩ (Nat.le_of_ble_eq_true rfl) jX6_readLeaf_63 (fun v ws' => Wa.and (fun hv => ?_))
              obtain ⟨rfl, rfl⟩ := hv
              have C := C.to (N2 := BN D H1 q1 3 [.long (leafF (oc S (i + 1) * 256 + oc S (i + 2)) (nmF S 8 (i + 3) 0)), .int (nI (oc S (i + 1) * 256 + oc S (i + 2))), .long (nmF S 8 (i + 3) 0)]) BN.ns
              refine Wa.wid (k1 := usd S (prL S i f t) i / 4) (k2 := 5 * (usd S (prL S i f t) i / 4)) (by rw [hu]; decide) (by rw [hu]; decide) ?_
              exact rt_a C hr (Or.inl ⟨_, rfl⟩) hlk jX6_readLeaf_66 (fun H hH => Or.inr ⟨tL q1 (oc S (i + 1) * 256 + oc S (i + 2)) (nmF S 8 (i + 3) 0), ⟨_, _, hres, rfl, rfl, rfl⟩, hN _ _ hN_q1 hH.2.1, hH.2.2⟩)
            · exact absurd rfl h45
        · have hq2 : t < (oc S (i + 1) * 256 + oc S (i + 2)) := Nat.not_le.mp fun q => h24 ((nI_leI (by omega) (by omega)).mpr q)
          refine sg0 C foX6 coX6 oX6_readLeaf_27 rfl rfl rfl ?_
          rw [show (2 : Int32) = nI 2 from rfl, pk_sub (show 2 ≤ i + 1 + 2 by omega), show i + 1 + 2 - 2 = i + 1 by omega]
          refine cl_v C (kX6_refuse hAD hN 5 (nI (i + 1))) (rcv (ci := 5) C.2.1 rfl rfl) cd_X6_refuse in_X6 ml_X6_35 im_X6_refuse se_X6_refuse hd_X6_refuse rfl rfl ⟨(Nat.le_of_ble_eq_true rfl), (Nat.le_of_ble_eq_true rfl)⟩ ⟨by show 0 + 0 ≤ _; omega, by show 0 + 0 ≤ _; omega⟩ (Nat.le_of_ble_eq_true rfl) jX6_readLeaf_35 (fun v ws' => Wa.and (fun hv => ?_))
          obtain ⟨rfl, rfl⟩ := hv
          refine Wa.wid (k1 := usd S (prL S i f t) i / 4) (k2 := 5 * (usd S (prL S i f t) i / 4)) (Nat.zero_le _) (Nat.zero_le _) ?_
          exact rt_n C hr (Or.inl ⟨_, rfl⟩) hlk jX6_readLeaf_38 (fun H hH => Or.inl ⟨5, i + 1, i + 3, ⟨by unfold prL; rw [if_neg (by omega), if_neg (by omega)], rfl, rfl⟩, hH⟩)
    · exact absurd rfl h5
end
