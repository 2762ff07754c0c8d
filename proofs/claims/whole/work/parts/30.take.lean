/-! a reading of the whole tape; take -/
section
variable {l : Launch} {D : va_G} {ca : Nat → ClassId} {ad : Nat → Nat} {N : Heap → Prop} {c0 c1 c2 c3 c4 c7 c8 : va_E} {S : List Int32} {to : Nat → Int32} {fa fp : Int32}
set_option maxRecDepth 100000 in
set_option maxHeartbeats 4000000 in
theorem kX6_init (hAD : AD ad 10) (hN : NS D N)  : CtN l yX6_init cX6_init 2 (rK 1 0 0) D ca ad (c0 :: c1 :: c2 :: c3 :: c4 :: .inr (6, [.ref 6, .int (nI S.length)]) :: .inl (0, 4000, .inl to) :: c7 :: c8 :: .inr (5, [.null, .int 0, .int 0, .int 0]) :: []) 10 [.ref 9, .ref 5] N (fun ws2 H => ws2 = (c0 :: c1 :: c2 :: c3 :: c4 :: .inr (6, [.ref 6, .int (nI S.length)]) :: .inl (0, 4000, .inl to) :: c7 :: c8 :: .inr (5, [.ref 5, .int (nI 0), .int 0, .int (-2)]) :: []) ∧ N H) := by
  refine enterN (lv := [(0, .ref 9), (1, .ref 5)]) (by decide +kernel) (Nat.le_of_ble_eq_true rfl) rfl hAD (fun U hK => ns_write hK hN) ?_
  intro p e s m below meth c A args hA C hr hlk hnm
  have hg0 : Ag 10 ad ad := Ag.rf
  have hf0 : ∀ k, 10 ≤ k → k < 10 → s.heap.size ≤ ad k := fr_0
  refine sg0 C foX6 coX6 oX6_init_0 rfl rfl rfl ?_
  refine oi C ml_X6_3 (Nat.le_of_ble_eq_true rfl) (Nat.le_of_ble_eq_true rfl) jX6_init_1 ?_
  refine sg0 C foX6 coX6 oX6_init_4 rfl rfl rfl ?_
  refine pF (t := 9) (ci := 5) (k := 0) (ty := .object "PathProofs$Tape") C rfl rfl (by decide) rfl (by decide) fl_X6_21 rfl hnm rfl (by decide +kernel) rfl rfl (by simp) rfl jX6_init_22 ?_
  exact rt_N C hg0 hf0 rfl hr hlk jX6_init_25 (fun H hH => ⟨rfl, hH⟩)
/-- a whole tape, read: a fault, or what it shows -/
def tkR (S : List Int32) (d : Int64) : (Nat × Nat) ⊕ Term := match prs S 16 0 0 65535 true with
  | .inl z => .inl z
  | .inr (U, i) => if i < S.length then .inl (6, i) else if dig U = d then .inr U else .inl (7, 0)
theorem usd_le {S : List Int32} {r : PR} (h : ∀ U i1, r = .inr (U, i1) → i1 ≤ S.length) : usd S r 0 ≤ S.length := by
  cases r with
  | inl z => exact Nat.sub_le _ _
  | inr z =>
    have := h z.1 z.2 rfl
    simp only [usd]; omega
set_option maxRecDepth 100000 in
set_option maxHeartbeats 4000000 in
theorem kX6_wholeWith (hAD : AD ad 10) (hN : NS D N) (hS : tpR to S) (hlen : S.length ≤ 4000) (hoc : ocOk S) (hww : ∀ (i : Nat) (fa fp : Int32), ((c0 :: c1 :: c2 :: c3 :: c4 :: .inr (6, [.ref 6, .int (nI S.length)]) :: .inl (0, 4000, .inl to) :: c7 :: c8 :: .inr (5, [.ref 5, .int (nI i), .int fa, .int fp]) :: []) : List va_E).all nno = true) (d : Int64) : Ct l yX6_wholeWith cX6_wholeWith 4 (some (.object "PathProofs$Node")) (rK 39 1002 5010) D ca ad (c0 :: c1 :: c2 :: c3 :: c4 :: .inr (6, [.ref 6, .int (nI S.length)]) :: .inl (0, 4000, .inl to) :: c7 :: c8 :: .inr (5, [.ref 5, .int (nI 0), .int fa, .int fp]) :: []) 10 [.ref 9, .long d] N (fun r ws2 H => (∃ a b i2, (tkR S d = .inl (a, b) ∧ r = some .null ∧ ws2 = (c0 :: c1 :: c2 :: c3 :: c4 :: .inr (6, [.ref 6, .int (nI S.length)]) :: .inl (0, 4000, .inl to) :: c7 :: c8 :: .inr (5, [.ref 5, .int (nI i2), .int (nI a), .int (nI b)]) :: [])) ∧ N H) ∨ ∃ T, (∃ U i1, tkR S d = .inr U ∧ r = some (.ref (adr T + 100)) ∧ ws2 = (c0 :: c1 :: c2 :: c3 :: c4 :: .inr (6, [.ref 6, .int (nI S.length)]) :: .inl (0, 4000, .inl to) :: c7 :: c8 :: .inr (5, [.ref 5, .int (nI i1), .int fa, .int fp]) :: []) ∧ strp T = U) ∧ N H ∧ nodeAt D H T) := by
  have hu := usd_le (S := S) (r := (prs S 16 0 0 65535 true)) (fun U i1 e9 => (prs_r _ _ _ _ _ _ _ e9).2)
  have hu1 : (if true = true then 1 else 0) = 1 := rfl
  refine enter (lv := [(0, .ref 9), (1, .long d)]) (by decide +kernel) (Nat.le_of_ble_eq_true rfl) rfl hAD (fun U hK => ns_write hK hN) ?_
  intro p e s m below meth c A args hA C hr hlk hnm
  refine sg0 C foX6 coX6 oX6_wholeWith_0 rfl rfl rfl ?_
  refine cl_v C (kX6_readNode hAD hS hlen hoc hww 16 0 true N 0 0 65535 (by decide) ⟨fun _ => rfl, fun _ => rfl⟩ hN (Nat.zero_le _) (by decide) (by decide)) (rcv (ci := 5) C.2.1 rfl rfl) cd_X6_readNode in_X6 ml_X6_26 im_X6_readNode se_X6_readNode hd_X6_readNode rfl rfl ⟨(Nat.le_of_ble_eq_true rfl), (Nat.le_of_ble_eq_true rfl)⟩ ⟨by show 0 + (usd S (prs S 16 0 0 65535 true) 0 / 4 + (if true = true then 1 else 0)) ≤ 1002; omega, by show 0 + 5 * (usd S (prs S 16 0 0 65535 true) 0 / 4 + (if true = true then 1 else 0)) ≤ 5010; omega⟩ (Nat.le_of_ble_eq_true rfl) jX6_wholeWith_5 (fun v ws' => Wa.or (Wa.ex (fun ca1 => Wa.ex (fun cb1 => Wa.ex (fun ci1 => Wa.and (fun hv => ?_))))) (Wa.ex (fun T1 => Wa.and (fun hv => ?_))))
  skip
  · obtain ⟨e1, rfl, rfl⟩ := hv
    refine sg0 C foX6 coX6 oX6_wholeWith_8 rfl rfl rfl ?_
    refine bnn_n C jX6_wholeWith_10 ?_
    refine sg0 C foX6 coX6 oX6_wholeWith_13 rfl rfl rfl ?_
    refine Wa.wid (k1 := 1002) (k2 := 5010) (by show 0 + (usd S (prs S 16 0 0 65535 true) 0 / 4 + (if true = true then 1 else 0)) ≤ 1002; omega) (by show 0 + 5 * (usd S (prs S 16 0 0 65535 true) 0 / 4 + (if true = true then 1 else 0)) ≤ 5010; omega) ?_
    exact rt_n C hr (Or.inl ⟨_, rfl⟩) hlk jX6_wholeWith_14 (fun H hH => Or.inl ⟨ca1, cb1, ci1, ⟨by unfold tkR; rw [e1], rfl, rfl⟩, hH⟩)
  · obtain ⟨U1, i1, e1, rfl, rfl, hs1⟩ := hv
    have hN1 := hN.and (nodeAt.ns (D := D) T1)
    have C := C.to (N2 := fun H => N H ∧ nodeAt D H T1) hN1
    have hi1 := prs_r _ _ _ _ _ _ _ e1
    refine Wa.pl (Z := isT T1) (fun H hH => nodeAt.T T1 hH.2) (fun h1T => ?_)
    have hd1 : dig U1 = dig T1 := by rw [← hs1]; exact strp_dig T1 h1T
    refine sg0 C foX6 coX6 oX6_wholeWith_8 rfl rfl rfl ?_
    refine bnn_r (tgt := 15) C jX6_wholeWith_10 (by decide) ?_
    refine sg0 C foX6 coX6 oX6_wholeWith_15 rfl rfl rfl ?_
    refine b2_ge (tgt := 40) C jX6_wholeWith_26 (by decide) (fun h26 => ?_) (fun h26 => ?_)
    · have hq : ¬ i1 < S.length := fun q9 => absurd h26 (nI_ge q9 (by omega))
      refine sg0 C foX6 coX6 oX6_wholeWith_40 rfl rfl rfl ?_
      refine ng_dig C (T := T1) (fun H hH => hH.2) fl_X6_39 jX6_wholeWith_41 ?_
      refine sg0 C foX6 coX6 oX6_wholeWith_44 rfl rfl rfl ?_
      refine b1_ne (tgt := 53) C jX6_wholeWith_46 (by decide) (fun h46 => ?_) (fun h46 => ?_)
      · have hd2 : ¬ dig U1 = d := fun e9 => h46 ((lg_cmp_eq _ _).mpr (hd1.symm.trans e9))
        refine sg0 C foX6 coX6 oX6_wholeWith_53 rfl rfl rfl ?_
        refine cl_v C (kX6_refuse hAD hN1 7 (nI 0)) (rcv (ci := 5) C.2.1 rfl rfl) cd_X6_refuse in_X6 ml_X6_35 im_X6_refuse se_X6_refuse hd_X6_refuse rfl rfl ⟨(Nat.le_of_ble_eq_true rfl), (Nat.le_of_ble_eq_true rfl)⟩ ⟨by show 0 + (usd S (prs S 16 0 0 65535 true) 0 / 4 + (if true = true then 1 else 0)) + 0 ≤ 1002; omega, by show 0 + 5 * (usd S (prs S 16 0 0 65535 true) 0 / 4 + (if true = true then 1 else 0)) + 0 ≤ 5010; omega⟩ (Nat.le_of_ble_eq_true rfl) jX6_wholeWith_57 (fun v ws' => Wa.and (fun hv => ?_))
        obtain ⟨rfl, rfl⟩ := hv
        refine Wa.wid (k1 := 1002) (k2 := 5010) (by show 0 + (usd S (prs S 16 0 0 65535 true) 0 / 4 + (if true = true then 1 else 0)) + 0 ≤ 1002; omega) (by show 0 + 5 * (usd S (prs S 16 0 0 65535 true) 0 / 4 + (if true = true then 1 else 0)) + 0 ≤ 5010; omega) ?_
        exact rt_n C hr (Or.inl ⟨_, rfl⟩) hlk jX6_wholeWith_60 (fun H hH => Or.inl ⟨7, 0, i1, ⟨by unfold tkR; rw [e1]; simp only []; rw [if_neg hq, if_neg hd2], rfl, rfl⟩, hH.1⟩)
      · have hd2 : dig U1 = d := hd1.trans ((lg_cmp_eq _ _).mp h46)
        refine sg0 C foX6 coX6 oX6_wholeWith_49 rfl rfl rfl ?_
        refine Wa.wid (k1 := 1002) (k2 := 5010) (by show 0 + (usd S (prs S 16 0 0 65535 true) 0 / 4 + (if true = true then 1 else 0)) ≤ 1002; omega) (by show 0 + 5 * (usd S (prs S 16 0 0 65535 true) 0 / 4 + (if true = true then 1 else 0)) ≤ 5010; omega) ?_
        exact rt_a C hr (Or.inl ⟨_, rfl⟩) hlk jX6_wholeWith_60 (fun H hH => Or.inr ⟨T1, ⟨U1, i1, by unfold tkR; rw [e1]; simp only []; rw [if_neg hq, if_pos hd2], rfl, rfl, hs1⟩, hH.1, hH.2⟩)
    · have hq : i1 < S.length := Nat.not_le.mp fun q9 => h26 (nI_le q9 (by omega))
      refine sg0 C foX6 coX6 oX6_wholeWith_29 rfl rfl rfl ?_
      refine cl_v C (kX6_refuse hAD hN1 6 (nI i1)) (rcv (ci := 5) C.2.1 rfl rfl) cd_X6_refuse in_X6 ml_X6_35 im_X6_refuse se_X6_refuse hd_X6_refuse rfl rfl ⟨(Nat.le_of_ble_eq_true rfl), (Nat.le_of_ble_eq_true rfl)⟩ ⟨by show 0 + (usd S (prs S 16 0 0 65535 true) 0 / 4 + (if true = true then 1 else 0)) + 0 ≤ 1002; omega, by show 0 + 5 * (usd S (prs S 16 0 0 65535 true) 0 / 4 + (if true = true then 1 else 0)) + 0 ≤ 5010; omega⟩ (Nat.le_of_ble_eq_true rfl) jX6_wholeWith_36 (fun v ws' => Wa.and (fun hv => ?_))
      obtain ⟨rfl, rfl⟩ := hv
      refine Wa.wid (k1 := 1002) (k2 := 5010) (by show 0 + (usd S (prs S 16 0 0 65535 true) 0 / 4 + (if true = true then 1 else 0)) + 0 ≤ 1002; omega) (by show 0 + 5 * (usd S (prs S 16 0 0 65535 true) 0 / 4 + (if true = true then 1 else 0)) + 0 ≤ 5010; omega) ?_
      exact rt_n C hr (Or.inl ⟨_, rfl⟩) hlk jX6_wholeWith_39 (fun H hH => Or.inl ⟨6, i1, i1, ⟨by unfold tkR; rw [e1]; simp only []; rw [if_pos hq], rfl, rfl⟩, hH.1⟩)
end
theorem tk_W {S : List Int32} {d : Int64} {U : Term} (h : tkR S d = .inr U) : okW U := by
  unfold tkR at h
  cases e : prs S 16 0 0 65535 true with
  | inl z => rw [e] at h; cases h
  | inr z =>
    obtain ⟨V, i⟩ := z
    rw [e] at h
    simp only [] at h
    split at h
    · cases h
    · split at h
      · cases h; exact prs_W e
      · cases h
section
variable {l : Launch} {D : va_G} {ca : Nat → ClassId} {ad : Nat → Nat} {N : Heap → Prop} {qt nv : Nat} {kf : Nat → Option Nat} {fv : Value} {fp : Int32} {fd : Int64} {ra rb : Nat → Int32} {wn : Nat} {to : Nat → Int32} {S : List Int32} {so : Nat → Int32} {sl : Nat}
set_option maxRecDepth 100000 in
set_option maxHeartbeats 4000000 in
theorem kX8_take (hAD : AD ad 9) (hN : NS D N) {vo : Option Term} (hS : tpR to S) (hlen : S.length ≤ 4000) (hoc : ocOk S) (d : Int64) : Ct l yX8_take cX8_take 5 (some .int) (rK 40 1003 5014) D ca ad (xW qt nv kf (vF vo) fp fd ra rb wn to S.length so sl) 9 [.ref 0, .long d] N (fun r ws2 H => (∃ a b, (tkR S d = .inl (a, b) ∧ r = some (.int (-10 - nI a)) ∧ ws2 = (xW qt nv kf (vF vo) (nI b) fd ra rb wn to S.length so sl)) ∧ N H) ∨ ∃ T, (∃ U, tkR S d = .inr U ∧ r = some (.int (nI (nodT U))) ∧ ws2 = (xW qt nv kf (vF (some T)) (-2) fd ra rb wn to S.length so sl) ∧ strp T = U ∧ okW U) ∧ N H ∧ nodeAt D H T) := by
  cases vo with
  | none =>
    refine enter (lv := [(0, .ref 0), (1, .long d)]) (by decide +kernel) (Nat.le_of_ble_eq_true rfl) rfl hAD (fun U hK => ns_write hK hN) ?_
    intro p e s m below meth c A args hA C hr hlk hnm
    refine gN (ci := 5) (fs := [.null, .int 0, .int 0, .int 0]) C hN (by decide) rfl rfl kl_X8_117 is_X6 in_X6 tyX6 tyX6_ok dfX6 (fun _ => rfl) ⟨(Nat.le_of_ble_eq_true rfl), (Nat.le_of_ble_eq_true rfl)⟩ rfl rfl rfl jX8_take_0 (fun ad2 hg2 hf2 hAD2 C => ?_)
    refine sg0 C foX8 coX8 oX8_take_3 rfl rfl rfl ?_
    refine cl_iN C (kX6_init (S := S) hAD2 hN) cd_X6_init in_X6 ml_X8_119 im_X6_init rfl hd_X6_init rfl rfl ⟨(Nat.le_of_ble_eq_true rfl), (Nat.le_of_ble_eq_true rfl)⟩ ⟨(Nat.le_of_ble_eq_true rfl), (Nat.le_of_ble_eq_true rfl)⟩ (Nat.le_of_ble_eq_true rfl) rfl rfl jX8_take_8 (fun ad3 ws' hg3 hAD3 hf3 => Wa.and (fun hv => ?_))
    subst hv
    have hAD3 : AD ad3 10 := hAD3
    have C := C.up (N2 := N) hN hg3 hAD3 (n' := 10) hf3
    have hg := hg2.tr (by decide) hg3
    refine sg0 C foX8 coX8 oX8_take_11 rfl rfl rfl ?_
    refine cl_v C (kX6_wholeWith hAD3 hN hS hlen hoc (fun i fa fp => rfl) d) (rcv (ci := 5) C.2.1 rfl rfl) cd_X6_wholeWith in_X6 ml_X8_122 im_X6_wholeWith se_X6_wholeWith hd_X6_wholeWith rfl rfl ⟨(Nat.le_of_ble_eq_true rfl), (Nat.le_of_ble_eq_true rfl)⟩ ⟨(Nat.le_of_ble_eq_true rfl), (Nat.le_of_ble_eq_true rfl)⟩ (Nat.le_of_ble_eq_true rfl) jX8_take_14 (fun v ws' => Wa.or (Wa.ex (fun ca1 => Wa.ex (fun cb1 => Wa.ex (fun ci1 => Wa.and (fun hv => ?_))))) (Wa.ex (fun T1 => Wa.and (fun hv => ?_))))
    skip
    · obtain ⟨e1, rfl, rfl⟩ := hv
      refine sg0 C foX8 coX8 oX8_take_17 rfl rfl rfl ?_
      refine bnn_n C jX8_take_29 ?_
      refine sg0 C foX8 coX8 oX8_take_32 rfl rfl rfl ?_
      refine Wa.wid (k1 := 1003) (k2 := 5014) (Nat.le_of_ble_eq_true rfl) (Nat.le_of_ble_eq_true rfl) ?_
      exact rt_iX (ws := (xW qt nv kf .null (nI cb1) fd ra rb wn to S.length so sl)) (ex := [.inr (5, [.ref 5, .int (nI ci1), .int (nI ca1), .int (nI cb1)])]) C hg rfl rfl hr hlk jX8_take_39 (fun H hH => Or.inl ⟨ca1, cb1, ⟨e1, rfl, rfl⟩, hH⟩)
    · obtain ⟨U1, i1, e1, rfl, rfl, hs1⟩ := hv
      have hN1 := hN.and (nodeAt.ns (D := D) T1)
      have C := C.to (N2 := fun H => N H ∧ nodeAt D H T1) hN1
      refine Wa.pl (Z := isT T1) (fun H hH => nodeAt.T T1 hH.2) (fun h1T => ?_)
      have hok := tk_W e1
      have hfit : fitT T1 16 := okW_fit h1T ((okW_strp h1T).mp (by rw [hs1]; exact hok))
      have hnod : nodT U1 = nodT T1 := by rw [← hs1]; exact strp_nod T1 h1T
      refine sg0 C foX8 coX8 oX8_take_17 rfl rfl rfl ?_
      refine bnn_r (tgt := 40) C jX8_take_29 (by decide) ?_
      refine sg0 C foX8 coX8 oX8_take_40 rfl rfl rfl ?_
      refine cl_s C (kX8_nodesOf hAD3 rfl T1 h1T 16 0 _ hfit (by decide) hN1 (fun H hH => hH.2)) cd_X8_nodesOf in_X8 ml_X8_130 sm_X8_nodesOf hd_X8_nodesOf rfl rfl ⟨(Nat.le_of_ble_eq_true rfl), (Nat.le_of_ble_eq_true rfl)⟩ ⟨(Nat.le_of_ble_eq_true rfl), (Nat.le_of_ble_eq_true rfl)⟩ (Nat.le_of_ble_eq_true rfl) jX8_take_49 (fun v ws' => Wa.and (fun hv => ?_))
      obtain ⟨rfl, rfl⟩ := hv
      refine Wa.wid (k1 := 1003) (k2 := 5014) (Nat.le_of_ble_eq_true rfl) (Nat.le_of_ble_eq_true rfl) ?_
      exact rt_iX (ws := (xW qt nv kf (.ref (adr T1 + 100)) (-2) fd ra rb wn to S.length so sl)) (ex := [.inr (5, [.ref 5, .int (nI i1), .int 0, .int (-2)])]) C hg rfl rfl hr hlk jX8_take_52 (fun H hH => Or.inr ⟨T1, ⟨U1, e1, by rw [hnod], rfl, hs1, hok⟩, hH.1, hH.2⟩)
  | some V =>
    refine enter (lv := [(0, .ref 0), (1, .long d)]) (by decide +kernel) (Nat.le_of_ble_eq_true rfl) rfl hAD (fun U hK => ns_write hK hN) ?_
    intro p e s m below meth c A args hA C hr hlk hnm
    refine gN (ci := 5) (fs := [.null, .int 0, .int 0, .int 0]) C hN (by decide) rfl rfl kl_X8_117 is_X6 in_X6 tyX6 tyX6_ok dfX6 (fun _ => rfl) ⟨(Nat.le_of_ble_eq_true rfl), (Nat.le_of_ble_eq_true rfl)⟩ rfl rfl rfl jX8_take_0 (fun ad2 hg2 hf2 hAD2 C => ?_)
    refine sg0 C foX8 coX8 oX8_take_3 rfl rfl rfl ?_
    refine cl_iN C (kX6_init (S := S) hAD2 hN) cd_X6_init in_X6 ml_X8_119 im_X6_init rfl hd_X6_init rfl rfl ⟨(Nat.le_of_ble_eq_true rfl), (Nat.le_of_ble_eq_true rfl)⟩ ⟨(Nat.le_of_ble_eq_true rfl), (Nat.le_of_ble_eq_true rfl)⟩ (Nat.le_of_ble_eq_true rfl) rfl rfl jX8_take_8 (fun ad3 ws' hg3 hAD3 hf3 => Wa.and (fun hv => ?_))
    subst hv
    have hAD3 : AD ad3 10 := hAD3
    have C := C.up (N2 := N) hN hg3 hAD3 (n' := 10) hf3
    have hg := hg2.tr (by decide) hg3
    refine sg0 C foX8 coX8 oX8_take_11 rfl rfl rfl ?_
    refine cl_v C (kX6_wholeWith hAD3 hN hS hlen hoc (fun i fa fp => rfl) d) (rcv (ci := 5) C.2.1 rfl rfl) cd_X6_wholeWith in_X6 ml_X8_122 im_X6_wholeWith se_X6_wholeWith hd_X6_wholeWith rfl rfl ⟨(Nat.le_of_ble_eq_true rfl), (Nat.le_of_ble_eq_true rfl)⟩ ⟨(Nat.le_of_ble_eq_true rfl), (Nat.le_of_ble_eq_true rfl)⟩ (Nat.le_of_ble_eq_true rfl) jX8_take_14 (fun v ws' => Wa.or (Wa.ex (fun ca1 => Wa.ex (fun cb1 => Wa.ex (fun ci1 => Wa.and (fun hv => ?_))))) (Wa.ex (fun T1 => Wa.and (fun hv => ?_))))
    skip
    · obtain ⟨e1, rfl, rfl⟩ := hv
      refine sg0 C foX8 coX8 oX8_take_17 rfl rfl rfl ?_
      refine bnn_n C jX8_take_29 ?_
      refine sg0 C foX8 coX8 oX8_take_32 rfl rfl rfl ?_
      refine Wa.wid (k1 := 1003) (k2 := 5014) (Nat.le_of_ble_eq_true rfl) (Nat.le_of_ble_eq_true rfl) ?_
      exact rt_iX (ws := (xW qt nv kf (.ref (adr V + 100)) (nI cb1) fd ra rb wn to S.length so sl)) (ex := [.inr (5, [.ref 5, .int (nI ci1), .int (nI ca1), .int (nI cb1)])]) C hg rfl rfl hr hlk jX8_take_39 (fun H hH => Or.inl ⟨ca1, cb1, ⟨e1, rfl, rfl⟩, hH⟩)
    · obtain ⟨U1, i1, e1, rfl, rfl, hs1⟩ := hv
      have hN1 := hN.and (nodeAt.ns (D := D) T1)
      have C := C.to (N2 := fun H => N H ∧ nodeAt D H T1) hN1
      refine Wa.pl (Z := isT T1) (fun H hH => nodeAt.T T1 hH.2) (fun h1T => ?_)
      have hok := tk_W e1
      have hfit : fitT T1 16 := okW_fit h1T ((okW_strp h1T).mp (by rw [hs1]; exact hok))
      have hnod : nodT U1 = nodT T1 := by rw [← hs1]; exact strp_nod T1 h1T
      refine sg0 C foX8 coX8 oX8_take_17 rfl rfl rfl ?_
      refine bnn_r (tgt := 40) C jX8_take_29 (by decide) ?_
      refine sg0 C foX8 coX8 oX8_take_40 rfl rfl rfl ?_
      refine cl_s C (kX8_nodesOf hAD3 rfl T1 h1T 16 0 _ hfit (by decide) hN1 (fun H hH => hH.2)) cd_X8_nodesOf in_X8 ml_X8_130 sm_X8_nodesOf hd_X8_nodesOf rfl rfl ⟨(Nat.le_of_ble_eq_true rfl), (Nat.le_of_ble_eq_true rfl)⟩ ⟨(Nat.le_of_ble_eq_true rfl), (Nat.le_of_ble_eq_true rfl)⟩ (Nat.le_of_ble_eq_true rfl) jX8_take_49 (fun v ws' => Wa.and (fun hv => ?_))
      obtain ⟨rfl, rfl⟩ := hv
      refine Wa.wid (k1 := 1003) (k2 := 5014) (Nat.le_of_ble_eq_true rfl) (Nat.le_of_ble_eq_true rfl) ?_
      exact rt_iX (ws := (xW qt nv kf (.ref (adr T1 + 100)) (-2) fd ra rb wn to S.length so sl)) (ex := [.inr (5, [.ref 5, .int (nI i1), .int 0, .int (-2)])]) C hg rfl rfl hr hlk jX8_take_52 (fun H hH => Or.inr ⟨T1, ⟨U1, e1, by rw [hnod], rfl, hs1, hok⟩, hH.1, hH.2⟩)
end
