/-! public methods of the class: put, remove, write, erase -/
theorem wr_fit {T T1 : Term} {P q1 : Nat} {v : Int64} (hT : isT T) (h1 : isT T1) (hK : strp T1 = strp (wrtT T P (tL q1 P v))) (hw : fitT (wrtT (strp T) P (tL 0 P v)) 16) : fitT T1 16 ∧ strp T1 = strp (wrtT (strp T) P (tL 0 P v)) := by
  have e1 : strp T1 = strp (wrtT (strp T) P (tL 0 P v)) := by rw [hK, wrt_strp T hT P (tL q1 P v) trivial]; rfl
  refine ⟨(strp_fit T1 h1 16).mp ?_, e1⟩
  rw [e1]
  exact (strp_fit _ (fit_T _ _ hw) 16).mpr hw
theorem wr_cnt {T1 U : Term} (h1 : isT T1) (hU : isT U) (e1 : strp T1 = strp U) (a b : Nat) : cntT T1 a b = cntT U a b := by rw [← strp_cnt T1 h1, e1, strp_cnt U hU]
theorem wr_nod {T1 U : Term} (h1 : isT T1) (hU : isT U) (e1 : strp T1 = strp U) : nodT T1 = nodT U := by rw [← strp_nod T1 h1, e1, strp_nod U hU]
theorem cnt_le (T : Term) (hT : isT T) : ∀ a b k : Nat, fitT T k → cntT T a b ≤ 2 ^ k := by
  refine tr_ind (P := fun T => ∀ a b k : Nat, fitT T k → cntT T a b ≤ 2 ^ k) ?_ ?_ ?_ ?_ T hT
  · exact fun q a b k _ => Nat.zero_le _
  · exact fun q d a b k _ => Nat.zero_le _
  · intro q p v a b k _
    have := Nat.two_pow_pos k
    simp only [cntT]
    split <;> omega
  · intro q B S x y _ _ i1 i2 a b k h
    obtain ⟨⟨hB, hkB, hS, hstm⟩, hfx, hfy⟩ := fitF h
    have h1 := i1 a b _ hfx
    have h2 := i2 a b _ hfy
    have h3 : 2 ^ (15 - B) * 2 ≤ 2 ^ k := by rw [← Nat.pow_succ]; exact Nat.pow_le_pow_right (by decide) (by omega)
    simp only [cntT]
    omega
theorem nod_le (T : Term) (hT : isT T) : ∀ k : Nat, fitT T k → nodT T + 1 ≤ 2 ^ (k + 1) := by
  have p1 : ∀ k : Nat, 2 ≤ 2 ^ (k + 1) := fun k => by
    have := Nat.two_pow_pos k
    rw [Nat.pow_succ]; omega
  refine tr_ind (P := fun T => ∀ k : Nat, fitT T k → nodT T + 1 ≤ 2 ^ (k + 1)) ?_ ?_ ?_ ?_ T hT
  · exact fun q k _ => p1 k
  · exact fun q d k _ => p1 k
  · exact fun q p v k _ => p1 k
  · intro q B S x y _ _ i1 i2 k h
    obtain ⟨⟨hB, hkB, hS, hstm⟩, hfx, hfy⟩ := fitF h
    have h1 := i1 _ hfx
    have h2 := i2 _ hfy
    have h3 : 2 ^ (15 - B + 1) * 2 ≤ 2 ^ (k + 1) := by rw [← Nat.pow_succ]; exact Nat.pow_le_pow_right (by decide) (by omega)
    simp only [nodT]
    omega
theorem del_fit2 {T T1 : Term} {P : Nat} (hT : isT T) (hK : strp T1 = strp (delT T P)) : strp T1 = strp (delT (strp T) P) := by rw [hK, del_strp T hT P]
section
variable {l : Launch} {D : va_G} {ca : Nat → ClassId} {ad : Nat → Nat} {N : Heap → Prop} {qt nv : Nat} {kf : Nat → Option Nat} {fv : Value} {fp : Int32} {fd : Int64} {ra rb : Nat → Int32} {wn : Nat} {to : Nat → Int32} {tl : Nat} {so : Nat → Int32} {sl : Nat}
theorem Wa.pl {p : Program} {e : Env} {R : Room} {s : State} {m : MethodId} {args : Array Value} {below : List Frame} {meth : Method} {c : Code} {cells slots : Nat} {Q : State → Prop} {A : Nat → Prop} {nL : Nat} {N : Heap → Prop} {S : AS} {pc : Nat} {Z : Prop} (hZ : ∀ H, N H → Z) (h : Z → Wa p l e R s m args below meth c cells slots Q D ca ad A nL N S pc) : Wa p l e R s m args below meth c cells slots Q D ca ad A nL N S pc := fun H locs ls h1 h2 h3 h4 => h (hZ H h4) H locs ls h1 h2 h3 h4
set_option maxRecDepth 100000 in
set_option maxHeartbeats 4000000 in
theorem kX8_put (hAD : AD ad 9) (hN : NS D N) {T : Term} (hfT : fitT T 16) (hxT : ∀ H, N H → nodeAt D H T) {P : Nat} (hP : P < 65536) (v : Int64) (hw : fitT (wrtT (strp T) P (tL 0 P v)) 16) : Ct l yX8_put cX8_put 6 (some .int) (rK 21 18 88) D ca ad (xW (adr T) nv kf fv fp fd ra rb wn to tl so sl) 9 [.ref 0, .int (nI P), .long v] N (fun r ws2 H => (300 < cntT (wrtT (strp T) P (tL 0 P v)) 0 65535 ∧ r = some (.int (-3)) ∧ ws2 = (xW (adr T) nv kf fv fp fd ra rb wn to tl so sl) ∧ N H) ∨ ∃ T1, (cntT (wrtT (strp T) P (tL 0 P v)) 0 65535 ≤ 300 ∧ r = some (.int (if lfT (wayT T P) P = true then 0 else 1)) ∧ ws2 = (xW (adr T1) nv kf fv fp fd ra rb wn to tl so sl) ∧ strp T1 = strp (wrtT (strp T) P (tL 0 P v))) ∧ N H ∧ nodeAt D H T1) := by
  have hTT := fit_T T _ hfT
  have hwn : ∀ H, N H → nodeAt D H (wayT T P) := fun H hH => way_node T P (hxT H hH)
  have hwf := way_fit T hTT P 16 (Nat.le_refl _) hfT
  refine enter (lv := [(0, .ref 0), (1, .int (nI P)), (2, .long v)]) (by decide +kernel) (Nat.le_of_ble_eq_true rfl) rfl hAD (fun U hK => ns_write hK hN) ?_
  intro p e s m below meth c A args hA C hr hlk hnm
  refine sg0 C foX8 coX8 oX8_put_0 rfl rfl rfl ?_
  refine cl_s C (kX8_isPath hAD rfl hN (nI P)) cd_X8_isPath in_X8 ml_X8_53 sm_X8_isPath hd_X8_isPath rfl rfl ⟨(Nat.le_of_ble_eq_true rfl), (Nat.le_of_ble_eq_true rfl)⟩ ⟨(Nat.le_of_ble_eq_true rfl), (Nat.le_of_ble_eq_true rfl)⟩ (Nat.le_of_ble_eq_true rfl) jX8_put_1 (fun v ws' => Wa.and (fun hv => ?_))
  obtain ⟨rfl, rfl⟩ := hv
  rw [if_pos (pth_ok hP)]
  refine b1_ne (tgt := 9) C jX8_put_4 (by decide) (fun h4 => ?_) (fun h4 => ?_)
  · refine sg0 C foX8 coX8 oX8_put_9 rfl rfl rfl ?_
    refine cl_s C (kX8_endOfWay hAD rfl hN hfT hxT hP) cd_X8_endOfWay in_X8 ml_X8_57 sm_X8_endOfWay hd_X8_endOfWay rfl rfl ⟨(Nat.le_of_ble_eq_true rfl), (Nat.le_of_ble_eq_true rfl)⟩ ⟨(Nat.le_of_ble_eq_true rfl), (Nat.le_of_ble_eq_true rfl)⟩ (Nat.le_of_ble_eq_true rfl) jX8_put_14 (fun v ws' => Wa.and (fun hv => ?_))
    obtain ⟨rfl, rfl⟩ := hv
    refine sg0 C foX8 coX8 oX8_put_17 rfl rfl rfl ?_
    refine cl_s C (kX8_isLeafOf hAD rfl hP (wayT T P) (fit_T _ _ hwf) 16 0 _ hwf (by decide) hN hwn) cd_X8_isLeafOf in_X8 ml_X8_61 sm_X8_isLeafOf hd_X8_isLeafOf rfl rfl ⟨(Nat.le_of_ble_eq_true rfl), (Nat.le_of_ble_eq_true rfl)⟩ ⟨(Nat.le_of_ble_eq_true rfl), (Nat.le_of_ble_eq_true rfl)⟩ (Nat.le_of_ble_eq_true rfl) jX8_put_18 (fun v ws' => Wa.and (fun hv => ?_))
    obtain ⟨rfl, rfl⟩ := hv
    refine sg0 C foX8 coX8 oX8_put_21 rfl rfl rfl ?_
    refine nw (ci := 3) (fs := [.long 0, .int 0, .long 0]) C hN rfl (by decide) kl_X8_65 is_X3 in_X3 tyX3 tyX3_ok dfX3 ⟨(Nat.le_of_ble_eq_true rfl), (Nat.le_of_ble_eq_true rfl)⟩ jX8_put_27 (fun H1 q1 hN_q1 hq1 => ?_)
    have C := C.to (N2 := BN D H1 q1 3 [.long 0, .int 0, .long 0]) BN.ns
    refine sg0 C foX8 coX8 oX8_put_30 rfl rfl rfl ?_
    refine cl_i C (kX3_init hAD rfl rfl P v) (C.2.2.2.2.2 _ hq1) cd_X3_init in_X3 ml_X8_67 im_X3_init rfl hd_X3_init rfl rfl ⟨(Nat.le_of_ble_eq_true rfl), (Nat.le_of_ble_eq_true rfl)⟩ ⟨(Nat.le_of_ble_eq_true rfl), (Nat.le_of_ble_eq_true rfl)⟩ (Nat.le_of_ble_eq_true rfl) jX8_put_33 (fun v ws' => Wa.and (fun hv => ?_))
    obtain ⟨rfl, rfl⟩ := hv
    have hNB : NS D (BN D H1 q1 3 [.long (leafF P v), .int (nI P), .long v]) := BN.ns
    have C := C.to (N2 := BN D H1 q1 3 [.long (leafF P v), .int (nI P), .long v]) hNB
    refine sg0 C foX8 coX8 oX8_put_36 rfl rfl rfl ?_
    refine cl_s C (kX8_written hAD rfl rfl hP T hTT 16 0 _ hfT (by decide) hNB (fun H hH => nodeAt.ns T _ _ (hxT H1 hN_q1) hH.2.1) (fun H hH => hH.2.2)) cd_X8_written in_X8 ml_X8_70 sm_X8_written hd_X8_written rfl rfl ⟨(Nat.le_of_ble_eq_true rfl), (Nat.le_of_ble_eq_true rfl)⟩ ⟨(Nat.le_of_ble_eq_true rfl), (Nat.le_of_ble_eq_true rfl)⟩ (Nat.le_of_ble_eq_true rfl) jX8_put_37 (fun v ws' => Wa.ex (fun T1 => Wa.and (fun hv => ?_)))
    obtain ⟨rfl, rfl, hK1⟩ := hv
    have hN1 := hNB.and (nodeAt.ns (D := D) T1)
    have C := C.to (N2 := (fun H => BN D H1 q1 3 [.long (leafF P v), .int (nI P), .long v] H ∧ nodeAt D H T1)) hN1
    refine Wa.pl (Z := isT T1) (fun H hH => nodeAt.T T1 hH.2) (fun h1T => ?_)
    obtain ⟨hf1, hK2⟩ := wr_fit hTT h1T hK1 hw
    have hce := wr_cnt h1T (fit_T _ _ hw) hK2 0 65535
    have hcl := cnt_le _ (fit_T _ _ hw) 0 65535 16 hw
    refine sg0 C foX8 coX8 oX8_put_40 rfl rfl rfl ?_
    refine cl_s C (kX8_leavesWithin hAD rfl (a := 0) (b := 65535) (by decide) (by decide) T1 h1T 16 0 _ hf1 (by decide) hN1 (fun H hH => hH.2)) cd_X8_leavesWithin in_X8 ml_X8_75 sm_X8_leavesWithin hd_X8_leavesWithin rfl rfl ⟨(Nat.le_of_ble_eq_true rfl), (Nat.le_of_ble_eq_true rfl)⟩ ⟨(Nat.le_of_ble_eq_true rfl), (Nat.le_of_ble_eq_true rfl)⟩ (Nat.le_of_ble_eq_true rfl) jX8_put_48 (fun v ws' => Wa.and (fun hv => ?_))
    obtain ⟨rfl, rfl⟩ := hv
    rw [hce]
    refine sg0 C foX8 coX8 oX8_put_51 rfl rfl rfl ?_
    refine b2_le (tgt := 60) C jX8_put_54 (by decide) (fun h54 => ?_) (fun h54 => ?_)
    · have hq : cntT (wrtT (strp T) P (tL 0 P v)) 0 65535 ≤ 300 := Nat.not_lt.mp fun q9 => absurd h54 (by rw [show (300 : Int32) = nI 300 from rfl]; exact nI_ge q9 (by omega))
      refine sg0 C foX8 coX8 oX8_put_60 rfl rfl rfl ?_
      refine b1_eq (tgt := 75) C jX8_put_68 (by decide) (fun h68 => ?_) (fun h68 => ?_)
      · have hl : ¬ lfT (wayT T P) P = true := fun e1 => by rw [if_pos e1] at h68; exact absurd h68 (by decide)
        refine sg0 C foX8 coX8 oX8_put_75 rfl rfl rfl ?_
        refine Wa.wid (k1 := 18) (k2 := 88) (by decide) (by decide) ?_
        exact rt_i C hr hlk jX8_put_76 (fun H hH => Or.inr ⟨T1, ⟨hq, by rw [if_neg hl], rfl, hK2⟩, hN _ _ hN_q1 hH.1.2.1, hH.2⟩)
      · have hl : lfT (wayT T P) P = true := Decidable.byContradiction fun e1 => h68 (if_neg e1)
        refine sg0 C foX8 coX8 oX8_put_71 rfl rfl rfl ?_
        refine Wa.wid (k1 := 18) (k2 := 88) (by decide) (by decide) ?_
        exact rt_i C hr hlk jX8_put_76 (fun H hH => Or.inr ⟨T1, ⟨hq, by rw [if_pos hl], rfl, hK2⟩, hN _ _ hN_q1 hH.1.2.1, hH.2⟩)
    · have hq : 300 < cntT (wrtT (strp T) P (tL 0 P v)) 0 65535 := Nat.not_le.mp fun q9 => h54 (by rw [show (300 : Int32) = nI 300 from rfl]; exact nI_le q9 (by decide))
      refine sg0 C foX8 coX8 oX8_put_57 rfl rfl rfl ?_
      refine Wa.wid (k1 := 18) (k2 := 88) (by decide) (by decide) ?_
      exact rt_i C hr hlk jX8_put_59 (fun H hH => Or.inl ⟨hq, rfl, rfl, hN _ _ hN_q1 hH.1.2.1⟩)
  · exact absurd h4 (by decide)
set_option maxRecDepth 100000 in
set_option maxHeartbeats 4000000 in
theorem kX8_remove (hAD : AD ad 9) (hN : NS D N) {T : Term} (hfT : fitT T 16) (hxT : ∀ H, N H → nodeAt D H T) {P : Nat} (hP : P < 65536) : Ct l yX8_remove cX8_remove 2 (some .int) (rK 21 17 85) D ca ad (xW (adr T) nv kf fv fp fd ra rb wn to tl so sl) 9 [.ref 0, .int (nI P)] N (fun r ws2 H => (¬ lfT (wayT T P) P = true ∧ r = some (.int 0) ∧ ws2 = (xW (adr T) nv kf fv fp fd ra rb wn to tl so sl) ∧ N H) ∨ ∃ T1, (lfT (wayT T P) P = true ∧ r = some (.int 1) ∧ ws2 = (xW (adr T1) nv kf fv fp fd ra rb wn to tl so sl) ∧ strp T1 = strp (delT (strp T) P)) ∧ N H ∧ nodeAt D H T1) := by
  have hTT := fit_T T _ hfT
  have hwn : ∀ H, N H → nodeAt D H (wayT T P) := fun H hH => way_node T P (hxT H hH)
  have hwf := way_fit T hTT P 16 (Nat.le_refl _) hfT
  refine enter (lv := [(0, .ref 0), (1, .int (nI P))]) (by decide +kernel) (Nat.le_of_ble_eq_true rfl) rfl hAD (fun U hK => ns_write hK hN) ?_
  intro p e s m below meth c A args hA C hr hlk hnm
  refine sg0 C foX8 coX8 oX8_remove_0 rfl rfl rfl ?_
  refine cl_s C (kX8_isPath hAD rfl hN (nI P)) cd_X8_isPath in_X8 ml_X8_53 sm_X8_isPath hd_X8_isPath rfl rfl ⟨(Nat.le_of_ble_eq_true rfl), (Nat.le_of_ble_eq_true rfl)⟩ ⟨(Nat.le_of_ble_eq_true rfl), (Nat.le_of_ble_eq_true rfl)⟩ (Nat.le_of_ble_eq_true rfl) jX8_remove_1 (fun v ws' => Wa.and (fun hv => ?_))
  obtain ⟨rfl, rfl⟩ := hv
  rw [if_pos (pth_ok hP)]
  refine b1_ne (tgt := 9) C jX8_remove_4 (by decide) (fun h4 => ?_) (fun h4 => ?_)
  · refine sg0 C foX8 coX8 oX8_remove_9 rfl rfl rfl ?_
    refine cl_s C (kX8_endOfWay hAD rfl hN hfT hxT hP) cd_X8_endOfWay in_X8 ml_X8_57 sm_X8_endOfWay hd_X8_endOfWay rfl rfl ⟨(Nat.le_of_ble_eq_true rfl), (Nat.le_of_ble_eq_true rfl)⟩ ⟨(Nat.le_of_ble_eq_true rfl), (Nat.le_of_ble_eq_true rfl)⟩ (Nat.le_of_ble_eq_true rfl) jX8_remove_14 (fun v ws' => Wa.and (fun hv => ?_))
    obtain ⟨rfl, rfl⟩ := hv
    refine sg0 C foX8 coX8 oX8_remove_17 rfl rfl rfl ?_
    refine cl_s C (kX8_isLeafOf hAD rfl hP (wayT T P) (fit_T _ _ hwf) 16 0 _ hwf (by decide) hN hwn) cd_X8_isLeafOf in_X8 ml_X8_61 sm_X8_isLeafOf hd_X8_isLeafOf rfl rfl ⟨(Nat.le_of_ble_eq_true rfl), (Nat.le_of_ble_eq_true rfl)⟩ ⟨(Nat.le_of_ble_eq_true rfl), (Nat.le_of_ble_eq_true rfl)⟩ (Nat.le_of_ble_eq_true rfl) jX8_remove_18 (fun v ws' => Wa.and (fun hv => ?_))
    obtain ⟨rfl, rfl⟩ := hv
    refine b1_ne (tgt := 26) C jX8_remove_21 (by decide) (fun h21 => ?_) (fun h21 => ?_)
    · have hl : lfT (wayT T P) P = true := Decidable.byContradiction fun e1 => h21 (if_neg e1)
      refine sg0 C foX8 coX8 oX8_remove_26 rfl rfl rfl ?_
      refine cl_s C (kX8_erased hAD rfl rfl hP T hTT 16 0 N hfT (by decide) hN hxT) cd_X8_erased in_X8 ml_X8_79 sm_X8_erased hd_X8_erased rfl rfl ⟨(Nat.le_of_ble_eq_true rfl), (Nat.le_of_ble_eq_true rfl)⟩ ⟨(Nat.le_of_ble_eq_true rfl), (Nat.le_of_ble_eq_true rfl)⟩ (Nat.le_of_ble_eq_true rfl) jX8_remove_33 (fun v ws' => Wa.ex (fun T1 => Wa.and (fun hv => ?_)))
      obtain ⟨rfl, rfl, hK1⟩ := hv
      have hN1 := hN.and (nodeAt.ns (D := D) T1)
      have C := C.to (N2 := fun H => N H ∧ nodeAt D H T1) hN1
      have hK2 := del_fit2 hTT hK1
      refine sg0 C foX8 coX8 oX8_remove_36 rfl rfl rfl ?_
      exact rt_i C hr hlk jX8_remove_40 (fun H hH => Or.inr ⟨T1, ⟨hl, rfl, rfl, hK2⟩, hH.1, hH.2⟩)
    · have hl : ¬ lfT (wayT T P) P = true := fun e1 => by rw [if_pos e1] at h21; exact absurd h21 (by decide)
      refine sg0 C foX8 coX8 oX8_remove_24 rfl rfl rfl ?_
      refine Wa.wid (k1 := 17) (k2 := 85) (by decide) (by decide) ?_
      exact rt_i C hr hlk jX8_remove_25 (fun H hH => Or.inl ⟨hl, rfl, rfl, hH⟩)
  · exact absurd h4 (by decide)
set_option maxRecDepth 100000 in
set_option maxHeartbeats 4000000 in
theorem kX8_write (hAD : AD ad 9) (hN : NS D N) {vo : Option Term} (hvo : ∀ V, vo = some V → fitT V 16 ∧ ∀ H, N H → nodeAt D H V) {P : Nat} (hP : P < 65536) (v : Int64) (hw0 : ∀ V, vo = some V → ¬ isH (wayT V P) = true → fitT (wrtT (strp V) P (tL 0 P v)) 16) : Ct l yX8_write cX8_write 6 (some .int) (rK 21 18 88) D ca ad (xW qt nv kf (vF vo) fp fd ra rb wn to tl so sl) 9 [.ref 0, .int (nI P), .long v] N (fun r ws2 H => (vo = none ∧ r = some (.int (-2)) ∧ ws2 = (xW qt nv kf (vF vo) fp fd ra rb wn to tl so sl) ∧ N H) ∨ (∃ V, vo = some V ∧ isH (wayT V P) = true ∧ r = some (.int (-4)) ∧ ws2 = (xW qt nv kf (vF vo) fp fd ra rb wn to tl so sl) ∧ N H) ∨ (∃ V, vo = some V ∧ ¬ isH (wayT V P) = true ∧ 700 < nodT (wrtT (strp V) P (tL 0 P v)) ∧ r = some (.int (-3)) ∧ ws2 = (xW qt nv kf (vF vo) fp fd ra rb wn to tl so sl) ∧ N H) ∨ ∃ T1 V, (vo = some V ∧ ¬ isH (wayT V P) = true ∧ nodT (wrtT (strp V) P (tL 0 P v)) ≤ 700 ∧ r = some (.int (if lfT (wayT V P) P = true then 0 else 1)) ∧ ws2 = (xW qt nv kf (vF (some T1)) fp fd ra rb wn to tl so sl) ∧ strp T1 = strp (wrtT (strp V) P (tL 0 P v))) ∧ N H ∧ nodeAt D H T1) := by
  cases vo with
  | none =>
    refine enter (lv := [(0, .ref 0), (1, .int (nI P)), (2, .long v)]) (by decide +kernel) (Nat.le_of_ble_eq_true rfl) rfl hAD (fun U hK => ns_write hK hN) ?_
    intro p e s m below meth c A args hA C hr hlk hnm
    refine sg0 C foX8 coX8 oX8_write_0 rfl rfl rfl ?_
    refine cl_s C (kX8_isPath hAD rfl hN (nI P)) cd_X8_isPath in_X8 ml_X8_53 sm_X8_isPath hd_X8_isPath rfl rfl ⟨(Nat.le_of_ble_eq_true rfl), (Nat.le_of_ble_eq_true rfl)⟩ ⟨(Nat.le_of_ble_eq_true rfl), (Nat.le_of_ble_eq_true rfl)⟩ (Nat.le_of_ble_eq_true rfl) jX8_write_1 (fun v ws' => Wa.and (fun hv => ?_))
    obtain ⟨rfl, rfl⟩ := hv
    rw [if_pos (pth_ok hP)]
    refine b1_ne (tgt := 9) C jX8_write_4 (by decide) (fun h4 => ?_) (fun h4 => ?_)
    · refine sg0 C foX8 coX8 oX8_write_9 rfl rfl rfl ?_
      refine bnn_n C jX8_write_13 ?_
      refine sg0 C foX8 coX8 oX8_write_16 rfl rfl rfl ?_
      refine Wa.wid (k1 := 18) (k2 := 88) (by decide) (by decide) ?_
      exact rt_i C hr hlk jX8_write_18 (fun H hH => Or.inl ⟨rfl, rfl, rfl, hH⟩)
    · exact absurd h4 (by decide)
  | some V =>
    obtain ⟨hfV, hxV⟩ := hvo V rfl
    have hVT := fit_T V _ hfV
    have hwn : ∀ H, N H → nodeAt D H (wayT V P) := fun H hH => way_node V P (hxV H hH)
    have hwf := way_fit V hVT P 16 (Nat.le_refl _) hfV
    refine enter (lv := [(0, .ref 0), (1, .int (nI P)), (2, .long v)]) (by decide +kernel) (Nat.le_of_ble_eq_true rfl) rfl hAD (fun U hK => ns_write hK hN) ?_
    intro p e s m below meth c A args hA C hr hlk hnm
    refine sg0 C foX8 coX8 oX8_write_0 rfl rfl rfl ?_
    refine cl_s C (kX8_isPath hAD rfl hN (nI P)) cd_X8_isPath in_X8 ml_X8_53 sm_X8_isPath hd_X8_isPath rfl rfl ⟨(Nat.le_of_ble_eq_true rfl), (Nat.le_of_ble_eq_true rfl)⟩ ⟨(Nat.le_of_ble_eq_true rfl), (Nat.le_of_ble_eq_true rfl)⟩ (Nat.le_of_ble_eq_true rfl) jX8_write_1 (fun v ws' => Wa.and (fun hv => ?_))
    obtain ⟨rfl, rfl⟩ := hv
    rw [if_pos (pth_ok hP)]
    refine b1_ne (tgt := 9) C jX8_write_4 (by decide) (fun h4 => ?_) (fun h4 => ?_)
    · refine sg0 C foX8 coX8 oX8_write_9 rfl rfl rfl ?_
      refine bnn_r (tgt := 19) C jX8_write_13 (by decide) ?_
      refine sg0 C foX8 coX8 oX8_write_19 rfl rfl rfl ?_
      refine cl_s C (kX8_endOfWay hAD rfl hN hfV hxV hP) cd_X8_endOfWay in_X8 ml_X8_57 sm_X8_endOfWay hd_X8_endOfWay rfl rfl ⟨(Nat.le_of_ble_eq_true rfl), (Nat.le_of_ble_eq_true rfl)⟩ ⟨(Nat.le_of_ble_eq_true rfl), (Nat.le_of_ble_eq_true rfl)⟩ (Nat.le_of_ble_eq_true rfl) jX8_write_24 (fun v ws' => Wa.and (fun hv => ?_))
      obtain ⟨rfl, rfl⟩ := hv
      refine sg0 C foX8 coX8 oX8_write_27 rfl rfl rfl ?_
      refine ni_H C hwn kl_X8_134 jX8_write_31 ?_
      refine b1_eq (tgt := 40) C jX8_write_34 (by decide) (fun h34 => ?_) (fun h34 => ?_)
      · have hh : ¬ isH (wayT V P) = true := fun e1 => by rw [if_pos e1] at h34; exact absurd h34 (by decide)
        have hw := hw0 V rfl hh
        refine sg0 C foX8 coX8 oX8_write_40 rfl rfl rfl ?_
        refine nw (ci := 3) (fs := [.long 0, .int 0, .long 0]) C hN rfl (by decide) kl_X8_65 is_X3 in_X3 tyX3 tyX3_ok dfX3 ⟨(Nat.le_of_ble_eq_true rfl), (Nat.le_of_ble_eq_true rfl)⟩ jX8_write_44 (fun H1 q1 hN_q1 hq1 => ?_)
        have C := C.to (N2 := BN D H1 q1 3 [.long 0, .int 0, .long 0]) BN.ns
        refine sg0 C foX8 coX8 oX8_write_47 rfl rfl rfl ?_
        refine cl_i C (kX3_init hAD rfl rfl P v) (C.2.2.2.2.2 _ hq1) cd_X3_init in_X3 ml_X8_67 im_X3_init rfl hd_X3_init rfl rfl ⟨(Nat.le_of_ble_eq_true rfl), (Nat.le_of_ble_eq_true rfl)⟩ ⟨(Nat.le_of_ble_eq_true rfl), (Nat.le_of_ble_eq_true rfl)⟩ (Nat.le_of_ble_eq_true rfl) jX8_write_50 (fun v ws' => Wa.and (fun hv => ?_))
        obtain ⟨rfl, rfl⟩ := hv
        have hNB : NS D (BN D H1 q1 3 [.long (leafF P v), .int (nI P), .long v]) := BN.ns
        have C := C.to (N2 := BN D H1 q1 3 [.long (leafF P v), .int (nI P), .long v]) hNB
        refine sg0 C foX8 coX8 oX8_write_53 rfl rfl rfl ?_
        refine cl_s C (kX8_written hAD rfl rfl hP V hVT 16 0 _ hfV (by decide) hNB (fun H hH => nodeAt.ns V _ _ (hxV H1 hN_q1) hH.2.1) (fun H hH => hH.2.2)) cd_X8_written in_X8 ml_X8_70 sm_X8_written hd_X8_written rfl rfl ⟨(Nat.le_of_ble_eq_true rfl), (Nat.le_of_ble_eq_true rfl)⟩ ⟨(Nat.le_of_ble_eq_true rfl), (Nat.le_of_ble_eq_true rfl)⟩ (Nat.le_of_ble_eq_true rfl) jX8_write_54 (fun v ws' => Wa.ex (fun T1 => Wa.and (fun hv => ?_)))
        obtain ⟨rfl, rfl, hK1⟩ := hv
        have hN1 := hNB.and (nodeAt.ns (D := D) T1)
        have C := C.to (N2 := (fun H => BN D H1 q1 3 [.long (leafF P v), .int (nI P), .long v] H ∧ nodeAt D H T1)) hN1
        refine Wa.pl (Z := isT T1) (fun H hH => nodeAt.T T1 hH.2) (fun h1T => ?_)
        obtain ⟨hf1, hK2⟩ := wr_fit hVT h1T hK1 hw
        have hce := wr_nod h1T (fit_T _ _ hw) hK2
        have hcl := nod_le _ (fit_T _ _ hw) 16 hw
        refine sg0 C foX8 coX8 oX8_write_57 rfl rfl rfl ?_
        refine cl_s C (kX8_nodesOf hAD rfl T1 h1T 16 0 _ hf1 (by decide) hN1 (fun H hH => hH.2)) cd_X8_nodesOf in_X8 ml_X8_130 sm_X8_nodesOf hd_X8_nodesOf rfl rfl ⟨(Nat.le_of_ble_eq_true rfl), (Nat.le_of_ble_eq_true rfl)⟩ ⟨(Nat.le_of_ble_eq_true rfl), (Nat.le_of_ble_eq_true rfl)⟩ (Nat.le_of_ble_eq_true rfl) jX8_write_62 (fun v ws' => Wa.and (fun hv => ?_))
        obtain ⟨rfl, rfl⟩ := hv
        rw [hce]
        refine sg0 C foX8 coX8 oX8_write_65 rfl rfl rfl ?_
        refine b2_le (tgt := 74) C jX8_write_68 (by decide) (fun h68 => ?_) (fun h68 => ?_)
        · have hq : nodT (wrtT (strp V) P (tL 0 P v)) ≤ 700 := Nat.not_lt.mp fun q9 => absurd h68 (by rw [show (700 : Int32) = nI 700 from rfl]; exact nI_ge q9 (by omega))
          refine sg0 C foX8 coX8 oX8_write_74 rfl rfl rfl ?_
          refine cl_s C (kX8_isLeafOf hAD rfl hP (wayT V P) (fit_T _ _ hwf) 16 0 _ hwf (by decide) hN1 (fun H hH => nodeAt.ns _ _ _ (hwn H1 hN_q1) hH.1.2.1)) cd_X8_isLeafOf in_X8 ml_X8_61 sm_X8_isLeafOf hd_X8_isLeafOf rfl rfl ⟨(Nat.le_of_ble_eq_true rfl), (Nat.le_of_ble_eq_true rfl)⟩ ⟨(Nat.le_of_ble_eq_true rfl), (Nat.le_of_ble_eq_true rfl)⟩ (Nat.le_of_ble_eq_true rfl) jX8_write_83 (fun v ws' => Wa.and (fun hv => ?_))
          obtain ⟨rfl, rfl⟩ := hv
          refine b1_eq (tgt := 93) C jX8_write_86 (by decide) (fun h86 => ?_) (fun h86 => ?_)
          · have hl : ¬ lfT (wayT V P) P = true := fun e1 => by rw [if_pos e1] at h86; exact absurd h86 (by decide)
            refine sg0 C foX8 coX8 oX8_write_93 rfl rfl rfl ?_
            refine Wa.wid (k1 := 18) (k2 := 88) (by decide) (by decide) ?_
            exact rt_i C hr hlk jX8_write_94 (fun H hH => Or.inr (Or.inr (Or.inr ⟨T1, V, ⟨rfl, hh, hq, by rw [if_neg hl], rfl, hK2⟩, hN _ _ hN_q1 hH.1.2.1, hH.2⟩)))
          · have hl : lfT (wayT V P) P = true := Decidable.byContradiction fun e1 => h86 (if_neg e1)
            refine sg0 C foX8 coX8 oX8_write_89 rfl rfl rfl ?_
            refine Wa.wid (k1 := 18) (k2 := 88) (by decide) (by decide) ?_
            exact rt_i C hr hlk jX8_write_94 (fun H hH => Or.inr (Or.inr (Or.inr ⟨T1, V, ⟨rfl, hh, hq, by rw [if_pos hl], rfl, hK2⟩, hN _ _ hN_q1 hH.1.2.1, hH.2⟩)))
        · have hq : 700 < nodT (wrtT (strp V) P (tL 0 P v)) := Nat.not_le.mp fun q9 => h68 (by rw [show (700 : Int32) = nI 700 from rfl]; exact nI_le q9 (by decide))
          refine sg0 C foX8 coX8 oX8_write_71 rfl rfl rfl ?_
          refine Wa.wid (k1 := 18) (k2 := 88) (by decide) (by decide) ?_
          exact rt_i C hr hlk jX8_write_73 (fun H hH => Or.inr (Or.inr (Or.inl ⟨V, rfl, hh, hq, rfl, rfl, hN _ _ hN_q1 hH.1.2.1⟩)))
      · have hh : isH (wayT V P) = true := Decidable.byContradiction fun e1 => h34 (if_neg e1)
        refine sg0 C foX8 coX8 oX8_write_37 rfl rfl rfl ?_
        refine Wa.wid (k1 := 18) (k2 := 88) (by decide) (by decide) ?_
        exact rt_i C hr hlk jX8_write_39 (fun H hH => Or.inr (Or.inl ⟨V, rfl, hh, rfl, rfl, hH⟩))
    · exact absurd h4 (by decide)
set_option maxRecDepth 100000 in
set_option maxHeartbeats 4000000 in
theorem kX8_erase (hAD : AD ad 9) (hN : NS D N) {vo : Option Term} (hvo : ∀ V, vo = some V → fitT V 16 ∧ ∀ H, N H → nodeAt D H V) {P : Nat} (hP : P < 65536) : Ct l yX8_erase cX8_erase 3 (some .int) (rK 21 17 85) D ca ad (xW qt nv kf (vF vo) fp fd ra rb wn to tl so sl) 9 [.ref 0, .int (nI P)] N (fun r ws2 H => (vo = none ∧ r = some (.int (-2)) ∧ ws2 = (xW qt nv kf (vF vo) fp fd ra rb wn to tl so sl) ∧ N H) ∨ (∃ V, vo = some V ∧ isH (wayT V P) = true ∧ r = some (.int (-4)) ∧ ws2 = (xW qt nv kf (vF vo) fp fd ra rb wn to tl so sl) ∧ N H) ∨ (∃ V, vo = some V ∧ ¬ isH (wayT V P) = true ∧ ¬ lfT (wayT V P) P = true ∧ r = some (.int 0) ∧ ws2 = (xW qt nv kf (vF vo) fp fd ra rb wn to tl so sl) ∧ N H) ∨ ∃ T1 V, (vo = some V ∧ ¬ isH (wayT V P) = true ∧ lfT (wayT V P) P = true ∧ r = some (.int 1) ∧ ws2 = (xW qt nv kf (vF (some T1)) fp fd ra rb wn to tl so sl) ∧ strp T1 = strp (delT (strp V) P)) ∧ N H ∧ nodeAt D H T1) := by
  cases vo with
  | none =>
    refine enter (lv := [(0, .ref 0), (1, .int (nI P))]) (by decide +kernel) (Nat.le_of_ble_eq_true rfl) rfl hAD (fun U hK => ns_write hK hN) ?_
    intro p e s m below meth c A args hA C hr hlk hnm
    refine sg0 C foX8 coX8 oX8_erase_0 rfl rfl rfl ?_
    refine cl_s C (kX8_isPath hAD rfl hN (nI P)) cd_X8_isPath in_X8 ml_X8_53 sm_X8_isPath hd_X8_isPath rfl rfl ⟨(Nat.le_of_ble_eq_true rfl), (Nat.le_of_ble_eq_true rfl)⟩ ⟨(Nat.le_of_ble_eq_true rfl), (Nat.le_of_ble_eq_true rfl)⟩ (Nat.le_of_ble_eq_true rfl) jX8_erase_1 (fun v ws' => Wa.and (fun hv => ?_))
    obtain ⟨rfl, rfl⟩ := hv
    rw [if_pos (pth_ok hP)]
    refine b1_ne (tgt := 9) C jX8_erase_4 (by decide) (fun h4 => ?_) (fun h4 => ?_)
    · refine sg0 C foX8 coX8 oX8_erase_9 rfl rfl rfl ?_
      refine bnn_n C jX8_erase_13 ?_
      refine sg0 C foX8 coX8 oX8_erase_16 rfl rfl rfl ?_
      refine Wa.wid (k1 := 17) (k2 := 85) (by decide) (by decide) ?_
      exact rt_i C hr hlk jX8_erase_18 (fun H hH => Or.inl ⟨rfl, rfl, rfl, hH⟩)
    · exact absurd h4 (by decide)
  | some V =>
    obtain ⟨hfV, hxV⟩ := hvo V rfl
    have hVT := fit_T V _ hfV
    have hwn : ∀ H, N H → nodeAt D H (wayT V P) := fun H hH => way_node V P (hxV H hH)
    have hwf := way_fit V hVT P 16 (Nat.le_refl _) hfV
    refine enter (lv := [(0, .ref 0), (1, .int (nI P))]) (by decide +kernel) (Nat.le_of_ble_eq_true rfl) rfl hAD (fun U hK => ns_write hK hN) ?_
    intro p e s m below meth c A args hA C hr hlk hnm
    refine sg0 C foX8 coX8 oX8_erase_0 rfl rfl rfl ?_
    refine cl_s C (kX8_isPath hAD rfl hN (nI P)) cd_X8_isPath in_X8 ml_X8_53 sm_X8_isPath hd_X8_isPath rfl rfl ⟨(Nat.le_of_ble_eq_true rfl), (Nat.le_of_ble_eq_true rfl)⟩ ⟨(Nat.le_of_ble_eq_true rfl), (Nat.le_of_ble_eq_true rfl)⟩ (Nat.le_of_ble_eq_true rfl) jX8_erase_1 (fun v ws' => Wa.and (fun hv => ?_))
    obtain ⟨rfl, rfl⟩ := hv
    rw [if_pos (pth_ok hP)]
    refine b1_ne (tgt := 9) C jX8_erase_4 (by decide) (fun h4 => ?_) (fun h4 => ?_)
    · refine sg0 C foX8 coX8 oX8_erase_9 rfl rfl rfl ?_
      refine bnn_r (tgt := 19) C jX8_erase_13 (by decide) ?_
      refine sg0 C foX8 coX8 oX8_erase_19 rfl rfl rfl ?_
      refine cl_s C (kX8_endOfWay hAD rfl hN hfV hxV hP) cd_X8_endOfWay in_X8 ml_X8_57 sm_X8_endOfWay hd_X8_endOfWay rfl rfl ⟨(Nat.le_of_ble_eq_true rfl), (Nat.le_of_ble_eq_true rfl)⟩ ⟨(Nat.le_of_ble_eq_true rfl), (Nat.le_of_ble_eq_true rfl)⟩ (Nat.le_of_ble_eq_true rfl) jX8_erase_24 (fun v ws' => Wa.and (fun hv => ?_))
      obtain ⟨rfl, rfl⟩ := hv
      refine sg0 C foX8 coX8 oX8_erase_27 rfl rfl rfl ?_
      refine ni_H C hwn kl_X8_134 jX8_erase_29 ?_
      refine b1_eq (tgt := 38) C jX8_erase_32 (by decide) (fun h32 => ?_) (fun h32 => ?_)
      · have hh : ¬ isH (wayT V P) = true := fun e1 => by rw [if_pos e1] at h32; exact absurd h32 (by decide)
        refine sg0 C foX8 coX8 oX8_erase_38 rfl rfl rfl ?_
        refine cl_s C (kX8_isLeafOf hAD rfl hP (wayT V P) (fit_T _ _ hwf) 16 0 _ hwf (by decide) hN hwn) cd_X8_isLeafOf in_X8 ml_X8_61 sm_X8_isLeafOf hd_X8_isLeafOf rfl rfl ⟨(Nat.le_of_ble_eq_true rfl), (Nat.le_of_ble_eq_true rfl)⟩ ⟨(Nat.le_of_ble_eq_true rfl), (Nat.le_of_ble_eq_true rfl)⟩ (Nat.le_of_ble_eq_true rfl) jX8_erase_40 (fun v ws' => Wa.and (fun hv => ?_))
        obtain ⟨rfl, rfl⟩ := hv
        refine b1_ne (tgt := 48) C jX8_erase_43 (by decide) (fun h43 => ?_) (fun h43 => ?_)
        · have hl : lfT (wayT V P) P = true := Decidable.byContradiction fun e1 => h43 (if_neg e1)
          refine sg0 C foX8 coX8 oX8_erase_48 rfl rfl rfl ?_
          refine cl_s C (kX8_erased hAD rfl rfl hP V hVT 16 0 N hfV (by decide) hN hxV) cd_X8_erased in_X8 ml_X8_79 sm_X8_erased hd_X8_erased rfl rfl ⟨(Nat.le_of_ble_eq_true rfl), (Nat.le_of_ble_eq_true rfl)⟩ ⟨(Nat.le_of_ble_eq_true rfl), (Nat.le_of_ble_eq_true rfl)⟩ (Nat.le_of_ble_eq_true rfl) jX8_erase_55 (fun v ws' => Wa.ex (fun T1 => Wa.and (fun hv => ?_)))
          obtain ⟨rfl, rfl, hK1⟩ := hv
          have hN1 := hN.and (nodeAt.ns (D := D) T1)
          have C := C.to (N2 := fun H => N H ∧ nodeAt D H T1) hN1
          have hK2 := del_fit2 hVT hK1
          refine sg0 C foX8 coX8 oX8_erase_58 rfl rfl rfl ?_
          exact rt_i C hr hlk jX8_erase_62 (fun H hH => Or.inr (Or.inr (Or.inr ⟨T1, V, ⟨rfl, hh, hl, rfl, rfl, hK2⟩, hH.1, hH.2⟩)))
        · have hl : ¬ lfT (wayT V P) P = true := fun e1 => by rw [if_pos e1] at h43; exact absurd h43 (by decide)
          refine sg0 C foX8 coX8 oX8_erase_46 rfl rfl rfl ?_
          refine Wa.wid (k1 := 17) (k2 := 85) (by decide) (by decide) ?_
          exact rt_i C hr hlk jX8_erase_47 (fun H hH => Or.inr (Or.inr (Or.inl ⟨V, rfl, hh, hl, rfl, rfl, hH⟩)))
      · have hh : isH (wayT V P) = true := Decidable.byContradiction fun e1 => h32 (if_neg e1)
        refine sg0 C foX8 coX8 oX8_erase_35 rfl rfl rfl ?_
        refine Wa.wid (k1 := 17) (k2 := 85) (by decide) (by decide) ?_
        exact rt_i C hr hlk jX8_erase_37 (fun H hH => Or.inr (Or.inl ⟨V, rfl, hh, rfl, rfl, hH⟩))
    · exact absurd h4 (by decide)
end
