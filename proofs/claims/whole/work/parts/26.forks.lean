/-! the reader: forks, nodes, the whole -/
section
variable {S : List Int32} {rc : Nat → Nat → Nat → PR} {go : Bool} {i f t : Nat}
theorem prK_u1 (hrc : ∀ i f t U i1, rc i f t = .inr (U, i1) → i < i1 ∧ i1 ≤ S.length) (h4 : i + 4 ≤ S.length) (hB : oc S (i + 1) ≤ 15) (hc : stm (oc S (i + 2) * 256 + oc S (i + 3)) (oc S (i + 1)) = oc S (i + 2) * 256 + oc S (i + 3) ∧ f ≤ oc S (i + 2) * 256 + oc S (i + 3) ∧ oc S (i + 2) * 256 + oc S (i + 3) + 2 ^ (16 - oc S (i + 1)) - 1 ≤ t ∧ go = true) : usd S (rc (i + 4) (oc S (i + 2) * 256 + oc S (i + 3)) (oc S (i + 2) * 256 + oc S (i + 3) + 2 ^ (15 - oc S (i + 1)) - 1)) (i + 4) + 4 ≤ usd S (prK S rc go i f t) i := by
  unfold prK
  rw [if_neg (by omega), if_neg (by omega), if_neg (by omega), if_pos hc]
  cases e1 : rc (i + 4) (oc S (i + 2) * 256 + oc S (i + 3)) (oc S (i + 2) * 256 + oc S (i + 3) + 2 ^ (15 - oc S (i + 1)) - 1) with
  | inl z => simp only [usd]; omega
  | inr z =>
    obtain ⟨x, i1⟩ := z
    have a1 := hrc _ _ _ _ _ e1
    simp only []
    cases e2 : rc i1 (oc S (i + 2) * 256 + oc S (i + 3) + 2 ^ (15 - oc S (i + 1))) (oc S (i + 2) * 256 + oc S (i + 3) + 2 ^ (16 - oc S (i + 1)) - 1) with
    | inl z => simp only [usd]; omega
    | inr z =>
      obtain ⟨y, i2⟩ := z
      have a2 := hrc _ _ _ _ _ e2
      simp only [usd]; omega
theorem prK_u2 (hrc : ∀ i f t U i1, rc i f t = .inr (U, i1) → i < i1 ∧ i1 ≤ S.length) (h4 : i + 4 ≤ S.length) (hB : oc S (i + 1) ≤ 15) (hc : stm (oc S (i + 2) * 256 + oc S (i + 3)) (oc S (i + 1)) = oc S (i + 2) * 256 + oc S (i + 3) ∧ f ≤ oc S (i + 2) * 256 + oc S (i + 3) ∧ oc S (i + 2) * 256 + oc S (i + 3) + 2 ^ (16 - oc S (i + 1)) - 1 ≤ t ∧ go = true) {x : Term} {i1 : Nat} (e1 : rc (i + 4) (oc S (i + 2) * 256 + oc S (i + 3)) (oc S (i + 2) * 256 + oc S (i + 3) + 2 ^ (15 - oc S (i + 1)) - 1) = .inr (x, i1)) : usd S (rc (i + 4) (oc S (i + 2) * 256 + oc S (i + 3)) (oc S (i + 2) * 256 + oc S (i + 3) + 2 ^ (15 - oc S (i + 1)) - 1)) (i + 4) + usd S (rc i1 (oc S (i + 2) * 256 + oc S (i + 3) + 2 ^ (15 - oc S (i + 1))) (oc S (i + 2) * 256 + oc S (i + 3) + 2 ^ (16 - oc S (i + 1)) - 1)) i1 + 4 ≤ usd S (prK S rc go i f t) i := by
  unfold prK
  rw [if_neg (by omega), if_neg (by omega), if_neg (by omega), if_pos hc, e1]
  have a1 := hrc _ _ _ _ _ e1
  simp only []
  cases e2 : rc i1 (oc S (i + 2) * 256 + oc S (i + 3) + 2 ^ (15 - oc S (i + 1))) (oc S (i + 2) * 256 + oc S (i + 3) + 2 ^ (16 - oc S (i + 1)) - 1) with
  | inl z => simp only [usd]; omega
  | inr z =>
    obtain ⟨y, i2⟩ := z
    have a2 := hrc _ _ _ _ _ e2
    simp only [usd]; omega
end
def rcg (S : List Int32) : Nat → (Nat → Nat → Nat → PR) × Bool
  | 0 => (fun _ _ _ => .inl (0, 0), false)
  | g + 1 => (fun i f t => prs S g i f t false, true)
theorem prs_eq (S : List Int32) (g i f t : Nat) (w : Bool) : prs S g i f t w = prN S i f t w (prK S (rcg S g).1 (rcg S g).2 i f t) := by cases g <;> rfl
theorem rcg_r {S : List Int32} (g : Nat) : ∀ i f t U i1, (rcg S g).1 i f t = .inr (U, i1) → i < i1 ∧ i1 ≤ S.length := by
  cases g with
  | zero => intro i f t U i1 h; cases h
  | succ g => intro i f t U i1 h; exact prs_r g i f t false U i1 h
section
variable {l : Launch} {D : va_G} {ca : Nat → ClassId} {ad : Nat → Nat} {N : Heap → Prop} {c0 c1 c2 c3 c4 c7 c8 : va_E} {S : List Int32} {to : Nat → Int32} {fa fp : Int32}
set_option maxRecDepth 100000 in
set_option maxHeartbeats 4000000 in
theorem kX6_readFork (hAD : AD ad 10) (hN : NS D N) {i f t d k : Nat} {rc : Nat → Nat → Nat → PR} {go : Bool} (hS : tpR to S) (hlen : S.length ≤ 4000) (hoc : ocOk S) (hww : ∀ (i : Nat) (fa fp : Int32), ((c0 :: c1 :: c2 :: c3 :: c4 :: .inr (6, [.ref 6, .int (nI S.length)]) :: .inl (0, 4000, .inl to) :: c7 :: c8 :: .inr (5, [.ref 5, .int (nI i), .int fa, .int fp]) :: []) : List va_E).all nno = true) (hi : i < S.length) (hf : f < 65536) (ht : t < 65536) (hk : 4 ≤ k) (hd : d ≤ 16) (hgo : go = true ↔ d < 16) (hrc : ∀ i f t U i1, rc i f t = .inr (U, i1) → i < i1 ∧ i1 ≤ S.length) (hrec : d < 16 → ∀ (N : Heap → Prop) (i f t : Nat), NS D N → i ≤ S.length → f < 65536 → t < 65536 → Ct l yX6_readNode cX6_readNode 4 (some (.object "PathProofs$Node")) (rK k (usd S (rc i f t) i / 4) (5 * (usd S (rc i f t) i / 4))) D ca ad (c0 :: c1 :: c2 :: c3 :: c4 :: .inr (6, [.ref 6, .int (nI S.length)]) :: .inl (0, 4000, .inl to) :: c7 :: c8 :: .inr (5, [.ref 5, .int (nI i), .int fa, .int fp]) :: []) 10 [.ref 9, .int (nI f), .int (nI t), .int (nI (d + 1))] N (rdG D N (fun i fa fp => (c0 :: c1 :: c2 :: c3 :: c4 :: .inr (6, [.ref 6, .int (nI S.length)]) :: .inl (0, 4000, .inl to) :: c7 :: c8 :: .inr (5, [.ref 5, .int (nI i), .int fa, .int fp]) :: [])) fa fp (rc i f t))) : Ct l yX6_readFork cX6_readFork 9 (some (.object "PathProofs$Node")) (rK (k + 1) (usd S (prK S rc go i f t) i / 4) (5 * (usd S (prK S rc go i f t) i / 4))) D ca ad (c0 :: c1 :: c2 :: c3 :: c4 :: .inr (6, [.ref 6, .int (nI S.length)]) :: .inl (0, 4000, .inl to) :: c7 :: c8 :: .inr (5, [.ref 5, .int (nI (i + 1)), .int fa, .int fp]) :: []) 10 [.ref 9, .int (nI f), .int (nI t), .int (nI d)] N (rdG D N (fun i fa fp => (c0 :: c1 :: c2 :: c3 :: c4 :: .inr (6, [.ref 6, .int (nI S.length)]) :: .inl (0, 4000, .inl to) :: c7 :: c8 :: .inr (5, [.ref 5, .int (nI i), .int fa, .int fp]) :: [])) fa fp (prK S rc go i f t)) := by
  refine enter (lv := [(0, .ref 9), (1, .int (nI f)), (2, .int (nI t)), (3, .int (nI d))]) (by decide +kernel) (Nat.le_of_ble_eq_true rfl) rfl hAD (fun U hK => ns_write hK hN) ?_
  intro p e s m below meth c A args hA C hr hlk hnm
  refine sg0 C foX6 coX6 oX6_readFork_0 rfl rfl rfl ?_
  refine cl_v C (kX6_lacks hAD hN (i := i + 1) (j := 1) hlen (by omega) (by decide)) (rcv (ci := 5) C.2.1 rfl rfl) cd_X6_lacks in_X6 ml_X6_45 im_X6_lacks se_X6_lacks hd_X6_lacks rfl rfl ⟨by show 1 + 1 ≤ k + 1; omega, by show 8 + (2 + 11) + 40 * (1) ≤ 40 * (k + 1); omega⟩ ⟨by show 0 + 0 ≤ usd S (prK S rc go i f t) i / 4; omega, by show 0 + 0 ≤ 5 * (usd S (prK S rc go i f t) i / 4); omega⟩ (Nat.le_of_ble_eq_true rfl) jX6_readFork_2 (fun v ws' => Wa.and (fun hv => ?_))
  rcases hv with ⟨hl2, rfl, rfl⟩ | ⟨hl2, rfl, rfl⟩
  · refine b1_eq (tgt := 10) C jX6_readFork_5 (by decide) (fun h5 => ?_) (fun h5 => ?_)
    · exact absurd h5 (by decide)
    · refine sg0 C foX6 coX6 oX6_readFork_8 rfl rfl rfl ?_
      refine Wa.wid (k1 := usd S (prK S rc go i f t) i / 4) (k2 := 5 * (usd S (prK S rc go i f t) i / 4)) (Nat.zero_le _) (Nat.zero_le _) ?_
      exact rt_n C hr (Or.inl ⟨_, rfl⟩) hlk jX6_readFork_9 (fun H hH => Or.inl ⟨1, S.length, i + 1, ⟨by unfold prK; rw [if_pos (by omega)], rfl, rfl⟩, hH⟩)
  · refine b1_eq (tgt := 10) C jX6_readFork_5 (by decide) (fun h5 => ?_) (fun h5 => ?_)
    · refine sg0 C foX6 coX6 oX6_readFork_10 rfl rfl rfl ?_
      refine cl_v C (kX6_number hAD hN (i := i + 1) (j := 1) hS hlen (by decide) hl2) (rcv (ci := 5) C.2.1 rfl rfl) cd_X6_number in_X6 ml_X6_49 im_X6_number se_X6_number hd_X6_number rfl rfl ⟨by show 1 + 1 ≤ k + 1; omega, by show 8 + (5 + 11) + 40 * (1) ≤ 40 * (k + 1); omega⟩ ⟨by show 0 + 0 ≤ usd S (prK S rc go i f t) i / 4; omega, by show 0 + 0 ≤ 5 * (usd S (prK S rc go i f t) i / 4); omega⟩ (Nat.le_of_ble_eq_true rfl) jX6_readFork_12 (fun v ws' => Wa.and (fun hv => ?_))
      obtain ⟨rfl, rfl⟩ := hv
      have h1b := (oc_at hoc (show i + 1 < S.length by omega)).2
      have hnm1 : (nmF S 1 (i + 1) 0).toInt32 = nI (oc S (i + 1)) := nm1 hoc (by omega)
      refine sg0 C foX6 coX6 oX6_readFork_15 rfl rfl rfl ?_
      rw [hnm1]
      refine b2_lt (tgt := 37) C jX6_readFork_22 (by decide) (fun h22 => ?_) (fun h22 => ?_)
      · have hB : oc S (i + 1) ≤ 15 := by have := (nI_ltI (by omega) (by decide)).mp (show nI (oc S (i + 1)) < nI 16 from h22); omega
        refine sg0 C foX6 coX6 oX6_readFork_37 rfl rfl rfl ?_
        refine cl_v C (kX6_lacks hAD hN (i := i + 1 + 1) (j := 2) hlen (by omega) (by decide)) (rcv (ci := 5) C.2.1 rfl rfl) cd_X6_lacks in_X6 ml_X6_45 im_X6_lacks se_X6_lacks hd_X6_lacks rfl rfl ⟨by show 1 + 1 ≤ k + 1; omega, by show 8 + (2 + 11) + 40 * (1) ≤ 40 * (k + 1); omega⟩ ⟨by show 0 + 0 ≤ usd S (prK S rc go i f t) i / 4; omega, by show 0 + 0 ≤ 5 * (usd S (prK S rc go i f t) i / 4); omega⟩ (Nat.le_of_ble_eq_true rfl) jX6_readFork_39 (fun v ws' => Wa.and (fun hv => ?_))
        rcases hv with ⟨hl39, rfl, rfl⟩ | ⟨hl39, rfl, rfl⟩
        · refine b1_eq (tgt := 47) C jX6_readFork_42 (by decide) (fun h42 => ?_) (fun h42 => ?_)
          · exact absurd h42 (by decide)
          · refine sg0 C foX6 coX6 oX6_readFork_45 rfl rfl rfl ?_
            refine Wa.wid (k1 := usd S (prK S rc go i f t) i / 4) (k2 := 5 * (usd S (prK S rc go i f t) i / 4)) (Nat.zero_le _) (Nat.zero_le _) ?_
            exact rt_n C hr (Or.inl ⟨_, rfl⟩) hlk jX6_readFork_46 (fun H hH => Or.inl ⟨1, S.length, i + 1 + 1, ⟨by unfold prK; rw [if_neg (by omega), if_neg (by omega), if_pos (by omega)], rfl, rfl⟩, hH⟩)
        · refine b1_eq (tgt := 47) C jX6_readFork_42 (by decide) (fun h42 => ?_) (fun h42 => ?_)
          · refine sg0 C foX6 coX6 oX6_readFork_47 rfl rfl rfl ?_
            refine cl_v C (kX6_number hAD hN (i := i + 1 + 1) (j := 2) hS hlen (by decide) hl39) (rcv (ci := 5) C.2.1 rfl rfl) cd_X6_number in_X6 ml_X6_49 im_X6_number se_X6_number hd_X6_number rfl rfl ⟨by show 1 + 1 ≤ k + 1; omega, by show 8 + (5 + 11) + 40 * (1) ≤ 40 * (k + 1); omega⟩ ⟨by show 0 + 0 ≤ usd S (prK S rc go i f t) i / 4; omega, by show 0 + 0 ≤ 5 * (usd S (prK S rc go i f t) i / 4); omega⟩ (Nat.le_of_ble_eq_true rfl) jX6_readFork_49 (fun v ws' => Wa.and (fun hv => ?_))
            obtain ⟨rfl, rfl⟩ := hv
            have h2b := (oc_at hoc (show i + 2 < S.length by omega)).2
            have h3b := (oc_at hoc (show i + 3 < S.length by omega)).2
            have hnm2 : (nmF S 2 (i + 1 + 1) 0).toInt32 = nI (oc S (i + 2) * 256 + oc S (i + 3)) := nm2 hoc (by omega)
            have hp1 := Nat.two_pow_pos (15 - oc S (i + 1))
            have hp3 : 2 ^ (16 - oc S (i + 1)) = 2 ^ (15 - oc S (i + 1)) * 2 := by rw [← Nat.pow_succ]; congr 1; omega
            have hp4 : 2 ^ (16 - oc S (i + 1)) ≤ 65536 := Nat.le_trans (Nat.pow_le_pow_right (n := 2) (j := 16) (by decide) (by omega)) (by decide)
            have hm2 : (2 : Int32) * nI (2 ^ (15 - oc S (i + 1))) = nI (2 ^ (16 - oc S (i + 1))) := by rw [show (2 : Int32) = nI 2 from rfl, pk_mul, hp3, Nat.mul_comm]
            refine sg0 C foX6 coX6 oX6_readFork_52 rfl rfl rfl ?_
            rw [hnm2, one_shl15 hB]
            refine cl_sn C (kX8_stemOf hAD rfl hN (P := (oc S (i + 2) * 256 + oc S (i + 3))) (B := oc S (i + 1)) (by omega) (by omega)) cd_X8_stemOf in_X8 (by decide) sm_X8_stemOf hd_X8_stemOf rfl rfl ⟨by show 0 + 1 ≤ k + 1; omega, by show 8 + (2 + 11) + 40 * (0) ≤ 40 * (k + 1); omega⟩ ⟨by show 0 + 0 ≤ usd S (prK S rc go i f t) i / 4; omega, by show 0 + 0 ≤ 5 * (usd S (prK S rc go i f t) i / 4); omega⟩ (Nat.le_of_ble_eq_true rfl) jX6_readFork_70 (fun v ws' => Wa.and (fun hv => ?_))
            obtain ⟨rfl, rfl⟩ := hv
            have hsl := stm_le (oc S (i + 2) * 256 + oc S (i + 3)) (oc S (i + 1))
            refine b2_ne (tgt := 101) C jX6_readFork_73 (by decide) (fun h73 => ?_) (fun h73 => ?_)
            · have hx : ¬ stm (oc S (i + 2) * 256 + oc S (i + 3)) (oc S (i + 1)) = (oc S (i + 2) * 256 + oc S (i + 3)) := fun e9 => h73 (by rw [e9])
              refine sg0 C foX6 coX6 oX6_readFork_101 rfl rfl rfl ?_
              rw [show (2 : Int32) = nI 2 from rfl, pk_sub (show 2 ≤ i + 1 + 1 + 2 by omega), show i + 1 + 1 + 2 - 2 = i + 2 by omega]
              refine cl_v C (kX6_refuse hAD hN 4 (nI (i + 2))) (rcv (ci := 5) C.2.1 rfl rfl) cd_X6_refuse in_X6 ml_X6_35 im_X6_refuse se_X6_refuse hd_X6_refuse rfl rfl ⟨by show 0 + 1 ≤ k + 1; omega, by show 8 + (3 + 11) + 40 * (0) ≤ 40 * (k + 1); omega⟩ ⟨by show 0 + 0 ≤ usd S (prK S rc go i f t) i / 4; omega, by show 0 + 0 ≤ 5 * (usd S (prK S rc go i f t) i / 4); omega⟩ (Nat.le_of_ble_eq_true rfl) jX6_readFork_109 (fun v ws' => Wa.and (fun hv => ?_))
              obtain ⟨rfl, rfl⟩ := hv
              refine Wa.wid (k1 := usd S (prK S rc go i f t) i / 4) (k2 := 5 * (usd S (prK S rc go i f t) i / 4)) (Nat.zero_le _) (Nat.zero_le _) ?_
              exact rt_n C hr (Or.inl ⟨_, rfl⟩) hlk jX6_readFork_112 (fun H hH => Or.inl ⟨4, i + 2, i + 1 + 1 + 2, ⟨by unfold prK; rw [if_neg (by omega), if_neg (by omega), if_neg (by omega), if_neg (fun e9 => hx e9.1)], rfl, rfl⟩, hH⟩)
            · have hx : stm (oc S (i + 2) * 256 + oc S (i + 3)) (oc S (i + 1)) = (oc S (i + 2) * 256 + oc S (i + 3)) := ((nI_eq (by omega) (by omega)).mp h73).symm
              refine sg0 C foX6 coX6 oX6_readFork_76 rfl rfl rfl ?_
              refine b2_lt (tgt := 101) C jX6_readFork_79 (by decide) (fun h79 => ?_) (fun h79 => ?_)
              · have hx2 : (oc S (i + 2) * 256 + oc S (i + 3)) < f := (nI_ltI (by omega) (by omega)).mp h79
                refine sg0 C foX6 coX6 oX6_readFork_101 rfl rfl rfl ?_
                rw [show (2 : Int32) = nI 2 from rfl, pk_sub (show 2 ≤ i + 1 + 1 + 2 by omega), show i + 1 + 1 + 2 - 2 = i + 2 by omega]
                refine cl_v C (kX6_refuse hAD hN 4 (nI (i + 2))) (rcv (ci := 5) C.2.1 rfl rfl) cd_X6_refuse in_X6 ml_X6_35 im_X6_refuse se_X6_refuse hd_X6_refuse rfl rfl ⟨by show 0 + 1 ≤ k + 1; omega, by show 8 + (3 + 11) + 40 * (0) ≤ 40 * (k + 1); omega⟩ ⟨by show 0 + 0 ≤ usd S (prK S rc go i f t) i / 4; omega, by show 0 + 0 ≤ 5 * (usd S (prK S rc go i f t) i / 4); omega⟩ (Nat.le_of_ble_eq_true rfl) jX6_readFork_109 (fun v ws' => Wa.and (fun hv => ?_))
                obtain ⟨rfl, rfl⟩ := hv
                refine Wa.wid (k1 := usd S (prK S rc go i f t) i / 4) (k2 := 5 * (usd S (prK S rc go i f t) i / 4)) (Nat.zero_le _) (Nat.zero_le _) ?_
                exact rt_n C hr (Or.inl ⟨_, rfl⟩) hlk jX6_readFork_112 (fun H hH => Or.inl ⟨4, i + 2, i + 1 + 1 + 2, ⟨by unfold prK; rw [if_neg (by omega), if_neg (by omega), if_neg (by omega), if_neg (fun e9 => absurd e9.2.1 (by omega))], rfl, rfl⟩, hH⟩)
              · have hx2 : f ≤ (oc S (i + 2) * 256 + oc S (i + 3)) := Nat.not_lt.mp fun q => h79 ((nI_ltI (by omega) (by omega)).mpr q)
                refine sg0 C foX6 coX6 oX6_readFork_82 rfl rfl rfl ?_
                rw [hm2, nI_add, show (1 : Int32) = nI 1 from rfl, pk_sub (show 1 ≤ (oc S (i + 2) * 256 + oc S (i + 3)) + 2 ^ (16 - oc S (i + 1)) by omega)]
                refine b2_gt (tgt := 101) C jX6_readFork_92 (by decide) (fun h92 => ?_) (fun h92 => ?_)
                · have hx3 : t < ((oc S (i + 2) * 256 + oc S (i + 3)) + 2 ^ (16 - oc S (i + 1)) - 1) := (nI_ltI (by omega) (by omega)).mp h92
                  refine sg0 C foX6 coX6 oX6_readFork_101 rfl rfl rfl ?_
                  rw [show (2 : Int32) = nI 2 from rfl, pk_sub (show 2 ≤ i + 1 + 1 + 2 by omega), show i + 1 + 1 + 2 - 2 = i + 2 by omega]
                  refine cl_v C (kX6_refuse hAD hN 4 (nI (i + 2))) (rcv (ci := 5) C.2.1 rfl rfl) cd_X6_refuse in_X6 ml_X6_35 im_X6_refuse se_X6_refuse hd_X6_refuse rfl rfl ⟨by show 0 + 1 ≤ k + 1; omega, by show 8 + (3 + 11) + 40 * (0) ≤ 40 * (k + 1); omega⟩ ⟨by show 0 + 0 ≤ usd S (prK S rc go i f t) i / 4; omega, by show 0 + 0 ≤ 5 * (usd S (prK S rc go i f t) i / 4); omega⟩ (Nat.le_of_ble_eq_true rfl) jX6_readFork_109 (fun v ws' => Wa.and (fun hv => ?_))
                  obtain ⟨rfl, rfl⟩ := hv
                  refine Wa.wid (k1 := usd S (prK S rc go i f t) i / 4) (k2 := 5 * (usd S (prK S rc go i f t) i / 4)) (Nat.zero_le _) (Nat.zero_le _) ?_
                  exact rt_n C hr (Or.inl ⟨_, rfl⟩) hlk jX6_readFork_112 (fun H hH => Or.inl ⟨4, i + 2, i + 1 + 1 + 2, ⟨by unfold prK; rw [if_neg (by omega), if_neg (by omega), if_neg (by omega), if_neg (fun e9 => absurd e9.2.2.1 (by omega))], rfl, rfl⟩, hH⟩)
                · have hx3 : ((oc S (i + 2) * 256 + oc S (i + 3)) + 2 ^ (16 - oc S (i + 1)) - 1) ≤ t := Nat.not_lt.mp fun q => h92 ((nI_ltI (by omega) (by omega)).mpr q)
                  refine sg0 C foX6 coX6 oX6_readFork_95 rfl rfl rfl ?_
                  refine b2_lt (tgt := 113) C jX6_readFork_98 (by decide) (fun h98 => ?_) (fun h98 => ?_)
                  · have hx4 : d < 16 := (nI_ltI (by omega) (by decide)).mp (show nI d < nI 16 from h98)
                    have hc := And.intro hx (And.intro hx2 (And.intro hx3 (hgo.mpr hx4)))
                    have hu1 := prK_u1 (S := S) (rc := rc) (go := go) (f := f) (t := t) hrc (by omega) hB hc
                    refine sg0 C foX6 coX6 oX6_readFork_113 rfl rfl rfl ?_
                    rw [nI_add, show (1 : Int32) = nI 1 from rfl, pk_sub (show 1 ≤ ((oc S (i + 2) * 256 + oc S (i + 3)) + 2 ^ (15 - oc S (i + 1))) by omega), nI_add d 1]
                    refine cl_v C (hrec hx4 N (i + 4) (oc S (i + 2) * 256 + oc S (i + 3)) ((oc S (i + 2) * 256 + oc S (i + 3)) + 2 ^ (15 - oc S (i + 1)) - 1) hN (by omega) (by omega) (by omega)) (rcv (ci := 5) C.2.1 rfl rfl) cd_X6_readNode in_X6 ml_X6_26 im_X6_readNode se_X6_readNode hd_X6_readNode rfl rfl ⟨by show k + 1 ≤ k + 1; omega, by show 8 + (4 + 11) + 40 * (k) ≤ 40 * (k + 1); omega⟩ ⟨by show 0 + usd S (rc (i + 4) (oc S (i + 2) * 256 + oc S (i + 3)) ((oc S (i + 2) * 256 + oc S (i + 3)) + 2 ^ (15 - oc S (i + 1)) - 1)) (i + 4) / 4 ≤ usd S (prK S rc go i f t) i / 4; omega, by show 0 + 5 * (usd S (rc (i + 4) (oc S (i + 2) * 256 + oc S (i + 3)) ((oc S (i + 2) * 256 + oc S (i + 3)) + 2 ^ (15 - oc S (i + 1)) - 1)) (i + 4) / 4) ≤ 5 * (usd S (prK S rc go i f t) i / 4); omega⟩ (Nat.le_of_ble_eq_true rfl) jX6_readFork_126 (fun v ws' => Wa.or (Wa.ex (fun ca1 => Wa.ex (fun cb1 => Wa.ex (fun ci1 => Wa.and (fun hv => ?_))))) (Wa.ex (fun T1 => Wa.and (fun hv => ?_))))
                    skip
                    · obtain ⟨e1, rfl, rfl⟩ := hv
                      refine sg0 C foX6 coX6 oX6_readFork_129 rfl rfl rfl ?_
                      refine bnn_n C jX6_readFork_133 ?_
                      refine sg0 C foX6 coX6 oX6_readFork_136 rfl rfl rfl ?_
                      refine Wa.wid (k1 := usd S (prK S rc go i f t) i / 4) (k2 := 5 * (usd S (prK S rc go i f t) i / 4)) (by show 0 + usd S (rc (i + 4) (oc S (i + 2) * 256 + oc S (i + 3)) ((oc S (i + 2) * 256 + oc S (i + 3)) + 2 ^ (15 - oc S (i + 1)) - 1)) (i + 4) / 4 ≤ _; omega) (by show 0 + 5 * (usd S (rc (i + 4) (oc S (i + 2) * 256 + oc S (i + 3)) ((oc S (i + 2) * 256 + oc S (i + 3)) + 2 ^ (15 - oc S (i + 1)) - 1)) (i + 4) / 4) ≤ _; omega) ?_
                      exact rt_n C hr (Or.inl ⟨_, rfl⟩) hlk jX6_readFork_137 (fun H hH => Or.inl ⟨ca1, cb1, ci1, ⟨by unfold prK; rw [if_neg (by omega), if_neg (by omega), if_neg (by omega), if_pos hc, e1], rfl, rfl⟩, hH⟩)
                    · obtain ⟨U1, i1, e1, rfl, rfl, hs1⟩ := hv
                      have hN1 := hN.and (nodeAt.ns (D := D) T1)
                      have C := C.to (N2 := fun H => N H ∧ nodeAt D H T1) hN1
                      have hi1 := hrc _ _ _ _ _ e1
                      have hu2 := prK_u2 (S := S) (rc := rc) (go := go) (f := f) (t := t) hrc (by omega) hB hc e1
                      refine sg0 C foX6 coX6 oX6_readFork_129 rfl rfl rfl ?_
                      refine bnn_r (tgt := 138) C jX6_readFork_133 (by decide) ?_
                      refine sg0 C foX6 coX6 oX6_readFork_138 rfl rfl rfl ?_
                      rw [hm2, nI_add, nI_add, show (1 : Int32) = nI 1 from rfl, pk_sub (show 1 ≤ (oc S (i + 2) * 256 + oc S (i + 3)) + 2 ^ (16 - oc S (i + 1)) by omega), nI_add d 1]
                      refine cl_v C (hrec hx4 _ i1 ((oc S (i + 2) * 256 + oc S (i + 3)) + 2 ^ (15 - oc S (i + 1))) ((oc S (i + 2) * 256 + oc S (i + 3)) + 2 ^ (16 - oc S (i + 1)) - 1) hN1 (by omega) (by omega) (by omega)) (rcv (ci := 5) C.2.1 rfl rfl) cd_X6_readNode in_X6 ml_X6_26 im_X6_readNode se_X6_readNode hd_X6_readNode rfl rfl ⟨by show k + 1 ≤ k + 1; omega, by show 8 + (4 + 11) + 40 * (k) ≤ 40 * (k + 1); omega⟩ ⟨by show 0 + usd S (rc (i + 4) (oc S (i + 2) * 256 + oc S (i + 3)) ((oc S (i + 2) * 256 + oc S (i + 3)) + 2 ^ (15 - oc S (i + 1)) - 1)) (i + 4) / 4 + usd S (rc i1 ((oc S (i + 2) * 256 + oc S (i + 3)) + 2 ^ (15 - oc S (i + 1))) ((oc S (i + 2) * 256 + oc S (i + 3)) + 2 ^ (16 - oc S (i + 1)) - 1)) i1 / 4 ≤ usd S (prK S rc go i f t) i / 4; omega, by show 0 + 5 * (usd S (rc (i + 4) (oc S (i + 2) * 256 + oc S (i + 3)) ((oc S (i + 2) * 256 + oc S (i + 3)) + 2 ^ (15 - oc S (i + 1)) - 1)) (i + 4) / 4) + 5 * (usd S (rc i1 ((oc S (i + 2) * 256 + oc S (i + 3)) + 2 ^ (15 - oc S (i + 1))) ((oc S (i + 2) * 256 + oc S (i + 3)) + 2 ^ (16 - oc S (i + 1)) - 1)) i1 / 4) ≤ 5 * (usd S (prK S rc go i f t) i / 4); omega⟩ (Nat.le_of_ble_eq_true rfl) jX6_readFork_156 (fun v ws' => Wa.or (Wa.ex (fun ca1 => Wa.ex (fun cb1 => Wa.ex (fun ci1 => Wa.and (fun hv => ?_))))) (Wa.ex (fun T2 => Wa.and (fun hv => ?_))))
                      skip
                      · obtain ⟨e2, rfl, rfl⟩ := hv
                        refine sg0 C foX6 coX6 oX6_readFork_159 rfl rfl rfl ?_
                        refine bnn_n C jX6_readFork_163 ?_
                        refine sg0 C foX6 coX6 oX6_readFork_166 rfl rfl rfl ?_
                        refine Wa.wid (k1 := usd S (prK S rc go i f t) i / 4) (k2 := 5 * (usd S (prK S rc go i f t) i / 4)) (by show 0 + usd S (rc (i + 4) (oc S (i + 2) * 256 + oc S (i + 3)) ((oc S (i + 2) * 256 + oc S (i + 3)) + 2 ^ (15 - oc S (i + 1)) - 1)) (i + 4) / 4 + usd S (rc i1 ((oc S (i + 2) * 256 + oc S (i + 3)) + 2 ^ (15 - oc S (i + 1))) ((oc S (i + 2) * 256 + oc S (i + 3)) + 2 ^ (16 - oc S (i + 1)) - 1)) i1 / 4 ≤ _; omega) (by show 0 + 5 * (usd S (rc (i + 4) (oc S (i + 2) * 256 + oc S (i + 3)) ((oc S (i + 2) * 256 + oc S (i + 3)) + 2 ^ (15 - oc S (i + 1)) - 1)) (i + 4) / 4) + 5 * (usd S (rc i1 ((oc S (i + 2) * 256 + oc S (i + 3)) + 2 ^ (15 - oc S (i + 1))) ((oc S (i + 2) * 256 + oc S (i + 3)) + 2 ^ (16 - oc S (i + 1)) - 1)) i1 / 4) ≤ _; omega) ?_
                        exact rt_n C hr (Or.inl ⟨_, rfl⟩) hlk jX6_readFork_185 (fun H hH => Or.inl ⟨ca1, cb1, ci1, ⟨by unfold prK; rw [if_neg (by omega), if_neg (by omega), if_neg (by omega), if_pos hc, e1]; simp only [e2], rfl, rfl⟩, hH.1⟩)
                      · obtain ⟨U2, i2, e2, rfl, rfl, hs2⟩ := hv
                        have hN2 := hN1.and (nodeAt.ns (D := D) T2)
                        have C := C.to (N2 := fun H => (N H ∧ nodeAt D H T1) ∧ nodeAt D H T2) hN2
                        have hi2 := hrc _ _ _ _ _ e2
                        refine sg0 C foX6 coX6 oX6_readFork_159 rfl rfl rfl ?_
                        refine bnn_r (tgt := 170) C jX6_readFork_163 (by decide) ?_
                        refine nw (ci := 1) (fs := [.long 0, .int 0, .int 0, .null, .null]) C hN2 rfl (by decide) kl_X6_76 is_X1 in_X1 tyX1 tyX1_ok dfX1 ⟨by show 0 + usd S (rc (i + 4) (oc S (i + 2) * 256 + oc S (i + 3)) ((oc S (i + 2) * 256 + oc S (i + 3)) + 2 ^ (15 - oc S (i + 1)) - 1)) (i + 4) / 4 + usd S (rc i1 ((oc S (i + 2) * 256 + oc S (i + 3)) + 2 ^ (15 - oc S (i + 1))) ((oc S (i + 2) * 256 + oc S (i + 3)) + 2 ^ (16 - oc S (i + 1)) - 1)) i1 / 4 + 1 ≤ usd S (prK S rc go i f t) i / 4; omega, by show 0 + 5 * (usd S (rc (i + 4) (oc S (i + 2) * 256 + oc S (i + 3)) ((oc S (i + 2) * 256 + oc S (i + 3)) + 2 ^ (15 - oc S (i + 1)) - 1)) (i + 4) / 4) + 5 * (usd S (rc i1 ((oc S (i + 2) * 256 + oc S (i + 3)) + 2 ^ (15 - oc S (i + 1))) ((oc S (i + 2) * 256 + oc S (i + 3)) + 2 ^ (16 - oc S (i + 1)) - 1)) i1 / 4) + 5 ≤ 5 * (usd S (prK S rc go i f t) i / 4); omega⟩ jX6_readFork_170 (fun H1 q1 hN_q1 hq1 => ?_)
                        have C := C.to (N2 := BN D H1 q1 1 [.long 0, .int 0, .int 0, .null, .null]) BN.ns
                        refine sg0 C foX6 coX6 oX6_readFork_173 rfl rfl rfl ?_
                        refine cl_i C (kX1_init hAD rfl (hww _ _ _) (oc S (i + 1)) (oc S (i + 2) * 256 + oc S (i + 3)) hN_q1.1.2 hN_q1.2) (C.2.2.2.2.2 _ hq1) cd_X1_init in_X1 ml_X6_78 im_X1_init rfl hd_X1_init rfl rfl ⟨by show 2 + 1 ≤ k + 1; omega, by show 8 + (5 + 11) + 40 * (2) ≤ 40 * (k + 1); omega⟩ ⟨by show 0 + usd S (rc (i + 4) (oc S (i + 2) * 256 + oc S (i + 3)) ((oc S (i + 2) * 256 + oc S (i + 3)) + 2 ^ (15 - oc S (i + 1)) - 1)) (i + 4) / 4 + usd S (rc i1 ((oc S (i + 2) * 256 + oc S (i + 3)) + 2 ^ (15 - oc S (i + 1))) ((oc S (i + 2) * 256 + oc S (i + 3)) + 2 ^ (16 - oc S (i + 1)) - 1)) i1 / 4 + 1 + 0 ≤ usd S (prK S rc go i f t) i / 4; omega, by show 0 + 5 * (usd S (rc (i + 4) (oc S (i + 2) * 256 + oc S (i + 3)) ((oc S (i + 2) * 256 + oc S (i + 3)) + 2 ^ (15 - oc S (i + 1)) - 1)) (i + 4) / 4) + 5 * (usd S (rc i1 ((oc S (i + 2) * 256 + oc S (i + 3)) + 2 ^ (15 - oc S (i + 1))) ((oc S (i + 2) * 256 + oc S (i + 3)) + 2 ^ (16 - oc S (i + 1)) - 1)) i1 / 4) + 5 + 0 ≤ 5 * (usd S (prK S rc go i f t) i / 4); omega⟩ (Nat.le_of_ble_eq_true rfl) jX6_readFork_182 (fun v ws' => Wa.and (fun hv => ?_))
                        obtain ⟨rfl, rfl⟩ := hv
                        have C := C.to (N2 := BN D H1 q1 1 [.long (forkF (oc S (i + 1)) (oc S (i + 2) * 256 + oc S (i + 3)) (dig T1) (dig T2)), .int (nI (oc S (i + 1))), .int (nI (oc S (i + 2) * 256 + oc S (i + 3))), .ref (adr T1), .ref (adr T2)]) BN.ns
                        refine Wa.wid (k1 := usd S (prK S rc go i f t) i / 4) (k2 := 5 * (usd S (prK S rc go i f t) i / 4)) (by show 0 + usd S (rc (i + 4) (oc S (i + 2) * 256 + oc S (i + 3)) ((oc S (i + 2) * 256 + oc S (i + 3)) + 2 ^ (15 - oc S (i + 1)) - 1)) (i + 4) / 4 + usd S (rc i1 ((oc S (i + 2) * 256 + oc S (i + 3)) + 2 ^ (15 - oc S (i + 1))) ((oc S (i + 2) * 256 + oc S (i + 3)) + 2 ^ (16 - oc S (i + 1)) - 1)) i1 / 4 + 1 + 0 ≤ _; omega) (by show 0 + 5 * (usd S (rc (i + 4) (oc S (i + 2) * 256 + oc S (i + 3)) ((oc S (i + 2) * 256 + oc S (i + 3)) + 2 ^ (15 - oc S (i + 1)) - 1)) (i + 4) / 4) + 5 * (usd S (rc i1 ((oc S (i + 2) * 256 + oc S (i + 3)) + 2 ^ (15 - oc S (i + 1))) ((oc S (i + 2) * 256 + oc S (i + 3)) + 2 ^ (16 - oc S (i + 1)) - 1)) i1 / 4) + 5 + 0 ≤ _; omega) ?_
                        exact rt_a C hr (Or.inl ⟨_, rfl⟩) hlk jX6_readFork_185 (fun H hH => Or.inr ⟨tF q1 (oc S (i + 1)) (oc S (i + 2) * 256 + oc S (i + 3)) T1 T2, ⟨tF 0 (oc S (i + 1)) (oc S (i + 2) * 256 + oc S (i + 3)) U1 U2, i2, by unfold prK; rw [if_neg (by omega), if_neg (by omega), if_neg (by omega), if_pos hc, e1]; simp only [e2], rfl, rfl, by simp only [strp, hs1, hs2]⟩, hN _ _ hN_q1.1.1 hH.2.1, hH.2.2, nodeAt.ns T1 _ _ hN_q1.1.2 hH.2.1, nodeAt.ns T2 _ _ hN_q1.2 hH.2.1⟩)
                  · have hx4 : ¬ d < 16 := fun q => h98 (show nI d < nI 16 from nI_lt q (by decide))
                    refine sg0 C foX6 coX6 oX6_readFork_101 rfl rfl rfl ?_
                    rw [show (2 : Int32) = nI 2 from rfl, pk_sub (show 2 ≤ i + 1 + 1 + 2 by omega), show i + 1 + 1 + 2 - 2 = i + 2 by omega]
                    refine cl_v C (kX6_refuse hAD hN 4 (nI (i + 2))) (rcv (ci := 5) C.2.1 rfl rfl) cd_X6_refuse in_X6 ml_X6_35 im_X6_refuse se_X6_refuse hd_X6_refuse rfl rfl ⟨by show 0 + 1 ≤ k + 1; omega, by show 8 + (3 + 11) + 40 * (0) ≤ 40 * (k + 1); omega⟩ ⟨by show 0 + 0 ≤ usd S (prK S rc go i f t) i / 4; omega, by show 0 + 0 ≤ 5 * (usd S (prK S rc go i f t) i / 4); omega⟩ (Nat.le_of_ble_eq_true rfl) jX6_readFork_109 (fun v ws' => Wa.and (fun hv => ?_))
                    obtain ⟨rfl, rfl⟩ := hv
                    refine Wa.wid (k1 := usd S (prK S rc go i f t) i / 4) (k2 := 5 * (usd S (prK S rc go i f t) i / 4)) (Nat.zero_le _) (Nat.zero_le _) ?_
                    exact rt_n C hr (Or.inl ⟨_, rfl⟩) hlk jX6_readFork_112 (fun H hH => Or.inl ⟨4, i + 2, i + 1 + 1 + 2, ⟨by unfold prK; rw [if_neg (by omega), if_neg (by omega), if_neg (by omega), if_neg (fun e9 => hx4 (hgo.mp e9.2.2.2))], rfl, rfl⟩, hH⟩)
          · exact absurd rfl h42
      · have hB : 16 ≤ oc S (i + 1) := Nat.not_lt.mp fun q9 => h22 (show nI (oc S (i + 1)) < nI 16 from nI_lt q9 (by decide))
        refine sg0 C foX6 coX6 oX6_readFork_25 rfl rfl rfl ?_
        rw [show (1 : Int32) = nI 1 from rfl, pk_sub (show 1 ≤ i + 1 + 1 by omega), show i + 1 + 1 - 1 = i + 1 by omega]
        refine cl_v C (kX6_refuse hAD hN 3 (nI (i + 1))) (rcv (ci := 5) C.2.1 rfl rfl) cd_X6_refuse in_X6 ml_X6_35 im_X6_refuse se_X6_refuse hd_X6_refuse rfl rfl ⟨by show 0 + 1 ≤ k + 1; omega, by show 8 + (3 + 11) + 40 * (0) ≤ 40 * (k + 1); omega⟩ ⟨by show 0 + 0 ≤ usd S (prK S rc go i f t) i / 4; omega, by show 0 + 0 ≤ 5 * (usd S (prK S rc go i f t) i / 4); omega⟩ (Nat.le_of_ble_eq_true rfl) jX6_readFork_33 (fun v ws' => Wa.and (fun hv => ?_))
        obtain ⟨rfl, rfl⟩ := hv
        refine Wa.wid (k1 := usd S (prK S rc go i f t) i / 4) (k2 := 5 * (usd S (prK S rc go i f t) i / 4)) (Nat.zero_le _) (Nat.zero_le _) ?_
        exact rt_n C hr (Or.inl ⟨_, rfl⟩) hlk jX6_readFork_36 (fun H hH => Or.inl ⟨3, i + 1, i + 2, ⟨by unfold prK; rw [if_neg (by omega), if_pos hB], rfl, rfl⟩, hH⟩)
    · exact absurd rfl h5
end
section
variable {l : Launch} {D : va_G} {ca : Nat → ClassId} {ad : Nat → Nat} {N : Heap → Prop} {c0 c1 c2 c3 c4 c7 c8 : va_E} {S : List Int32} {to : Nat → Int32} {fa fp : Int32}
set_option maxRecDepth 100000 in
set_option maxHeartbeats 4000000 in
theorem kX6_node1 (hAD : AD ad 10) (hN : NS D N) {i f t d g : Nat} {w : Bool} (hS : tpR to S) (hlen : S.length ≤ 4000) (hoc : ocOk S) (hww : ∀ (i : Nat) (fa fp : Int32), ((c0 :: c1 :: c2 :: c3 :: c4 :: .inr (6, [.ref 6, .int (nI S.length)]) :: .inl (0, 4000, .inl to) :: c7 :: c8 :: .inr (5, [.ref 5, .int (nI i), .int fa, .int fp]) :: []) : List va_E).all nno = true) (hi : i ≤ S.length) (hf : f < 65536) (ht : t < 65536) (hd : d + g = 16) (hw : w = true ↔ d = 0) (hfork : ∀ {N : Heap → Prop} {i f t : Nat}, NS D N → i < S.length → f < 65536 → t < 65536 → Ct l yX6_readFork cX6_readFork 9 (some (.object "PathProofs$Node")) (rK (2 * g + 5) (usd S (prK S (rcg S g).1 (rcg S g).2 i f t) i / 4) (5 * (usd S (prK S (rcg S g).1 (rcg S g).2 i f t) i / 4))) D ca ad (c0 :: c1 :: c2 :: c3 :: c4 :: .inr (6, [.ref 6, .int (nI S.length)]) :: .inl (0, 4000, .inl to) :: c7 :: c8 :: .inr (5, [.ref 5, .int (nI (i + 1)), .int fa, .int fp]) :: []) 10 [.ref 9, .int (nI f), .int (nI t), .int (nI d)] N (rdG D N (fun i fa fp => (c0 :: c1 :: c2 :: c3 :: c4 :: .inr (6, [.ref 6, .int (nI S.length)]) :: .inl (0, 4000, .inl to) :: c7 :: c8 :: .inr (5, [.ref 5, .int (nI i), .int fa, .int fp]) :: [])) fa fp (prK S (rcg S g).1 (rcg S g).2 i f t))) : Ct l yX6_readNode cX6_readNode 4 (some (.object "PathProofs$Node")) (rK (2 * g + 6) (usd S (prs S g i f t w) i / 4 + (if w = true then 1 else 0)) (5 * (usd S (prs S g i f t w) i / 4 + (if w = true then 1 else 0)))) D ca ad (c0 :: c1 :: c2 :: c3 :: c4 :: .inr (6, [.ref 6, .int (nI S.length)]) :: .inl (0, 4000, .inl to) :: c7 :: c8 :: .inr (5, [.ref 5, .int (nI i), .int fa, .int fp]) :: []) 10 [.ref 9, .int (nI f), .int (nI t), .int (nI d)] N (rdG D N (fun i fa fp => (c0 :: c1 :: c2 :: c3 :: c4 :: .inr (6, [.ref 6, .int (nI S.length)]) :: .inl (0, 4000, .inl to) :: c7 :: c8 :: .inr (5, [.ref 5, .int (nI i), .int fa, .int fp]) :: [])) fa fp (prs S g i f t w)) := by
  rcases (show oc S i = 0 ∨ oc S i = 1 ∨ oc S i = 2 ∨ oc S i = 3 ∨ 4 ≤ oc S i by omega) with ho | ho | ho | ho | ho
  · refine enter (lv := [(0, .ref 9), (1, .int (nI f)), (2, .int (nI t)), (3, .int (nI d))]) (by decide +kernel) (Nat.le_of_ble_eq_true rfl) rfl hAD (fun U hK => ns_write hK hN) ?_
    intro p e s m below meth c A args hA C hr hlk hnm
    refine sg0 C foX6 coX6 oX6_readNode_0 rfl rfl rfl ?_
    refine cl_v C (kX6_lacks hAD hN (i := i) (j := 1) hlen (by omega) (by decide)) (rcv (ci := 5) C.2.1 rfl rfl) cd_X6_lacks in_X6 ml_X6_45 im_X6_lacks se_X6_lacks hd_X6_lacks rfl rfl ⟨by show 1 + 1 ≤ 2 * g + 6; omega, by show 8 + (2 + 11) + 40 * (1) ≤ 40 * (2 * g + 6); omega⟩ ⟨by show 0 + 0 ≤ (usd S (prs S g i f t w) i / 4 + (if w = true then 1 else 0)); omega, by show 0 + 0 ≤ 5 * (usd S (prs S g i f t w) i / 4 + (if w = true then 1 else 0)); omega⟩ (Nat.le_of_ble_eq_true rfl) jX6_readNode_2 (fun v ws' => Wa.and (fun hv => ?_))
    rcases hv with ⟨hl2, rfl, rfl⟩ | ⟨hl2, rfl, rfl⟩
    · refine b1_eq (tgt := 10) C jX6_readNode_5 (by decide) (fun h5 => ?_) (fun h5 => ?_)
      · exact absurd h5 (by decide)
      · refine sg0 C foX6 coX6 oX6_readNode_8 rfl rfl rfl ?_
        refine Wa.wid (k1 := (usd S (prs S g i f t w) i / 4 + (if w = true then 1 else 0))) (k2 := 5 * (usd S (prs S g i f t w) i / 4 + (if w = true then 1 else 0))) (Nat.zero_le _) (Nat.zero_le _) ?_
        exact rt_n C hr (Or.inl ⟨_, rfl⟩) hlk jX6_readNode_9 (fun H hH => Or.inl ⟨1, S.length, i, ⟨by rw [prs_eq]; unfold prN; rw [if_pos (by omega)], rfl, rfl⟩, hH⟩)
    · refine b1_eq (tgt := 10) C jX6_readNode_5 (by decide) (fun h5 => ?_) (fun h5 => ?_)
      · refine sg0 C foX6 coX6 oX6_readNode_10 rfl rfl rfl ?_
        refine cl_v C (kX6_number hAD hN (i := i) (j := 1) hS hlen (by decide) hl2) (rcv (ci := 5) C.2.1 rfl rfl) cd_X6_number in_X6 ml_X6_49 im_X6_number se_X6_number hd_X6_number rfl rfl ⟨by show 1 + 1 ≤ 2 * g + 6; omega, by show 8 + (5 + 11) + 40 * (1) ≤ 40 * (2 * g + 6); omega⟩ ⟨by show 0 + 0 ≤ (usd S (prs S g i f t w) i / 4 + (if w = true then 1 else 0)); omega, by show 0 + 0 ≤ 5 * (usd S (prs S g i f t w) i / 4 + (if w = true then 1 else 0)); omega⟩ (Nat.le_of_ble_eq_true rfl) jX6_readNode_12 (fun v ws' => Wa.and (fun hv => ?_))
        obtain ⟨rfl, rfl⟩ := hv
        have h1b := (oc_at hoc (show i < S.length by omega)).2
        have hnm1 : (nmF S 1 i 0).toInt32 = nI (oc S i) := nm1 hoc (by omega)
        refine sg0 C foX6 coX6 oX6_readNode_15 rfl rfl rfl ?_
        rw [hnm1, ho]
        refine tbI (off := 32) (tgt := 48) C jX6_readNode_16 (by decide) (by decide) (by decide) (by decide) ?_
        refine sg0 C foX6 coX6 oX6_readNode_48 rfl rfl rfl ?_
        refine cl_v C (kX6_lacks hAD hN (i := i + 1) (j := 8) hlen (by omega) (by decide)) (rcv (ci := 5) C.2.1 rfl rfl) cd_X6_lacks in_X6 ml_X6_45 im_X6_lacks se_X6_lacks hd_X6_lacks rfl rfl ⟨by show 1 + 1 ≤ 2 * g + 6; omega, by show 8 + (2 + 11) + 40 * (1) ≤ 40 * (2 * g + 6); omega⟩ ⟨by show 0 + 0 ≤ (usd S (prs S g i f t w) i / 4 + (if w = true then 1 else 0)); omega, by show 0 + 0 ≤ 5 * (usd S (prs S g i f t w) i / 4 + (if w = true then 1 else 0)); omega⟩ (Nat.le_of_ble_eq_true rfl) jX6_readNode_51 (fun v ws' => Wa.and (fun hv => ?_))
        rcases hv with ⟨hl51, rfl, rfl⟩ | ⟨hl51, rfl, rfl⟩
        · refine b1_eq (tgt := 61) C jX6_readNode_54 (by decide) (fun h54 => ?_) (fun h54 => ?_)
          · exact absurd h54 (by decide)
          · refine sg0 C foX6 coX6 oX6_readNode_57 rfl rfl rfl ?_
            refine Wa.wid (k1 := (usd S (prs S g i f t w) i / 4 + (if w = true then 1 else 0))) (k2 := 5 * (usd S (prs S g i f t w) i / 4 + (if w = true then 1 else 0))) (Nat.zero_le _) (Nat.zero_le _) ?_
            exact rt_n C hr (Or.inl ⟨_, rfl⟩) hlk jX6_readNode_74 (fun H hH => Or.inl ⟨1, S.length, i + 1, ⟨by rw [prs_eq]; unfold prN; rw [if_neg (by omega), if_pos ho, if_pos (by omega)], rfl, rfl⟩, hH⟩)
        · refine b1_eq (tgt := 61) C jX6_readNode_54 (by decide) (fun h54 => ?_) (fun h54 => ?_)
          · have hres : prs S g i f t w = .inr (tH 0 (nmF S 8 (i + 1) 0), i + 9) := by rw [prs_eq]; unfold prN; rw [if_neg (by omega), if_pos ho, if_neg (by omega)]
            have hu : usd S (prs S g i f t w) i / 4 = 2 := by rw [hres]; show (i + 9 - i) / 4 = 2; omega
            refine nw (ci := 2) (fs := [.long 0]) C hN rfl (by decide) kl_X6_53 is_X2 in_X2 tyX2 tyX2_ok (fun j hj => by rcases (show j = 0 from Nat.lt_one_iff.mp hj) with rfl; rfl) ⟨by show 0 + 1 ≤ (usd S (prs S g i f t w) i / 4 + (if w = true then 1 else 0)); omega, by show 0 + 1 ≤ 5 * (usd S (prs S g i f t w) i / 4 + (if w = true then 1 else 0)); omega⟩ jX6_readNode_61 (fun H1 q1 hN_q1 hq1 => ?_)
            have C := C.to (N2 := BN D H1 q1 2 [.long 0]) BN.ns
            refine sg0 C foX6 coX6 oX6_readNode_64 rfl rfl rfl ?_
            refine cl_v C (kX6_number hAD BN.ns (i := i + 1) (j := 8) hS hlen (by decide) hl51) (rcv (ci := 5) C.2.1 rfl rfl) cd_X6_number in_X6 ml_X6_49 im_X6_number se_X6_number hd_X6_number rfl rfl ⟨by show 1 + 1 ≤ 2 * g + 6; omega, by show 8 + (5 + 11) + 40 * (1) ≤ 40 * (2 * g + 6); omega⟩ ⟨by show 0 + 1 + 0 ≤ (usd S (prs S g i f t w) i / 4 + (if w = true then 1 else 0)); omega, by show 0 + 1 + 0 ≤ 5 * (usd S (prs S g i f t w) i / 4 + (if w = true then 1 else 0)); omega⟩ (Nat.le_of_ble_eq_true rfl) jX6_readNode_68 (fun v ws' => Wa.and (fun hv => ?_))
            obtain ⟨rfl, rfl⟩ := hv
            refine cl_i C (kX2_init hAD rfl (hww _ _ _) (nmF S 8 (i + 1) 0)) (C.2.2.2.2.2 _ hq1) cd_X2_init in_X2 ml_X6_55 im_X2_init rfl hd_X2_init rfl rfl ⟨by show 2 + 1 ≤ 2 * g + 6; omega, by show 8 + (3 + 11) + 40 * (2) ≤ 40 * (2 * g + 6); omega⟩ ⟨by show 0 + 1 + 0 + 0 ≤ (usd S (prs S g i f t w) i / 4 + (if w = true then 1 else 0)); omega, by show 0 + 1 + 0 + 0 ≤ 5 * (usd S (prs S g i f t w) i / 4 + (if w = true then 1 else 0)); omega⟩ (Nat.le_of_ble_eq_true rfl) jX6_readNode_71 (fun v ws' => Wa.and (fun hv => ?_))
            obtain ⟨rfl, rfl⟩ := hv
            have C := C.to (N2 := BN D H1 q1 2 [.long (nmF S 8 (i + 1) 0)]) BN.ns
            refine Wa.wid (k1 := (usd S (prs S g i f t w) i / 4 + (if w = true then 1 else 0))) (k2 := 5 * (usd S (prs S g i f t w) i / 4 + (if w = true then 1 else 0))) (by show 0 + 1 + 0 + 0 ≤ (usd S (prs S g i f t w) i / 4 + (if w = true then 1 else 0)); omega) (by show 0 + 1 + 0 + 0 ≤ 5 * (usd S (prs S g i f t w) i / 4 + (if w = true then 1 else 0)); omega) ?_
            exact rt_a C hr (Or.inl ⟨_, rfl⟩) hlk jX6_readNode_74 (fun H hH => Or.inr ⟨tH q1 (nmF S 8 (i + 1) 0), ⟨_, _, hres, rfl, rfl, rfl⟩, hN _ _ hN_q1 hH.2.1, hH.2.2⟩)
          · exact absurd rfl h54
      · exact absurd rfl h5
  · refine enter (lv := [(0, .ref 9), (1, .int (nI f)), (2, .int (nI t)), (3, .int (nI d))]) (by decide +kernel) (Nat.le_of_ble_eq_true rfl) rfl hAD (fun U hK => ns_write hK hN) ?_
    intro p e s m below meth c A args hA C hr hlk hnm
    refine sg0 C foX6 coX6 oX6_readNode_0 rfl rfl rfl ?_
    refine cl_v C (kX6_lacks hAD hN (i := i) (j := 1) hlen (by omega) (by decide)) (rcv (ci := 5) C.2.1 rfl rfl) cd_X6_lacks in_X6 ml_X6_45 im_X6_lacks se_X6_lacks hd_X6_lacks rfl rfl ⟨by show 1 + 1 ≤ 2 * g + 6; omega, by show 8 + (2 + 11) + 40 * (1) ≤ 40 * (2 * g + 6); omega⟩ ⟨by show 0 + 0 ≤ (usd S (prs S g i f t w) i / 4 + (if w = true then 1 else 0)); omega, by show 0 + 0 ≤ 5 * (usd S (prs S g i f t w) i / 4 + (if w = true then 1 else 0)); omega⟩ (Nat.le_of_ble_eq_true rfl) jX6_readNode_2 (fun v ws' => Wa.and (fun hv => ?_))
    rcases hv with ⟨hl2, rfl, rfl⟩ | ⟨hl2, rfl, rfl⟩
    · refine b1_eq (tgt := 10) C jX6_readNode_5 (by decide) (fun h5 => ?_) (fun h5 => ?_)
      · exact absurd h5 (by decide)
      · refine sg0 C foX6 coX6 oX6_readNode_8 rfl rfl rfl ?_
        refine Wa.wid (k1 := (usd S (prs S g i f t w) i / 4 + (if w = true then 1 else 0))) (k2 := 5 * (usd S (prs S g i f t w) i / 4 + (if w = true then 1 else 0))) (Nat.zero_le _) (Nat.zero_le _) ?_
        exact rt_n C hr (Or.inl ⟨_, rfl⟩) hlk jX6_readNode_9 (fun H hH => Or.inl ⟨1, S.length, i, ⟨by rw [prs_eq]; unfold prN; rw [if_pos (by omega)], rfl, rfl⟩, hH⟩)
    · refine b1_eq (tgt := 10) C jX6_readNode_5 (by decide) (fun h5 => ?_) (fun h5 => ?_)
      · refine sg0 C foX6 coX6 oX6_readNode_10 rfl rfl rfl ?_
        refine cl_v C (kX6_number hAD hN (i := i) (j := 1) hS hlen (by decide) hl2) (rcv (ci := 5) C.2.1 rfl rfl) cd_X6_number in_X6 ml_X6_49 im_X6_number se_X6_number hd_X6_number rfl rfl ⟨by show 1 + 1 ≤ 2 * g + 6; omega, by show 8 + (5 + 11) + 40 * (1) ≤ 40 * (2 * g + 6); omega⟩ ⟨by show 0 + 0 ≤ (usd S (prs S g i f t w) i / 4 + (if w = true then 1 else 0)); omega, by show 0 + 0 ≤ 5 * (usd S (prs S g i f t w) i / 4 + (if w = true then 1 else 0)); omega⟩ (Nat.le_of_ble_eq_true rfl) jX6_readNode_12 (fun v ws' => Wa.and (fun hv => ?_))
        obtain ⟨rfl, rfl⟩ := hv
        have h1b := (oc_at hoc (show i < S.length by omega)).2
        have hnm1 : (nmF S 1 i 0).toInt32 = nI (oc S i) := nm1 hoc (by omega)
        refine sg0 C foX6 coX6 oX6_readNode_15 rfl rfl rfl ?_
        rw [hnm1, ho]
        refine tbI (off := 59) (tgt := 75) C jX6_readNode_16 (by decide) (by decide) (by decide) (by decide) ?_
        have hres : (prs S g i f t w) = (prK S (rcg S g).1 (rcg S g).2 i f t) := by rw [prs_eq]; unfold prN; rw [if_neg (by omega), if_neg (by omega), if_pos ho]
        have hule : usd S (prK S (rcg S g).1 (rcg S g).2 i f t) i / 4 ≤ (usd S (prs S g i f t w) i / 4 + (if w = true then 1 else 0)) := by rw [hres]; omega
        refine sg0 C foX6 coX6 oX6_readNode_75 rfl rfl rfl ?_
        refine cl_v C (hfork hN (by omega) hf ht) (rcv (ci := 5) C.2.1 rfl rfl) cd_X6_readFork in_X6 ml_X6_58 im_X6_readFork se_X6_readFork hd_X6_readFork rfl rfl ⟨by show 2 * g + 5 + 1 ≤ 2 * g + 6; omega, by show 8 + (9 + 11) + 40 * (2 * g + 5) ≤ 40 * (2 * g + 6); omega⟩ ⟨by show 0 + usd S (prK S (rcg S g).1 (rcg S g).2 i f t) i / 4 ≤ (usd S (prs S g i f t w) i / 4 + (if w = true then 1 else 0)); omega, by show 0 + 5 * (usd S (prK S (rcg S g).1 (rcg S g).2 i f t) i / 4) ≤ 5 * (usd S (prs S g i f t w) i / 4 + (if w = true then 1 else 0)); omega⟩ (Nat.le_of_ble_eq_true rfl) jX6_readNode_79 (fun v ws' => Wa.or (Wa.ex (fun ca1 => Wa.ex (fun cb1 => Wa.ex (fun ci1 => Wa.and (fun hv => ?_))))) (Wa.ex (fun T1 => Wa.and (fun hv => ?_))))
        skip
        · obtain ⟨e1, rfl, rfl⟩ := hv
          refine Wa.wid (k1 := (usd S (prs S g i f t w) i / 4 + (if w = true then 1 else 0))) (k2 := 5 * (usd S (prs S g i f t w) i / 4 + (if w = true then 1 else 0))) (by show 0 + usd S (prK S (rcg S g).1 (rcg S g).2 i f t) i / 4 ≤ (usd S (prs S g i f t w) i / 4 + (if w = true then 1 else 0)); omega) (by show 0 + 5 * (usd S (prK S (rcg S g).1 (rcg S g).2 i f t) i / 4) ≤ 5 * (usd S (prs S g i f t w) i / 4 + (if w = true then 1 else 0)); omega) ?_
          exact rt_n C hr (Or.inl ⟨_, rfl⟩) hlk jX6_readNode_82 (fun H hH => Or.inl ⟨ca1, cb1, ci1, ⟨hres.trans e1, rfl, rfl⟩, hH⟩)
        · obtain ⟨U1, i1, e1, rfl, rfl, hs1⟩ := hv
          have C := C.to (N2 := fun H => N H ∧ nodeAt D H T1) (hN.and (nodeAt.ns (D := D) T1))
          refine Wa.wid (k1 := (usd S (prs S g i f t w) i / 4 + (if w = true then 1 else 0))) (k2 := 5 * (usd S (prs S g i f t w) i / 4 + (if w = true then 1 else 0))) (by show 0 + usd S (prK S (rcg S g).1 (rcg S g).2 i f t) i / 4 ≤ (usd S (prs S g i f t w) i / 4 + (if w = true then 1 else 0)); omega) (by show 0 + 5 * (usd S (prK S (rcg S g).1 (rcg S g).2 i f t) i / 4) ≤ 5 * (usd S (prs S g i f t w) i / 4 + (if w = true then 1 else 0)); omega) ?_
          exact rt_a C hr (Or.inl ⟨_, rfl⟩) hlk jX6_readNode_82 (fun H hH => Or.inr ⟨T1, ⟨U1, i1, hres.trans e1, rfl, rfl, hs1⟩, hH.1, hH.2⟩)
      · exact absurd rfl h5
  · refine enter (lv := [(0, .ref 9), (1, .int (nI f)), (2, .int (nI t)), (3, .int (nI d))]) (by decide +kernel) (Nat.le_of_ble_eq_true rfl) rfl hAD (fun U hK => ns_write hK hN) ?_
    intro p e s m below meth c A args hA C hr hlk hnm
    refine sg0 C foX6 coX6 oX6_readNode_0 rfl rfl rfl ?_
    refine cl_v C (kX6_lacks hAD hN (i := i) (j := 1) hlen (by omega) (by decide)) (rcv (ci := 5) C.2.1 rfl rfl) cd_X6_lacks in_X6 ml_X6_45 im_X6_lacks se_X6_lacks hd_X6_lacks rfl rfl ⟨by show 1 + 1 ≤ 2 * g + 6; omega, by show 8 + (2 + 11) + 40 * (1) ≤ 40 * (2 * g + 6); omega⟩ ⟨by show 0 + 0 ≤ (usd S (prs S g i f t w) i / 4 + (if w = true then 1 else 0)); omega, by show 0 + 0 ≤ 5 * (usd S (prs S g i f t w) i / 4 + (if w = true then 1 else 0)); omega⟩ (Nat.le_of_ble_eq_true rfl) jX6_readNode_2 (fun v ws' => Wa.and (fun hv => ?_))
    rcases hv with ⟨hl2, rfl, rfl⟩ | ⟨hl2, rfl, rfl⟩
    · refine b1_eq (tgt := 10) C jX6_readNode_5 (by decide) (fun h5 => ?_) (fun h5 => ?_)
      · exact absurd h5 (by decide)
      · refine sg0 C foX6 coX6 oX6_readNode_8 rfl rfl rfl ?_
        refine Wa.wid (k1 := (usd S (prs S g i f t w) i / 4 + (if w = true then 1 else 0))) (k2 := 5 * (usd S (prs S g i f t w) i / 4 + (if w = true then 1 else 0))) (Nat.zero_le _) (Nat.zero_le _) ?_
        exact rt_n C hr (Or.inl ⟨_, rfl⟩) hlk jX6_readNode_9 (fun H hH => Or.inl ⟨1, S.length, i, ⟨by rw [prs_eq]; unfold prN; rw [if_pos (by omega)], rfl, rfl⟩, hH⟩)
    · refine b1_eq (tgt := 10) C jX6_readNode_5 (by decide) (fun h5 => ?_) (fun h5 => ?_)
      · refine sg0 C foX6 coX6 oX6_readNode_10 rfl rfl rfl ?_
        refine cl_v C (kX6_number hAD hN (i := i) (j := 1) hS hlen (by decide) hl2) (rcv (ci := 5) C.2.1 rfl rfl) cd_X6_number in_X6 ml_X6_49 im_X6_number se_X6_number hd_X6_number rfl rfl ⟨by show 1 + 1 ≤ 2 * g + 6; omega, by show 8 + (5 + 11) + 40 * (1) ≤ 40 * (2 * g + 6); omega⟩ ⟨by show 0 + 0 ≤ (usd S (prs S g i f t w) i / 4 + (if w = true then 1 else 0)); omega, by show 0 + 0 ≤ 5 * (usd S (prs S g i f t w) i / 4 + (if w = true then 1 else 0)); omega⟩ (Nat.le_of_ble_eq_true rfl) jX6_readNode_12 (fun v ws' => Wa.and (fun hv => ?_))
        obtain ⟨rfl, rfl⟩ := hv
        have h1b := (oc_at hoc (show i < S.length by omega)).2
        have hnm1 : (nmF S 1 i 0).toInt32 = nI (oc S i) := nm1 hoc (by omega)
        refine sg0 C foX6 coX6 oX6_readNode_15 rfl rfl rfl ?_
        rw [hnm1, ho]
        refine tbI (off := 67) (tgt := 83) C jX6_readNode_16 (by decide) (by decide) (by decide) (by decide) ?_
        have hres : (prs S g i f t w) = prL S i f t := by rw [prs_eq]; unfold prN; rw [if_neg (by omega), if_neg (by omega), if_neg (by omega), if_pos ho]
        have hule : usd S (prL S i f t) i / 4 ≤ (usd S (prs S g i f t w) i / 4 + (if w = true then 1 else 0)) := by rw [hres]; omega
        refine sg0 C foX6 coX6 oX6_readNode_83 rfl rfl rfl ?_
        refine cl_v C (kX6_readLeaf hAD hN hS hlen hoc hww (by omega) hf ht) (rcv (ci := 5) C.2.1 rfl rfl) cd_X6_readLeaf in_X6 ml_X6_61 im_X6_readLeaf se_X6_readLeaf hd_X6_readLeaf rfl rfl ⟨by show 3 + 1 ≤ 2 * g + 6; omega, by show 8 + (4 + 11) + 40 * 3 ≤ 40 * (2 * g + 6); omega⟩ ⟨by show 0 + usd S (prL S i f t) i / 4 ≤ (usd S (prs S g i f t w) i / 4 + (if w = true then 1 else 0)); omega, by show 0 + 5 * (usd S (prL S i f t) i / 4) ≤ 5 * (usd S (prs S g i f t w) i / 4 + (if w = true then 1 else 0)); omega⟩ (Nat.le_of_ble_eq_true rfl) jX6_readNode_86 (fun v ws' => Wa.or (Wa.ex (fun ca1 => Wa.ex (fun cb1 => Wa.ex (fun ci1 => Wa.and (fun hv => ?_))))) (Wa.ex (fun T1 => Wa.and (fun hv => ?_))))
        skip
        · obtain ⟨e1, rfl, rfl⟩ := hv
          refine Wa.wid (k1 := (usd S (prs S g i f t w) i / 4 + (if w = true then 1 else 0))) (k2 := 5 * (usd S (prs S g i f t w) i / 4 + (if w = true then 1 else 0))) (by show 0 + usd S (prL S i f t) i / 4 ≤ (usd S (prs S g i f t w) i / 4 + (if w = true then 1 else 0)); omega) (by show 0 + 5 * (usd S (prL S i f t) i / 4) ≤ 5 * (usd S (prs S g i f t w) i / 4 + (if w = true then 1 else 0)); omega) ?_
          exact rt_n C hr (Or.inl ⟨_, rfl⟩) hlk jX6_readNode_89 (fun H hH => Or.inl ⟨ca1, cb1, ci1, ⟨hres.trans e1, rfl, rfl⟩, hH⟩)
        · obtain ⟨U1, i1, e1, rfl, rfl, hs1⟩ := hv
          have C := C.to (N2 := fun H => N H ∧ nodeAt D H T1) (hN.and (nodeAt.ns (D := D) T1))
          refine Wa.wid (k1 := (usd S (prs S g i f t w) i / 4 + (if w = true then 1 else 0))) (k2 := 5 * (usd S (prs S g i f t w) i / 4 + (if w = true then 1 else 0))) (by show 0 + usd S (prL S i f t) i / 4 ≤ (usd S (prs S g i f t w) i / 4 + (if w = true then 1 else 0)); omega) (by show 0 + 5 * (usd S (prL S i f t) i / 4) ≤ 5 * (usd S (prs S g i f t w) i / 4 + (if w = true then 1 else 0)); omega) ?_
          exact rt_a C hr (Or.inl ⟨_, rfl⟩) hlk jX6_readNode_89 (fun H hH => Or.inr ⟨T1, ⟨U1, i1, hres.trans e1, rfl, rfl, hs1⟩, hH.1, hH.2⟩)
      · exact absurd rfl h5
  · refine enter (lv := [(0, .ref 9), (1, .int (nI f)), (2, .int (nI t)), (3, .int (nI d))]) (by decide +kernel) (Nat.le_of_ble_eq_true rfl) rfl hAD (fun U hK => ns_write hK hN) ?_
    intro p e s m below meth c A args hA C hr hlk hnm
    refine sg0 C foX6 coX6 oX6_readNode_0 rfl rfl rfl ?_
    refine cl_v C (kX6_lacks hAD hN (i := i) (j := 1) hlen (by omega) (by decide)) (rcv (ci := 5) C.2.1 rfl rfl) cd_X6_lacks in_X6 ml_X6_45 im_X6_lacks se_X6_lacks hd_X6_lacks rfl rfl ⟨by show 1 + 1 ≤ 2 * g + 6; omega, by show 8 + (2 + 11) + 40 * (1) ≤ 40 * (2 * g + 6); omega⟩ ⟨by show 0 + 0 ≤ (usd S (prs S g i f t w) i / 4 + (if w = true then 1 else 0)); omega, by show 0 + 0 ≤ 5 * (usd S (prs S g i f t w) i / 4 + (if w = true then 1 else 0)); omega⟩ (Nat.le_of_ble_eq_true rfl) jX6_readNode_2 (fun v ws' => Wa.and (fun hv => ?_))
    rcases hv with ⟨hl2, rfl, rfl⟩ | ⟨hl2, rfl, rfl⟩
    · refine b1_eq (tgt := 10) C jX6_readNode_5 (by decide) (fun h5 => ?_) (fun h5 => ?_)
      · exact absurd h5 (by decide)
      · refine sg0 C foX6 coX6 oX6_readNode_8 rfl rfl rfl ?_
        refine Wa.wid (k1 := (usd S (prs S g i f t w) i / 4 + (if w = true then 1 else 0))) (k2 := 5 * (usd S (prs S g i f t w) i / 4 + (if w = true then 1 else 0))) (Nat.zero_le _) (Nat.zero_le _) ?_
        exact rt_n C hr (Or.inl ⟨_, rfl⟩) hlk jX6_readNode_9 (fun H hH => Or.inl ⟨1, S.length, i, ⟨by rw [prs_eq]; unfold prN; rw [if_pos (by omega)], rfl, rfl⟩, hH⟩)
    · refine b1_eq (tgt := 10) C jX6_readNode_5 (by decide) (fun h5 => ?_) (fun h5 => ?_)
      · refine sg0 C foX6 coX6 oX6_readNode_10 rfl rfl rfl ?_
        refine cl_v C (kX6_number hAD hN (i := i) (j := 1) hS hlen (by decide) hl2) (rcv (ci := 5) C.2.1 rfl rfl) cd_X6_number in_X6 ml_X6_49 im_X6_number se_X6_number hd_X6_number rfl rfl ⟨by show 1 + 1 ≤ 2 * g + 6; omega, by show 8 + (5 + 11) + 40 * (1) ≤ 40 * (2 * g + 6); omega⟩ ⟨by show 0 + 0 ≤ (usd S (prs S g i f t w) i / 4 + (if w = true then 1 else 0)); omega, by show 0 + 0 ≤ 5 * (usd S (prs S g i f t w) i / 4 + (if w = true then 1 else 0)); omega⟩ (Nat.le_of_ble_eq_true rfl) jX6_readNode_12 (fun v ws' => Wa.and (fun hv => ?_))
        obtain ⟨rfl, rfl⟩ := hv
        have h1b := (oc_at hoc (show i < S.length by omega)).2
        have hnm1 : (nmF S 1 i 0).toInt32 = nI (oc S i) := nm1 hoc (by omega)
        refine sg0 C foX6 coX6 oX6_readNode_15 rfl rfl rfl ?_
        rw [hnm1, ho]
        refine tbI (off := 74) (tgt := 90) C jX6_readNode_16 (by decide) (by decide) (by decide) (by decide) ?_
        refine sg0 C foX6 coX6 oX6_readNode_90 rfl rfl rfl ?_
        refine b1_ne (tgt := 104) C jX6_readNode_91 (by decide) (fun h91 => ?_) (fun h91 => ?_)
        · have hdz : ¬ d = 0 := fun q => h91 (by rw [q]; rfl)
          refine sg0 C foX6 coX6 oX6_readNode_104 rfl rfl rfl ?_
          rw [show (1 : Int32) = nI 1 from rfl, pk_sub (show 1 ≤ i + 1 by omega), show i + 1 - 1 = i by omega]
          refine cl_v C (kX6_refuse hAD hN 2 (nI i)) (rcv (ci := 5) C.2.1 rfl rfl) cd_X6_refuse in_X6 ml_X6_35 im_X6_refuse se_X6_refuse hd_X6_refuse rfl rfl ⟨by show 0 + 1 ≤ 2 * g + 6; omega, by show 8 + (3 + 11) + 40 * (0) ≤ 40 * (2 * g + 6); omega⟩ ⟨by show 0 + 0 ≤ (usd S (prs S g i f t w) i / 4 + (if w = true then 1 else 0)); omega, by show 0 + 0 ≤ 5 * (usd S (prs S g i f t w) i / 4 + (if w = true then 1 else 0)); omega⟩ (Nat.le_of_ble_eq_true rfl) jX6_readNode_112 (fun v ws' => Wa.and (fun hv => ?_))
          obtain ⟨rfl, rfl⟩ := hv
          refine Wa.wid (k1 := (usd S (prs S g i f t w) i / 4 + (if w = true then 1 else 0))) (k2 := 5 * (usd S (prs S g i f t w) i / 4 + (if w = true then 1 else 0))) (Nat.zero_le _) (Nat.zero_le _) ?_
          exact rt_n C hr (Or.inl ⟨_, rfl⟩) hlk jX6_readNode_115 (fun H hH => Or.inl ⟨2, i, i + 1, ⟨by rw [prs_eq]; unfold prN; rw [if_neg (by omega), if_neg (by omega), if_neg (by omega), if_neg (by omega), if_neg (fun e9 => hdz (hw.mp e9.2))], rfl, rfl⟩, hH⟩)
        · have hdz : d = 0 := Decidable.byContradiction fun q => nI_ne0 (by omega) (by omega) h91
          have hwt := hw.mpr hdz
          have hu : (if w = true then 1 else 0) = 1 := if_pos hwt
          refine nw (ci := 0) (fs := [.long 0]) C hN rfl (by decide) kl_X6_64 is_X0 in_X0 tyX0 tyX0_ok (fun j hj => by rcases (show j = 0 from Nat.lt_one_iff.mp hj) with rfl; rfl) ⟨by show 0 + 1 ≤ (usd S (prs S g i f t w) i / 4 + (if w = true then 1 else 0)); omega, by show 0 + 1 ≤ 5 * (usd S (prs S g i f t w) i / 4 + (if w = true then 1 else 0)); omega⟩ jX6_readNode_94 (fun H1 q1 hN_q1 hq1 => ?_)
          have C := C.to (N2 := BN D H1 q1 0 [.long 0]) BN.ns
          refine sg0 C foX6 coX6 oX6_readNode_97 rfl rfl rfl ?_
          refine cl_i C (kX0_init hAD rfl (hww _ _ _)) (C.2.2.2.2.2 _ hq1) cd_X0_init in_X0 ml_X6_66 im_X0_init rfl hd_X0_init rfl rfl ⟨by show 2 + 1 ≤ 2 * g + 6; omega, by show 8 + (1 + 11) + 40 * (2) ≤ 40 * (2 * g + 6); omega⟩ ⟨by show 0 + 1 + 0 ≤ (usd S (prs S g i f t w) i / 4 + (if w = true then 1 else 0)); omega, by show 0 + 1 + 0 ≤ 5 * (usd S (prs S g i f t w) i / 4 + (if w = true then 1 else 0)); omega⟩ (Nat.le_of_ble_eq_true rfl) jX6_readNode_98 (fun v ws' => Wa.and (fun hv => ?_))
          obtain ⟨rfl, rfl⟩ := hv
          have C := C.to (N2 := BN D H1 q1 0 [.long emptyF]) BN.ns
          refine sg0 C foX6 coX6 oX6_readNode_101 rfl rfl rfl ?_
          refine Wa.wid (k1 := (usd S (prs S g i f t w) i / 4 + (if w = true then 1 else 0))) (k2 := 5 * (usd S (prs S g i f t w) i / 4 + (if w = true then 1 else 0))) (by show 0 + 1 + 0 ≤ (usd S (prs S g i f t w) i / 4 + (if w = true then 1 else 0)); omega) (by show 0 + 1 + 0 ≤ 5 * (usd S (prs S g i f t w) i / 4 + (if w = true then 1 else 0)); omega) ?_
          exact rt_a C hr (Or.inl ⟨_, rfl⟩) hlk jX6_readNode_115 (fun H hH => Or.inr ⟨tE q1, ⟨tE 0, i + 1, by rw [prs_eq]; unfold prN; rw [if_neg (by omega), if_neg (by omega), if_neg (by omega), if_neg (by omega), if_pos ⟨ho, hwt⟩], rfl, rfl, rfl⟩, hN _ _ hN_q1 hH.2.1, hH.2.2⟩)
      · exact absurd rfl h5
  · refine enter (lv := [(0, .ref 9), (1, .int (nI f)), (2, .int (nI t)), (3, .int (nI d))]) (by decide +kernel) (Nat.le_of_ble_eq_true rfl) rfl hAD (fun U hK => ns_write hK hN) ?_
    intro p e s m below meth c A args hA C hr hlk hnm
    refine sg0 C foX6 coX6 oX6_readNode_0 rfl rfl rfl ?_
    refine cl_v C (kX6_lacks hAD hN (i := i) (j := 1) hlen (by omega) (by decide)) (rcv (ci := 5) C.2.1 rfl rfl) cd_X6_lacks in_X6 ml_X6_45 im_X6_lacks se_X6_lacks hd_X6_lacks rfl rfl ⟨by show 1 + 1 ≤ 2 * g + 6; omega, by show 8 + (2 + 11) + 40 * (1) ≤ 40 * (2 * g + 6); omega⟩ ⟨by show 0 + 0 ≤ (usd S (prs S g i f t w) i / 4 + (if w = true then 1 else 0)); omega, by show 0 + 0 ≤ 5 * (usd S (prs S g i f t w) i / 4 + (if w = true then 1 else 0)); omega⟩ (Nat.le_of_ble_eq_true rfl) jX6_readNode_2 (fun v ws' => Wa.and (fun hv => ?_))
    rcases hv with ⟨hl2, rfl, rfl⟩ | ⟨hl2, rfl, rfl⟩
    · refine b1_eq (tgt := 10) C jX6_readNode_5 (by decide) (fun h5 => ?_) (fun h5 => ?_)
      · exact absurd h5 (by decide)
      · refine sg0 C foX6 coX6 oX6_readNode_8 rfl rfl rfl ?_
        refine Wa.wid (k1 := (usd S (prs S g i f t w) i / 4 + (if w = true then 1 else 0))) (k2 := 5 * (usd S (prs S g i f t w) i / 4 + (if w = true then 1 else 0))) (Nat.zero_le _) (Nat.zero_le _) ?_
        exact rt_n C hr (Or.inl ⟨_, rfl⟩) hlk jX6_readNode_9 (fun H hH => Or.inl ⟨1, S.length, i, ⟨by rw [prs_eq]; unfold prN; rw [if_pos (by omega)], rfl, rfl⟩, hH⟩)
    · refine b1_eq (tgt := 10) C jX6_readNode_5 (by decide) (fun h5 => ?_) (fun h5 => ?_)
      · refine sg0 C foX6 coX6 oX6_readNode_10 rfl rfl rfl ?_
        refine cl_v C (kX6_number hAD hN (i := i) (j := 1) hS hlen (by decide) hl2) (rcv (ci := 5) C.2.1 rfl rfl) cd_X6_number in_X6 ml_X6_49 im_X6_number se_X6_number hd_X6_number rfl rfl ⟨by show 1 + 1 ≤ 2 * g + 6; omega, by show 8 + (5 + 11) + 40 * (1) ≤ 40 * (2 * g + 6); omega⟩ ⟨by show 0 + 0 ≤ (usd S (prs S g i f t w) i / 4 + (if w = true then 1 else 0)); omega, by show 0 + 0 ≤ 5 * (usd S (prs S g i f t w) i / 4 + (if w = true then 1 else 0)); omega⟩ (Nat.le_of_ble_eq_true rfl) jX6_readNode_12 (fun v ws' => Wa.and (fun hv => ?_))
        obtain ⟨rfl, rfl⟩ := hv
        have h1b := (oc_at hoc (show i < S.length by omega)).2
        have hnm1 : (nmF S 1 i 0).toInt32 = nI (oc S i) := nm1 hoc (by omega)
        refine sg0 C foX6 coX6 oX6_readNode_15 rfl rfl rfl ?_
        rw [hnm1]
        refine tbO (tgt := 116) C jX6_readNode_16 (Or.inr (by rw [nI_toInt (by omega)]; omega)) (by decide) ?_
        refine sg0 C foX6 coX6 oX6_readNode_116 rfl rfl rfl ?_
        rw [show (1 : Int32) = nI 1 from rfl, pk_sub (show 1 ≤ i + 1 by omega), show i + 1 - 1 = i by omega]
        refine cl_v C (kX6_refuse hAD hN 2 (nI i)) (rcv (ci := 5) C.2.1 rfl rfl) cd_X6_refuse in_X6 ml_X6_35 im_X6_refuse se_X6_refuse hd_X6_refuse rfl rfl ⟨by show 0 + 1 ≤ 2 * g + 6; omega, by show 8 + (3 + 11) + 40 * (0) ≤ 40 * (2 * g + 6); omega⟩ ⟨by show 0 + 0 ≤ (usd S (prs S g i f t w) i / 4 + (if w = true then 1 else 0)); omega, by show 0 + 0 ≤ 5 * (usd S (prs S g i f t w) i / 4 + (if w = true then 1 else 0)); omega⟩ (Nat.le_of_ble_eq_true rfl) jX6_readNode_124 (fun v ws' => Wa.and (fun hv => ?_))
        obtain ⟨rfl, rfl⟩ := hv
        refine Wa.wid (k1 := (usd S (prs S g i f t w) i / 4 + (if w = true then 1 else 0))) (k2 := 5 * (usd S (prs S g i f t w) i / 4 + (if w = true then 1 else 0))) (Nat.zero_le _) (Nat.zero_le _) ?_
        exact rt_n C hr (Or.inl ⟨_, rfl⟩) hlk jX6_readNode_127 (fun H hH => Or.inl ⟨2, i, i + 1, ⟨by rw [prs_eq]; unfold prN; rw [if_neg (by omega), if_neg (by omega), if_neg (by omega), if_neg (by omega), if_neg (fun e9 => absurd e9.1 (by omega))], rfl, rfl⟩, hH⟩)
      · exact absurd rfl h5
set_option maxRecDepth 100000 in
set_option maxHeartbeats 4000000 in
theorem kX6_readNode (hAD : AD ad 10) (hS : tpR to S) (hlen : S.length ≤ 4000) (hoc : ocOk S) (hww : ∀ (i : Nat) (fa fp : Int32), ((c0 :: c1 :: c2 :: c3 :: c4 :: .inr (6, [.ref 6, .int (nI S.length)]) :: .inl (0, 4000, .inl to) :: c7 :: c8 :: .inr (5, [.ref 5, .int (nI i), .int fa, .int fp]) :: []) : List va_E).all nno = true) : ∀ (g d : Nat) (w : Bool) (N : Heap → Prop) (i f t : Nat), d + g = 16 → (w = true ↔ d = 0) → NS D N → i ≤ S.length → f < 65536 → t < 65536 → Ct l yX6_readNode cX6_readNode 4 (some (.object "PathProofs$Node")) (rK (2 * g + 6) (usd S (prs S g i f t w) i / 4 + (if w = true then 1 else 0)) (5 * (usd S (prs S g i f t w) i / 4 + (if w = true then 1 else 0)))) D ca ad (c0 :: c1 :: c2 :: c3 :: c4 :: .inr (6, [.ref 6, .int (nI S.length)]) :: .inl (0, 4000, .inl to) :: c7 :: c8 :: .inr (5, [.ref 5, .int (nI i), .int fa, .int fp]) :: []) 10 [.ref 9, .int (nI f), .int (nI t), .int (nI d)] N (rdG D N (fun i fa fp => (c0 :: c1 :: c2 :: c3 :: c4 :: .inr (6, [.ref 6, .int (nI S.length)]) :: .inl (0, 4000, .inl to) :: c7 :: c8 :: .inr (5, [.ref 5, .int (nI i), .int fa, .int fp]) :: [])) fa fp (prs S g i f t w)) := by
  intro g
  induction g with
  | zero =>
    intro d w N i f t hd hw hN hi hf ht
    refine kX6_node1 hAD hN hS hlen hoc hww hi hf ht hd hw ?_
    intro N i f t hN hi hf ht
    exact kX6_readFork hAD hN hS hlen hoc hww hi hf ht (k := 4) (by decide) (by omega) ⟨fun q => (by cases q), fun q => absurd q (by omega)⟩ (rcg_r 0) (fun q => absurd q (by omega))
  | succ g ih =>
    intro d w N i f t hd hw hN hi hf ht
    refine kX6_node1 hAD hN hS hlen hoc hww hi hf ht hd hw ?_
    intro N i f t hN hi hf ht
    refine kX6_readFork hAD hN hS hlen hoc hww hi hf ht (k := 2 * g + 6) (by omega) (by omega) ⟨fun _ => by omega, fun _ => rfl⟩ (rcg_r (g + 1)) (fun q N i f t hN hi hf ht => ?_)
    exact ih (d + 1) false N i f t (by omega) ⟨fun q => (by cases q), fun q => by omega⟩ hN hi hf ht
end
