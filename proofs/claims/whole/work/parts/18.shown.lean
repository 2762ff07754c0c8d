/-! what is shown, and the tape that becomes it -/
def shwT (Rg : List (Nat × Nat)) : Term → Nat → Nat → List Int32
  | .add (.arg _) .null, f, t => if meR Rg f t = true then octs 1 3 else octs 1 0 ++ octs 8 emptyF
  | .add (.arg _) (.long d), _, _ => octs 1 0 ++ octs 8 d
  | .add (.arg _) (.elem (.arg P) (.long v)), f, t => if meR Rg f t = true then octs 1 2 ++ (octs 2 (nI P).toInt64 ++ octs 8 v) else octs 1 0 ++ octs 8 (leafF P v)
  | .add (.arg _) (.sub (.elem (.arg B) (.arg S)) (.mul x y)), f, t => if meR Rg f t = true then octs 1 1 ++ (octs 1 (nI B).toInt64 ++ (octs 2 (nI S).toInt64 ++ (shwT Rg x S (S + 2 ^ (15 - B) - 1) ++ shwT Rg y (S + 2 ^ (15 - B)) (S + 2 ^ (16 - B) - 1)))) else octs 1 0 ++ octs 8 (forkF B S (dig x) (dig y))
  | _, _, _ => []
theorem strp_shw (Rg : List (Nat × Nat)) (T : Term) (h : isT T) : ∀ f t : Nat, shwT Rg (strp T) f t = shwT Rg T f t := by
  refine tr_ind (P := fun T => ∀ f t : Nat, shwT Rg (strp T) f t = shwT Rg T f t) ?_ ?_ ?_ ?_ T h
  · exact fun q f t => rfl
  · exact fun q d f t => rfl
  · exact fun q p v f t => rfl
  · exact fun q B S x y h1 h2 i1 i2 f t => by simp only [strp, shwT, i1, i2, strp_dig x h1, strp_dig y h2]
theorem shw_len (Rg : List (Nat × Nat)) (T : Term) (h : isT T) : ∀ f t k : Nat, fitT T k → (shwT Rg T f t).length + 4 ≤ 15 * 2 ^ (k + 1) := by
  have p1 : ∀ k : Nat, 2 ≤ 2 ^ (k + 1) := fun k => by
    have := Nat.two_pow_pos k
    rw [Nat.pow_succ]; omega
  refine tr_ind (P := fun T => ∀ f t k : Nat, fitT T k → (shwT Rg T f t).length + 4 ≤ 15 * 2 ^ (k + 1)) ?_ ?_ ?_ ?_ T h
  · intro q f t k _
    have := p1 k
    simp only [shwT]
    split <;> simp only [List.length_append, octs_len] <;> omega
  · intro q d f t k _
    have := p1 k
    simp only [shwT, List.length_append, octs_len]; omega
  · intro q p v f t k _
    have := p1 k
    simp only [shwT]
    split <;> simp only [List.length_append, octs_len] <;> omega
  · intro q B S x y h1 h2 i1 i2 f t k hf
    obtain ⟨⟨hB, hkB, hS, hstm⟩, hfx, hfy⟩ := fitF hf
    have a1 := i1 S (S + 2 ^ (15 - B) - 1) _ hfx
    have a2 := i2 (S + 2 ^ (15 - B)) (S + 2 ^ (16 - B) - 1) _ hfy
    have a3 : 2 ^ (15 - B + 1) * 2 ≤ 2 ^ (k + 1) := by
      rw [← Nat.pow_succ]; exact Nat.pow_le_pow_right (by decide) (by omega)
    have := p1 k
    simp only [shwT]
    split <;> simp only [List.length_append, octs_len] <;> omega
section
variable {l : Launch} {D : va_G} {ca : Nat → ClassId} {ad : Nat → Nat} {n : Nat}
set_option maxRecDepth 100000 in
set_option maxHeartbeats 4000000 in
theorem kX8_appendShown (hAD : AD ad n) {k0 k2 k3 k4 k6 k7 k8 : Value} {c1 c5 c6 : va_E} {rest : List va_E} (hn : 9 + rest.length = n) {ra rb : Nat → Int32} {Rg : List (Nat × Nat)} (hRg : rgR ra rb Rg) (T : Term) (hT : isT T) : ∀ (k d : Nat) (N : Heap → Prop) (f t : Nat) (S0 : List Int32) (so : Nat → Int32), fitT (T) k → d + k ≤ 16 → NS D N → (∀ H, N H → nodeAt D H (T)) → f < 65536 → t < 65536 → tpR so S0 → S0.length + 15 * 2 ^ (k + 1) ≤ 2 ^ 30 → Ct l yX8_appendShown cX8_appendShown 7 none (rK (k + 1) 0 0) D ca ad (.inr (7, [k0, .ref 2, k2, k3, k4, .ref 7, k6, k7, k8]) :: c1 :: .inr (4, [.ref 3, .ref 4, .int (nI Rg.length)]) :: .inl (0, 20, .inl ra) :: .inl (0, 20, .inl rb) :: c5 :: c6 :: .inr (6, [.ref 8, .int (nI S0.length)]) :: .inl (0, 4000, .inl so) :: rest) n [.ref 0, .ref (adr (T) + 100), .int (nI f), .int (nI t), .int (nI d)] N (fun r ws2 H => ∃ so2 : Nat → Int32, (r = none ∧ ws2 = (.inr (7, [k0, .ref 2, k2, k3, k4, .ref 7, k6, k7, k8]) :: c1 :: .inr (4, [.ref 3, .ref 4, .int (nI Rg.length)]) :: .inl (0, 20, .inl ra) :: .inl (0, 20, .inl rb) :: c5 :: c6 :: .inr (6, [.ref 8, .int (nI (S0 ++ shwT Rg (T) f t).length)]) :: .inl (0, 4000, .inl so2) :: rest) ∧ tpR so2 (S0 ++ shwT Rg (T) f t)) ∧ N H) := by
  have hn2 : ∀ (so2 : Nat → Int32) (L : Nat), ((.inr (7, [k0, .ref 2, k2, k3, k4, .ref 7, k6, k7, k8]) :: c1 :: .inr (4, [.ref 3, .ref 4, .int (nI Rg.length)]) :: .inl (0, 20, .inl ra) :: .inl (0, 20, .inl rb) :: c5 :: c6 :: .inr (6, [.ref 8, .int (nI L)]) :: .inl (0, 4000, .inl so2) :: rest) : List va_E).length = n := fun so2 L => by simp; omega
  refine tr_ind (P := fun T => ∀ (k d : Nat) (N : Heap → Prop) (f t : Nat) (S0 : List Int32) (so : Nat → Int32), fitT (T) k → d + k ≤ 16 → NS D N → (∀ H, N H → nodeAt D H (T)) → f < 65536 → t < 65536 → tpR so S0 → S0.length + 15 * 2 ^ (k + 1) ≤ 2 ^ 30 → Ct l yX8_appendShown cX8_appendShown 7 none (rK (k + 1) 0 0) D ca ad (.inr (7, [k0, .ref 2, k2, k3, k4, .ref 7, k6, k7, k8]) :: c1 :: .inr (4, [.ref 3, .ref 4, .int (nI Rg.length)]) :: .inl (0, 20, .inl ra) :: .inl (0, 20, .inl rb) :: c5 :: c6 :: .inr (6, [.ref 8, .int (nI S0.length)]) :: .inl (0, 4000, .inl so) :: rest) n [.ref 0, .ref (adr (T) + 100), .int (nI f), .int (nI t), .int (nI d)] N (fun r ws2 H => ∃ so2 : Nat → Int32, (r = none ∧ ws2 = (.inr (7, [k0, .ref 2, k2, k3, k4, .ref 7, k6, k7, k8]) :: c1 :: .inr (4, [.ref 3, .ref 4, .int (nI Rg.length)]) :: .inl (0, 20, .inl ra) :: .inl (0, 20, .inl rb) :: c5 :: c6 :: .inr (6, [.ref 8, .int (nI (S0 ++ shwT Rg (T) f t).length)]) :: .inl (0, 4000, .inl so2) :: rest) ∧ tpR so2 (S0 ++ shwT Rg (T) f t)) ∧ N H)) ?_ ?_ ?_ ?_ T hT
  · intro q k d N f t S0 so hfit hdk hN hx hf ht hS hlen
    have hp0 : 2 ≤ 2 ^ (k + 1) := by have := Nat.two_pow_pos k; rw [Nat.pow_succ]; omega
    refine enter (lv := [(0, .ref 0), (1, .ref (adr (tE q) + 100)), (2, .int (nI f)), (3, .int (nI t)), (4, .int (nI d))]) (by decide +kernel) (Nat.le_of_ble_eq_true rfl) rfl hAD (fun U hK => ns_write hK hN) ?_
    intro p e s m below meth c A args hA C hr hlk hnm
    refine sg0 C foX8 coX8 oX8_appendShown_0 rfl rfl (hn2 _ _) ?_
    refine ni_n (ci := 0) C (fun H hH => hx H hH) rfl kl_X8_134 (by decide) jX8_appendShown_1 ?_
    refine b1_ne (tgt := 19) C jX8_appendShown_4 (by decide) (fun h4 => ?_) (fun h4 => ?_)
    · exact absurd h4 (by decide)
    · refine sg0 C foX8 coX8 oX8_appendShown_7 rfl rfl (hn2 _ _) ?_
      refine cl_v C (kX5_meet hAD hN (show 5 + _ = n from by rw [← hn2 so S0.length]; simp; omega) hRg hf ht) (rcv (ci := 4) C.2.1 rfl rfl) cd_X5_meet in_X5 ml_X8_221 im_X5_meet se_X5_meet hd_X5_meet rfl rfl ⟨by show 0 + 1 ≤ k + 1; omega, by show 8 + (4 + 11) + 40 * 0 ≤ 40 * (k + 1); omega⟩ ⟨(Nat.le_of_ble_eq_true rfl), (Nat.le_of_ble_eq_true rfl)⟩ (Nat.le_of_ble_eq_true rfl) jX8_appendShown_13 (fun v ws' => Wa.and (fun hv => ?_))
      obtain ⟨rfl, rfl⟩ := hv
      refine b1_ne (tgt := 44) C jX8_appendShown_16 (by decide) (fun h16 => ?_) (fun h16 => ?_)
      · have hm : meR Rg f t = true := Decidable.byContradiction fun e1 => h16 (if_neg e1)
        refine sg0 C foX8 coX8 oX8_appendShown_44 rfl rfl (hn2 _ _) ?_
        refine ni_n (ci := 0) C (fun H hH => hx H hH) rfl kl_X8_167 (by decide) jX8_appendShown_45 ?_
        refine b1_eq (tgt := 152) C jX8_appendShown_48 (by decide) (fun h48 => ?_) (fun h48 => ?_)
        · refine sg0 C foX8 coX8 oX8_appendShown_152 rfl rfl (hn2 _ _) ?_
          refine ni_n (ci := 0) C (fun H hH => hx H hH) rfl kl_X8_65 (by decide) jX8_appendShown_153 ?_
          refine b1_eq (tgt := 207) C jX8_appendShown_156 (by decide) (fun h156 => ?_) (fun h156 => ?_)
          · refine sg0 C foX8 coX8 oX8_appendShown_207 rfl rfl (hn2 _ _) ?_
            refine cl_v C (kX7_append7 hAD hN (show 9 + rest.length = n from hn) (S := S0) hS 1 (by (try simp only [List.length_append, octs_len]); omega) (3)) (rcv (ci := 6) C.2.1 rfl rfl) cd_X7_append in_X7 ml_X8_107 im_X7_append se_X7_append hd_X7_append rfl rfl ⟨by show 0 + 1 ≤ k + 1; omega, by show 8 + (5 + 11) + 40 * 0 ≤ 40 * (k + 1); omega⟩ ⟨(Nat.le_of_ble_eq_true rfl), (Nat.le_of_ble_eq_true rfl)⟩ (Nat.le_of_ble_eq_true rfl) jX8_appendShown_215 (fun v ws' => Wa.ex (fun s1 => Wa.and (fun hv => ?_)))
            obtain ⟨rfl, rfl, hs1⟩ := hv
            exact rt_v C hr hlk jX8_appendShown_218 (fun H hH => ⟨s1, ⟨rfl, by rw [show shwT Rg (tE q) f t = octs 1 3 from by simp only [shwT]; rw [if_pos hm]]; (try simp only [List.append_assoc]), by rw [show shwT Rg (tE q) f t = octs 1 3 from by simp only [shwT]; rw [if_pos hm]]; simpa only [List.append_assoc] using hs1⟩, hH⟩)
          · exact absurd h156 (by decide)
        · exact absurd h48 (by decide)
      · have hm : ¬ meR Rg f t = true := fun e1 => by rw [if_pos e1] at h16; exact absurd h16 (by decide)
        refine sg0 C foX8 coX8 oX8_appendShown_19 rfl rfl (hn2 _ _) ?_
        refine cl_v C (kX7_append7 hAD hN (show 9 + rest.length = n from hn) (S := S0) hS 1 (by (try simp only [List.length_append, octs_len]); omega) (0)) (rcv (ci := 6) C.2.1 rfl rfl) cd_X7_append in_X7 ml_X8_107 im_X7_append se_X7_append hd_X7_append rfl rfl ⟨by show 0 + 1 ≤ k + 1; omega, by show 8 + (5 + 11) + 40 * 0 ≤ 40 * (k + 1); omega⟩ ⟨(Nat.le_of_ble_eq_true rfl), (Nat.le_of_ble_eq_true rfl)⟩ (Nat.le_of_ble_eq_true rfl) jX8_appendShown_25 (fun v ws' => Wa.ex (fun s1 => Wa.and (fun hv => ?_)))
        obtain ⟨rfl, rfl, hs1⟩ := hv
        refine sg0 C foX8 coX8 oX8_appendShown_28 rfl rfl (hn2 _ _) ?_
        refine ng (ci := 0) (k := 0) (v := .long (emptyF)) C (fun H hH => hx H hH) rfl (by decide) fl_X8_87 rfl jX8_appendShown_35 ?_
        refine cl_v C (kX7_append7 hAD hN (show 9 + rest.length = n from hn) (S := S0 ++ octs 1 0) hs1 8 (by (try simp only [List.length_append, octs_len]); omega) (emptyF)) (rcv (ci := 6) C.2.1 rfl rfl) cd_X7_append in_X7 ml_X8_107 im_X7_append se_X7_append hd_X7_append rfl rfl ⟨by show 0 + 1 ≤ k + 1; omega, by show 8 + (5 + 11) + 40 * 0 ≤ 40 * (k + 1); omega⟩ ⟨(Nat.le_of_ble_eq_true rfl), (Nat.le_of_ble_eq_true rfl)⟩ (Nat.le_of_ble_eq_true rfl) jX8_appendShown_38 (fun v ws' => Wa.ex (fun s2 => Wa.and (fun hv => ?_)))
        obtain ⟨rfl, rfl, hs2⟩ := hv
        refine sg0 C foX8 coX8 oX8_appendShown_41 rfl rfl (hn2 _ _) ?_
        exact rt_v C hr hlk jX8_appendShown_218 (fun H hH => ⟨s2, ⟨rfl, by rw [show shwT Rg (tE q) f t = octs 1 0 ++ octs 8 (emptyF) from by simp only [shwT]; rw [if_neg hm]]; (try simp only [List.append_assoc]), by rw [show shwT Rg (tE q) f t = octs 1 0 ++ octs 8 (emptyF) from by simp only [shwT]; rw [if_neg hm]]; simpa only [List.append_assoc] using hs2⟩, hH⟩)
  · intro q d0 k d N f t S0 so hfit hdk hN hx hf ht hS hlen
    have hp0 : 2 ≤ 2 ^ (k + 1) := by have := Nat.two_pow_pos k; rw [Nat.pow_succ]; omega
    refine enter (lv := [(0, .ref 0), (1, .ref (adr (tH q d0) + 100)), (2, .int (nI f)), (3, .int (nI t)), (4, .int (nI d))]) (by decide +kernel) (Nat.le_of_ble_eq_true rfl) rfl hAD (fun U hK => ns_write hK hN) ?_
    intro p e s m below meth c A args hA C hr hlk hnm
    refine sg0 C foX8 coX8 oX8_appendShown_0 rfl rfl (hn2 _ _) ?_
    refine ni_y (ci := 2) C (fun H hH => hx H hH) rfl kl_X8_134 (by decide) jX8_appendShown_1 ?_
    refine b1_ne (tgt := 19) C jX8_appendShown_4 (by decide) (fun h4 => ?_) (fun h4 => ?_)
    · refine sg0 C foX8 coX8 oX8_appendShown_19 rfl rfl (hn2 _ _) ?_
      refine cl_v C (kX7_append7 hAD hN (show 9 + rest.length = n from hn) (S := S0) hS 1 (by (try simp only [List.length_append, octs_len]); omega) (0)) (rcv (ci := 6) C.2.1 rfl rfl) cd_X7_append in_X7 ml_X8_107 im_X7_append se_X7_append hd_X7_append rfl rfl ⟨by show 0 + 1 ≤ k + 1; omega, by show 8 + (5 + 11) + 40 * 0 ≤ 40 * (k + 1); omega⟩ ⟨(Nat.le_of_ble_eq_true rfl), (Nat.le_of_ble_eq_true rfl)⟩ (Nat.le_of_ble_eq_true rfl) jX8_appendShown_25 (fun v ws' => Wa.ex (fun s1 => Wa.and (fun hv => ?_)))
      obtain ⟨rfl, rfl, hs1⟩ := hv
      refine sg0 C foX8 coX8 oX8_appendShown_28 rfl rfl (hn2 _ _) ?_
      refine ng (ci := 2) (k := 0) (v := .long (d0)) C (fun H hH => hx H hH) rfl (by decide) fl_X8_87 rfl jX8_appendShown_35 ?_
      refine cl_v C (kX7_append7 hAD hN (show 9 + rest.length = n from hn) (S := S0 ++ octs 1 0) hs1 8 (by (try simp only [List.length_append, octs_len]); omega) (d0)) (rcv (ci := 6) C.2.1 rfl rfl) cd_X7_append in_X7 ml_X8_107 im_X7_append se_X7_append hd_X7_append rfl rfl ⟨by show 0 + 1 ≤ k + 1; omega, by show 8 + (5 + 11) + 40 * 0 ≤ 40 * (k + 1); omega⟩ ⟨(Nat.le_of_ble_eq_true rfl), (Nat.le_of_ble_eq_true rfl)⟩ (Nat.le_of_ble_eq_true rfl) jX8_appendShown_38 (fun v ws' => Wa.ex (fun s2 => Wa.and (fun hv => ?_)))
      obtain ⟨rfl, rfl, hs2⟩ := hv
      refine sg0 C foX8 coX8 oX8_appendShown_41 rfl rfl (hn2 _ _) ?_
      exact rt_v C hr hlk jX8_appendShown_218 (fun H hH => ⟨s2, ⟨rfl, by rw [show shwT Rg (tH q d0) f t = octs 1 0 ++ octs 8 (d0) from rfl]; (try simp only [List.append_assoc]), by rw [show shwT Rg (tH q d0) f t = octs 1 0 ++ octs 8 (d0) from rfl]; simpa only [List.append_assoc] using hs2⟩, hH⟩)
    · exact absurd h4 (by decide)
  · intro q P v0 k d N f t S0 so hfit hdk hN hx hf ht hS hlen
    have hp0 : 2 ≤ 2 ^ (k + 1) := by have := Nat.two_pow_pos k; rw [Nat.pow_succ]; omega
    have hP : P < 65536 := hfit
    refine enter (lv := [(0, .ref 0), (1, .ref (adr (tL q P v0) + 100)), (2, .int (nI f)), (3, .int (nI t)), (4, .int (nI d))]) (by decide +kernel) (Nat.le_of_ble_eq_true rfl) rfl hAD (fun U hK => ns_write hK hN) ?_
    intro p e s m below meth c A args hA C hr hlk hnm
    refine sg0 C foX8 coX8 oX8_appendShown_0 rfl rfl (hn2 _ _) ?_
    refine ni_n (ci := 3) C (fun H hH => hx H hH) rfl kl_X8_134 (by decide) jX8_appendShown_1 ?_
    refine b1_ne (tgt := 19) C jX8_appendShown_4 (by decide) (fun h4 => ?_) (fun h4 => ?_)
    · exact absurd h4 (by decide)
    · refine sg0 C foX8 coX8 oX8_appendShown_7 rfl rfl (hn2 _ _) ?_
      refine cl_v C (kX5_meet hAD hN (show 5 + _ = n from by rw [← hn2 so S0.length]; simp; omega) hRg hf ht) (rcv (ci := 4) C.2.1 rfl rfl) cd_X5_meet in_X5 ml_X8_221 im_X5_meet se_X5_meet hd_X5_meet rfl rfl ⟨by show 0 + 1 ≤ k + 1; omega, by show 8 + (4 + 11) + 40 * 0 ≤ 40 * (k + 1); omega⟩ ⟨(Nat.le_of_ble_eq_true rfl), (Nat.le_of_ble_eq_true rfl)⟩ (Nat.le_of_ble_eq_true rfl) jX8_appendShown_13 (fun v ws' => Wa.and (fun hv => ?_))
      obtain ⟨rfl, rfl⟩ := hv
      refine b1_ne (tgt := 44) C jX8_appendShown_16 (by decide) (fun h16 => ?_) (fun h16 => ?_)
      · have hm : meR Rg f t = true := Decidable.byContradiction fun e1 => h16 (if_neg e1)
        refine sg0 C foX8 coX8 oX8_appendShown_44 rfl rfl (hn2 _ _) ?_
        refine ni_n (ci := 3) C (fun H hH => hx H hH) rfl kl_X8_167 (by decide) jX8_appendShown_45 ?_
        refine b1_eq (tgt := 152) C jX8_appendShown_48 (by decide) (fun h48 => ?_) (fun h48 => ?_)
        · refine sg0 C foX8 coX8 oX8_appendShown_152 rfl rfl (hn2 _ _) ?_
          refine ni_y (ci := 3) C (fun H hH => hx H hH) rfl kl_X8_65 (by decide) jX8_appendShown_153 ?_
          refine b1_eq (tgt := 207) C jX8_appendShown_156 (by decide) (fun h156 => ?_) (fun h156 => ?_)
          · exact absurd h156 (by decide)
          · refine sg0 C foX8 coX8 oX8_appendShown_159 rfl rfl (hn2 _ _) ?_
            refine nc_y (ci := 3) C (fun H hH => hx H hH) rfl kl_X8_65 (by decide) jX8_appendShown_160 ?_
            refine sg0 C foX8 coX8 oX8_appendShown_163 rfl rfl (hn2 _ _) ?_
            refine cl_v C (kX7_append7 hAD hN (show 9 + rest.length = n from hn) (S := S0) hS 1 (by (try simp only [List.length_append, octs_len]); omega) (2)) (rcv (ci := 6) C.2.1 rfl rfl) cd_X7_append in_X7 ml_X8_107 im_X7_append se_X7_append hd_X7_append rfl rfl ⟨by show 0 + 1 ≤ k + 1; omega, by show 8 + (5 + 11) + 40 * 0 ≤ 40 * (k + 1); omega⟩ ⟨(Nat.le_of_ble_eq_true rfl), (Nat.le_of_ble_eq_true rfl)⟩ (Nat.le_of_ble_eq_true rfl) jX8_appendShown_173 (fun v ws' => Wa.ex (fun s1 => Wa.and (fun hv => ?_)))
            obtain ⟨rfl, rfl, hs1⟩ := hv
            refine sg0 C foX8 coX8 oX8_appendShown_176 rfl rfl (hn2 _ _) ?_
            refine ng (ci := 3) (k := 1) (v := .int (nI P)) C (fun H hH => hx H hH) rfl (by decide) fl_X8_136 rfl jX8_appendShown_183 ?_
            refine sg0 C foX8 coX8 oX8_appendShown_186 rfl rfl (hn2 _ _) ?_
            refine cl_v C (kX7_append7 hAD hN (show 9 + rest.length = n from hn) (S := S0 ++ octs 1 2) hs1 2 (by (try simp only [List.length_append, octs_len]); omega) ((nI P).toInt64)) (rcv (ci := 6) C.2.1 rfl rfl) cd_X7_append in_X7 ml_X8_107 im_X7_append se_X7_append hd_X7_append rfl rfl ⟨by show 0 + 1 ≤ k + 1; omega, by show 8 + (5 + 11) + 40 * 0 ≤ 40 * (k + 1); omega⟩ ⟨(Nat.le_of_ble_eq_true rfl), (Nat.le_of_ble_eq_true rfl)⟩ (Nat.le_of_ble_eq_true rfl) jX8_appendShown_187 (fun v ws' => Wa.ex (fun s2 => Wa.and (fun hv => ?_)))
            obtain ⟨rfl, rfl, hs2⟩ := hv
            refine sg0 C foX8 coX8 oX8_appendShown_190 rfl rfl (hn2 _ _) ?_
            refine ng (ci := 3) (k := 2) (v := .long v0) C (fun H hH => hx H hH) rfl (by decide) fl_X8_139 rfl jX8_appendShown_198 ?_
            refine cl_v C (kX7_append7 hAD hN (show 9 + rest.length = n from hn) (S := S0 ++ octs 1 2 ++ octs 2 (nI P).toInt64) hs2 8 (by (try simp only [List.length_append, octs_len]); omega) (v0)) (rcv (ci := 6) C.2.1 rfl rfl) cd_X7_append in_X7 ml_X8_107 im_X7_append se_X7_append hd_X7_append rfl rfl ⟨by show 0 + 1 ≤ k + 1; omega, by show 8 + (5 + 11) + 40 * 0 ≤ 40 * (k + 1); omega⟩ ⟨(Nat.le_of_ble_eq_true rfl), (Nat.le_of_ble_eq_true rfl)⟩ (Nat.le_of_ble_eq_true rfl) jX8_appendShown_201 (fun v ws' => Wa.ex (fun s3 => Wa.and (fun hv => ?_)))
            obtain ⟨rfl, rfl, hs3⟩ := hv
            refine sg0 C foX8 coX8 oX8_appendShown_204 rfl rfl (hn2 _ _) ?_
            exact rt_v C hr hlk jX8_appendShown_218 (fun H hH => ⟨s3, ⟨rfl, by rw [show shwT Rg (tL q P v0) f t = octs 1 2 ++ (octs 2 (nI P).toInt64 ++ octs 8 v0) from by simp only [shwT]; rw [if_pos hm]]; (try simp only [List.append_assoc]), by rw [show shwT Rg (tL q P v0) f t = octs 1 2 ++ (octs 2 (nI P).toInt64 ++ octs 8 v0) from by simp only [shwT]; rw [if_pos hm]]; simpa only [List.append_assoc] using hs3⟩, hH⟩)
        · exact absurd h48 (by decide)
      · have hm : ¬ meR Rg f t = true := fun e1 => by rw [if_pos e1] at h16; exact absurd h16 (by decide)
        refine sg0 C foX8 coX8 oX8_appendShown_19 rfl rfl (hn2 _ _) ?_
        refine cl_v C (kX7_append7 hAD hN (show 9 + rest.length = n from hn) (S := S0) hS 1 (by (try simp only [List.length_append, octs_len]); omega) (0)) (rcv (ci := 6) C.2.1 rfl rfl) cd_X7_append in_X7 ml_X8_107 im_X7_append se_X7_append hd_X7_append rfl rfl ⟨by show 0 + 1 ≤ k + 1; omega, by show 8 + (5 + 11) + 40 * 0 ≤ 40 * (k + 1); omega⟩ ⟨(Nat.le_of_ble_eq_true rfl), (Nat.le_of_ble_eq_true rfl)⟩ (Nat.le_of_ble_eq_true rfl) jX8_appendShown_25 (fun v ws' => Wa.ex (fun s1 => Wa.and (fun hv => ?_)))
        obtain ⟨rfl, rfl, hs1⟩ := hv
        refine sg0 C foX8 coX8 oX8_appendShown_28 rfl rfl (hn2 _ _) ?_
        refine ng (ci := 3) (k := 0) (v := .long (leafF P v0)) C (fun H hH => hx H hH) rfl (by decide) fl_X8_87 rfl jX8_appendShown_35 ?_
        refine cl_v C (kX7_append7 hAD hN (show 9 + rest.length = n from hn) (S := S0 ++ octs 1 0) hs1 8 (by (try simp only [List.length_append, octs_len]); omega) (leafF P v0)) (rcv (ci := 6) C.2.1 rfl rfl) cd_X7_append in_X7 ml_X8_107 im_X7_append se_X7_append hd_X7_append rfl rfl ⟨by show 0 + 1 ≤ k + 1; omega, by show 8 + (5 + 11) + 40 * 0 ≤ 40 * (k + 1); omega⟩ ⟨(Nat.le_of_ble_eq_true rfl), (Nat.le_of_ble_eq_true rfl)⟩ (Nat.le_of_ble_eq_true rfl) jX8_appendShown_38 (fun v ws' => Wa.ex (fun s2 => Wa.and (fun hv => ?_)))
        obtain ⟨rfl, rfl, hs2⟩ := hv
        refine sg0 C foX8 coX8 oX8_appendShown_41 rfl rfl (hn2 _ _) ?_
        exact rt_v C hr hlk jX8_appendShown_218 (fun H hH => ⟨s2, ⟨rfl, by rw [show shwT Rg (tL q P v0) f t = octs 1 0 ++ octs 8 (leafF P v0) from by simp only [shwT]; rw [if_neg hm]]; (try simp only [List.append_assoc]), by rw [show shwT Rg (tL q P v0) f t = octs 1 0 ++ octs 8 (leafF P v0) from by simp only [shwT]; rw [if_neg hm]]; simpa only [List.append_assoc] using hs2⟩, hH⟩)
  · intro q B S x y hT1 hT2 i1 i2 k d N f t S0 so hfit hdk hN hx hf ht hS hlen
    have hp0 : 2 ≤ 2 ^ (k + 1) := by have := Nat.two_pow_pos k; rw [Nat.pow_succ]; omega
    obtain ⟨⟨hB, hkB, hS1, hstm⟩, hfx, hfy⟩ := fitF hfit
    have hS2 := fitF2 hfit
    have hp1 : 0 < 2 ^ (15 - B) := Nat.two_pow_pos _
    have hp2 : 2 ^ (16 - B) = 2 * 2 ^ (15 - B) := by rw [show 16 - B = 15 - B + 1 by omega, Nat.pow_succ, Nat.mul_comm]
    have a3 : 2 ^ (15 - B + 1) * 2 ≤ 2 ^ (k + 1) := by rw [← Nat.pow_succ]; exact Nat.pow_le_pow_right (by decide) (by omega)
    have a1 := shw_len Rg x hT1 S (S + 2 ^ (15 - B) - 1) _ hfx
    have a2 := shw_len Rg y hT2 (S + 2 ^ (15 - B)) (S + 2 ^ (16 - B) - 1) _ hfy
    refine enter (lv := [(0, .ref 0), (1, .ref (adr (tF q B S x y) + 100)), (2, .int (nI f)), (3, .int (nI t)), (4, .int (nI d))]) (by decide +kernel) (Nat.le_of_ble_eq_true rfl) rfl hAD (fun U hK => ns_write hK hN) ?_
    intro p e s m below meth c A args hA C hr hlk hnm
    refine sg0 C foX8 coX8 oX8_appendShown_0 rfl rfl (hn2 _ _) ?_
    refine ni_n (ci := 1) C (fun H hH => (hx H hH).1) rfl kl_X8_134 (by decide) jX8_appendShown_1 ?_
    refine b1_ne (tgt := 19) C jX8_appendShown_4 (by decide) (fun h4 => ?_) (fun h4 => ?_)
    · exact absurd h4 (by decide)
    · refine sg0 C foX8 coX8 oX8_appendShown_7 rfl rfl (hn2 _ _) ?_
      refine cl_v C (kX5_meet hAD hN (show 5 + _ = n from by rw [← hn2 so S0.length]; simp; omega) hRg hf ht) (rcv (ci := 4) C.2.1 rfl rfl) cd_X5_meet in_X5 ml_X8_221 im_X5_meet se_X5_meet hd_X5_meet rfl rfl ⟨by show 0 + 1 ≤ k + 1; omega, by show 8 + (4 + 11) + 40 * 0 ≤ 40 * (k + 1); omega⟩ ⟨(Nat.le_of_ble_eq_true rfl), (Nat.le_of_ble_eq_true rfl)⟩ (Nat.le_of_ble_eq_true rfl) jX8_appendShown_13 (fun v ws' => Wa.and (fun hv => ?_))
      obtain ⟨rfl, rfl⟩ := hv
      refine b1_ne (tgt := 44) C jX8_appendShown_16 (by decide) (fun h16 => ?_) (fun h16 => ?_)
      · have hm : meR Rg f t = true := Decidable.byContradiction fun e1 => h16 (if_neg e1)
        refine sg0 C foX8 coX8 oX8_appendShown_44 rfl rfl (hn2 _ _) ?_
        refine ni_y (ci := 1) C (fun H hH => (hx H hH).1) rfl kl_X8_167 (by decide) jX8_appendShown_45 ?_
        refine b1_eq (tgt := 152) C jX8_appendShown_48 (by decide) (fun h48 => ?_) (fun h48 => ?_)
        · exact absurd h48 (by decide)
        · refine sg0 C foX8 coX8 oX8_appendShown_51 rfl rfl (hn2 _ _) ?_
          refine nc_y (ci := 1) C (fun H hH => (hx H hH).1) rfl kl_X8_167 (by decide) jX8_appendShown_52 ?_
          refine sg0 C foX8 coX8 oX8_appendShown_55 rfl rfl (hn2 _ _) ?_
          refine b2_ge (tgt := 152) C jX8_appendShown_61 (by decide) (fun h61 => ?_) (fun h61 => ?_)
          · exact absurd h61 (by rw [show (16 : Int32) = nI 16 from rfl]; exact nI_ge (by omega) (by decide))
          · refine sg0 C foX8 coX8 oX8_appendShown_64 rfl rfl (hn2 _ _) ?_
            refine cl_v C (kX7_append7 hAD hN (show 9 + rest.length = n from hn) (S := S0) hS 1 (by (try simp only [List.length_append, octs_len]); omega) (1)) (rcv (ci := 6) C.2.1 rfl rfl) cd_X7_append in_X7 ml_X8_107 im_X7_append se_X7_append hd_X7_append rfl rfl ⟨by show 0 + 1 ≤ k + 1; omega, by show 8 + (5 + 11) + 40 * 0 ≤ 40 * (k + 1); omega⟩ ⟨(Nat.le_of_ble_eq_true rfl), (Nat.le_of_ble_eq_true rfl)⟩ (Nat.le_of_ble_eq_true rfl) jX8_appendShown_70 (fun v ws' => Wa.ex (fun s1 => Wa.and (fun hv => ?_)))
            obtain ⟨rfl, rfl, hs1⟩ := hv
            refine sg0 C foX8 coX8 oX8_appendShown_73 rfl rfl (hn2 _ _) ?_
            refine ng (ci := 1) (k := 1) (v := .int (nI B)) C (fun H hH => (hx H hH).1) rfl (by decide) fl_X8_224 rfl jX8_appendShown_80 ?_
            refine sg0 C foX8 coX8 oX8_appendShown_83 rfl rfl (hn2 _ _) ?_
            refine cl_v C (kX7_append7 hAD hN (show 9 + rest.length = n from hn) (S := S0 ++ octs 1 1) hs1 1 (by (try simp only [List.length_append, octs_len]); omega) ((nI B).toInt64)) (rcv (ci := 6) C.2.1 rfl rfl) cd_X7_append in_X7 ml_X8_107 im_X7_append se_X7_append hd_X7_append rfl rfl ⟨by show 0 + 1 ≤ k + 1; omega, by show 8 + (5 + 11) + 40 * 0 ≤ 40 * (k + 1); omega⟩ ⟨(Nat.le_of_ble_eq_true rfl), (Nat.le_of_ble_eq_true rfl)⟩ (Nat.le_of_ble_eq_true rfl) jX8_appendShown_84 (fun v ws' => Wa.ex (fun s2 => Wa.and (fun hv => ?_)))
            obtain ⟨rfl, rfl, hs2⟩ := hv
            refine sg0 C foX8 coX8 oX8_appendShown_87 rfl rfl (hn2 _ _) ?_
            refine ng (ci := 1) (k := 2) (v := .int (nI S)) C (fun H hH => (hx H hH).1) rfl (by decide) fl_X8_179 rfl jX8_appendShown_94 ?_
            refine sg0 C foX8 coX8 oX8_appendShown_97 rfl rfl (hn2 _ _) ?_
            refine cl_v C (kX7_append7 hAD hN (show 9 + rest.length = n from hn) (S := S0 ++ octs 1 1 ++ octs 1 (nI B).toInt64) hs2 2 (by (try simp only [List.length_append, octs_len]); omega) ((nI S).toInt64)) (rcv (ci := 6) C.2.1 rfl rfl) cd_X7_append in_X7 ml_X8_107 im_X7_append se_X7_append hd_X7_append rfl rfl ⟨by show 0 + 1 ≤ k + 1; omega, by show 8 + (5 + 11) + 40 * 0 ≤ 40 * (k + 1); omega⟩ ⟨(Nat.le_of_ble_eq_true rfl), (Nat.le_of_ble_eq_true rfl)⟩ (Nat.le_of_ble_eq_true rfl) jX8_appendShown_98 (fun v ws' => Wa.ex (fun s3 => Wa.and (fun hv => ?_)))
            obtain ⟨rfl, rfl, hs3⟩ := hv
            refine sg0 C foX8 coX8 oX8_appendShown_101 rfl rfl (hn2 _ _) ?_
            refine ng (ci := 1) (k := 3) (v := .ref (adr x + 100)) C (fun H hH => (hx H hH).1) rfl (by decide) fl_X8_199 (by rw [cv_raw C]; rfl) jX8_appendShown_104 ?_
            refine sg0 C foX8 coX8 oX8_appendShown_107 rfl rfl (hn2 _ _) ?_
            refine ng (ci := 1) (k := 2) (v := .int (nI S)) C (fun H hH => (hx H hH).1) rfl (by decide) fl_X8_179 rfl jX8_appendShown_109 ?_
            refine sg0 C foX8 coX8 oX8_appendShown_112 rfl rfl (hn2 _ _) ?_
            refine cl_v C (kX1_middle hAD (hn2 _ _) hN (q := q) (B := B) (S := S) (fun H hH => (hx H hH).1) hB) (nrc C (fun H hH => (hx H hH).1) rfl) cd_X1_middle in_X1 ml_X8_210 im_X1_middle se_X1_middle hd_X1_middle rfl rfl ⟨by show 0 + 1 ≤ k + 1; omega, by show 8 + (1 + 11) + 40 * 0 ≤ 40 * (k + 1); omega⟩ ⟨(Nat.le_of_ble_eq_true rfl), (Nat.le_of_ble_eq_true rfl)⟩ (Nat.le_of_ble_eq_true rfl) jX8_appendShown_114 (fun v ws' => Wa.and (fun hv => ?_))
            obtain ⟨rfl, rfl⟩ := hv
            refine sg0 C foX8 coX8 oX8_appendShown_117 rfl rfl (hn2 _ _) ?_
            rw [nI_1 d, show (1 : Int32) = nI 1 from rfl, pk_sub (show 1 ≤ S + 2 ^ (15 - B) by omega)]
            refine cl_v C (i1 (15 - B) (d + 1) N S (S + 2 ^ (15 - B) - 1) (S0 ++ octs 1 1 ++ octs 1 (nI B).toInt64 ++ octs 2 (nI S).toInt64) s3 hfx (by omega) hN (fun H hH => (hx H hH).2.1) (by omega) (by omega) hs3 (by (try simp only [List.length_append, octs_len]); omega)) (rcv (ci := 7) C.2.1 rfl rfl) cd_X8_appendShown in_X8 ml_X8_217 im_X8_appendShown se_X8_appendShown hd_X8_appendShown rfl rfl ⟨by show 15 - B + 1 + 1 ≤ k + 1; omega, by show 8 + (7 + 11) + 40 * (15 - B + 1) ≤ 40 * (k + 1); omega⟩ ⟨(Nat.le_of_ble_eq_true rfl), (Nat.le_of_ble_eq_true rfl)⟩ (Nat.le_of_ble_eq_true rfl) jX8_appendShown_123 (fun v ws' => Wa.ex (fun s4 => Wa.and (fun hv => ?_)))
            obtain ⟨rfl, rfl, hs4⟩ := hv
            refine sg0 C foX8 coX8 oX8_appendShown_126 rfl rfl (hn2 _ _) ?_
            refine ng (ci := 1) (k := 4) (v := .ref (adr y + 100)) C (fun H hH => (hx H hH).1) rfl (by decide) fl_X8_202 (by rw [cv_raw C]; rfl) jX8_appendShown_129 ?_
            refine sg0 C foX8 coX8 oX8_appendShown_132 rfl rfl (hn2 _ _) ?_
            refine cl_v C (kX1_middle hAD (hn2 _ _) hN (q := q) (B := B) (S := S) (fun H hH => (hx H hH).1) hB) (nrc C (fun H hH => (hx H hH).1) rfl) cd_X1_middle in_X1 ml_X8_210 im_X1_middle se_X1_middle hd_X1_middle rfl rfl ⟨by show 0 + 1 ≤ k + 1; omega, by show 8 + (1 + 11) + 40 * 0 ≤ 40 * (k + 1); omega⟩ ⟨(Nat.le_of_ble_eq_true rfl), (Nat.le_of_ble_eq_true rfl)⟩ (Nat.le_of_ble_eq_true rfl) jX8_appendShown_134 (fun v ws' => Wa.and (fun hv => ?_))
            obtain ⟨rfl, rfl⟩ := hv
            refine sg0 C foX8 coX8 oX8_appendShown_137 rfl rfl (hn2 _ _) ?_
            refine cl_v C (kX1_last hAD (hn2 _ _) hN (q := q) (B := B) (S := S) (fun H hH => (hx H hH).1) hB) (nrc C (fun H hH => (hx H hH).1) rfl) cd_X1_last in_X1 ml_X8_214 im_X1_last se_X1_last hd_X1_last rfl rfl ⟨by show 0 + 1 ≤ k + 1; omega, by show 8 + (1 + 11) + 40 * 0 ≤ 40 * (k + 1); omega⟩ ⟨(Nat.le_of_ble_eq_true rfl), (Nat.le_of_ble_eq_true rfl)⟩ (Nat.le_of_ble_eq_true rfl) jX8_appendShown_139 (fun v ws' => Wa.and (fun hv => ?_))
            obtain ⟨rfl, rfl⟩ := hv
            refine sg0 C foX8 coX8 oX8_appendShown_142 rfl rfl (hn2 _ _) ?_
            rw [nI_1 d]
            refine cl_v C (i2 (15 - B) (d + 1) N (S + 2 ^ (15 - B)) (S + 2 ^ (16 - B) - 1) ((S0 ++ octs 1 1 ++ octs 1 (nI B).toInt64 ++ octs 2 (nI S).toInt64) ++ shwT Rg x S (S + 2 ^ (15 - B) - 1)) s4 hfy (by omega) hN (fun H hH => (hx H hH).2.2) (by omega) (by omega) hs4 (by (try simp only [List.length_append, octs_len]); omega)) (rcv (ci := 7) C.2.1 rfl rfl) cd_X8_appendShown in_X8 ml_X8_217 im_X8_appendShown se_X8_appendShown hd_X8_appendShown rfl rfl ⟨by show 15 - B + 1 + 1 ≤ k + 1; omega, by show 8 + (7 + 11) + 40 * (15 - B + 1) ≤ 40 * (k + 1); omega⟩ ⟨(Nat.le_of_ble_eq_true rfl), (Nat.le_of_ble_eq_true rfl)⟩ (Nat.le_of_ble_eq_true rfl) jX8_appendShown_146 (fun v ws' => Wa.ex (fun s5 => Wa.and (fun hv => ?_)))
            obtain ⟨rfl, rfl, hs5⟩ := hv
            refine sg0 C foX8 coX8 oX8_appendShown_149 rfl rfl (hn2 _ _) ?_
            exact rt_v C hr hlk jX8_appendShown_218 (fun H hH => ⟨s5, ⟨rfl, by rw [show shwT Rg (tF q B S x y) f t = octs 1 1 ++ (octs 1 (nI B).toInt64 ++ (octs 2 (nI S).toInt64 ++ (shwT Rg x S (S + 2 ^ (15 - B) - 1) ++ shwT Rg y (S + 2 ^ (15 - B)) (S + 2 ^ (16 - B) - 1)))) from by simp only [shwT]; rw [if_pos hm]]; (try simp only [List.append_assoc]), by rw [show shwT Rg (tF q B S x y) f t = octs 1 1 ++ (octs 1 (nI B).toInt64 ++ (octs 2 (nI S).toInt64 ++ (shwT Rg x S (S + 2 ^ (15 - B) - 1) ++ shwT Rg y (S + 2 ^ (15 - B)) (S + 2 ^ (16 - B) - 1)))) from by simp only [shwT]; rw [if_pos hm]]; simpa only [List.append_assoc] using hs5⟩, hH⟩)
      · have hm : ¬ meR Rg f t = true := fun e1 => by rw [if_pos e1] at h16; exact absurd h16 (by decide)
        refine sg0 C foX8 coX8 oX8_appendShown_19 rfl rfl (hn2 _ _) ?_
        refine cl_v C (kX7_append7 hAD hN (show 9 + rest.length = n from hn) (S := S0) hS 1 (by (try simp only [List.length_append, octs_len]); omega) (0)) (rcv (ci := 6) C.2.1 rfl rfl) cd_X7_append in_X7 ml_X8_107 im_X7_append se_X7_append hd_X7_append rfl rfl ⟨by show 0 + 1 ≤ k + 1; omega, by show 8 + (5 + 11) + 40 * 0 ≤ 40 * (k + 1); omega⟩ ⟨(Nat.le_of_ble_eq_true rfl), (Nat.le_of_ble_eq_true rfl)⟩ (Nat.le_of_ble_eq_true rfl) jX8_appendShown_25 (fun v ws' => Wa.ex (fun s1 => Wa.and (fun hv => ?_)))
        obtain ⟨rfl, rfl, hs1⟩ := hv
        refine sg0 C foX8 coX8 oX8_appendShown_28 rfl rfl (hn2 _ _) ?_
        refine ng (ci := 1) (k := 0) (v := .long (forkF B S (dig x) (dig y))) C (fun H hH => (hx H hH).1) rfl (by decide) fl_X8_87 rfl jX8_appendShown_35 ?_
        refine cl_v C (kX7_append7 hAD hN (show 9 + rest.length = n from hn) (S := S0 ++ octs 1 0) hs1 8 (by (try simp only [List.length_append, octs_len]); omega) (forkF B S (dig x) (dig y))) (rcv (ci := 6) C.2.1 rfl rfl) cd_X7_append in_X7 ml_X8_107 im_X7_append se_X7_append hd_X7_append rfl rfl ⟨by show 0 + 1 ≤ k + 1; omega, by show 8 + (5 + 11) + 40 * 0 ≤ 40 * (k + 1); omega⟩ ⟨(Nat.le_of_ble_eq_true rfl), (Nat.le_of_ble_eq_true rfl)⟩ (Nat.le_of_ble_eq_true rfl) jX8_appendShown_38 (fun v ws' => Wa.ex (fun s2 => Wa.and (fun hv => ?_)))
        obtain ⟨rfl, rfl, hs2⟩ := hv
        refine sg0 C foX8 coX8 oX8_appendShown_41 rfl rfl (hn2 _ _) ?_
        exact rt_v C hr hlk jX8_appendShown_218 (fun H hH => ⟨s2, ⟨rfl, by rw [show shwT Rg (tF q B S x y) f t = octs 1 0 ++ octs 8 (forkF B S (dig x) (dig y)) from by simp only [shwT]; rw [if_neg hm]]; (try simp only [List.append_assoc]), by rw [show shwT Rg (tF q B S x y) f t = octs 1 0 ++ octs 8 (forkF B S (dig x) (dig y)) from by simp only [shwT]; rw [if_neg hm]]; simpa only [List.append_assoc] using hs2⟩, hH⟩)
end
section
variable {l : Launch} {D : va_G} {ca : Nat → ClassId} {ad : Nat → Nat} {n : Nat} {N : Heap → Prop}
set_option maxRecDepth 100000 in
set_option maxHeartbeats 4000000 in
theorem kX8_tapeBecomes (hAD : AD ad n) (hN : NS D N) {k0 k2 k3 k6 k7 k8 : Value} {c1 c5 c6 : va_E} {rest : List va_E} (hn : 9 + rest.length = n) {ra rb : Nat → Int32} {Rg : List (Nat × Nat)} (hRg : rgR ra rb Rg) {T : Term} (hfit : fitT T 16) (hx : ∀ H, N H → nodeAt D H T) {so : Nat → Int32} {L : Nat} : Ct l yX8_tapeBecomes cX8_tapeBecomes 3 (some .int) (rK 18 0 0) D ca ad (.inr (7, [k0, .ref 2, k2, k3, .ref 5, .ref 7, k6, k7, k8]) :: c1 :: .inr (4, [.ref 3, .ref 4, .int (nI Rg.length)]) :: .inl (0, 20, .inl ra) :: .inl (0, 20, .inl rb) :: c5 :: c6 :: .inr (6, [.ref 8, .int (nI L)]) :: .inl (0, 4000, .inl so) :: rest) n [.ref 0, .ref (adr T + 100)] N (fun r ws2 H => ∃ so2 : Nat → Int32, (tpR so2 (shwT Rg T 0 65535) ∧ ((4000 < (shwT Rg T 0 65535).length ∧ r = some (.int (-3)) ∧ ws2 = (.inr (7, [k0, .ref 2, k2, k3, .ref 5, .ref 7, k6, k7, k8]) :: c1 :: .inr (4, [.ref 3, .ref 4, .int (nI Rg.length)]) :: .inl (0, 20, .inl ra) :: .inl (0, 20, .inl rb) :: c5 :: c6 :: .inr (6, [.ref 8, .int (nI (shwT Rg T 0 65535).length)]) :: .inl (0, 4000, .inl so2) :: rest)) ∨ ((shwT Rg T 0 65535).length ≤ 4000 ∧ r = some (.int (nI (shwT Rg T 0 65535).length)) ∧ ws2 = (.inr (7, [k0, .ref 2, k2, k3, .ref 7, .ref 5, k6, k7, k8]) :: c1 :: .inr (4, [.ref 3, .ref 4, .int (nI Rg.length)]) :: .inl (0, 20, .inl ra) :: .inl (0, 20, .inl rb) :: c5 :: c6 :: .inr (6, [.ref 8, .int (nI (shwT Rg T 0 65535).length)]) :: .inl (0, 4000, .inl so2) :: rest)))) ∧ N H) := by
  have hn2 : ∀ (so2 : Nat → Int32) (L : Nat), ((.inr (7, [k0, .ref 2, k2, k3, .ref 5, .ref 7, k6, k7, k8]) :: c1 :: .inr (4, [.ref 3, .ref 4, .int (nI Rg.length)]) :: .inl (0, 20, .inl ra) :: .inl (0, 20, .inl rb) :: c5 :: c6 :: .inr (6, [.ref 8, .int (nI L)]) :: .inl (0, 4000, .inl so2) :: rest) : List va_E).length = n := fun so2 L => by simp; omega
  refine enter (lv := [(0, .ref 0), (1, .ref (adr T + 100))]) (by decide +kernel) (Nat.le_of_ble_eq_true rfl) rfl hAD (fun U hK => ns_write hK hN) ?_
  intro p e s m below meth c A args hA C hr hlk hnm
  refine sg0 C foX8 coX8 oX8_tapeBecomes_0 rfl rfl (hn2 _ _) ?_
  refine cl_v C (kX8_appendShown hAD hn hRg T (fit_T T _ hfit) 16 0 N 0 65535 [] so hfit (by decide) hN hx (by decide) (by decide) (fun j _ h9 => absurd h9 (Nat.not_lt_zero _)) (by decide)) (rcv (ci := 7) C.2.1 rfl rfl) cd_X8_appendShown in_X8 ml_X8_217 im_X8_appendShown se_X8_appendShown hd_X8_appendShown rfl rfl ⟨(Nat.le_of_ble_eq_true rfl), (Nat.le_of_ble_eq_true rfl)⟩ ⟨(Nat.le_of_ble_eq_true rfl), (Nat.le_of_ble_eq_true rfl)⟩ (Nat.le_of_ble_eq_true rfl) jX8_tapeBecomes_14 (fun v ws' => Wa.ex (fun s1 => Wa.and (fun hv => ?_)))
  obtain ⟨rfl, rfl, hs1⟩ := hv
  rw [List.nil_append] at hs1 ⊢
  have hln := shw_len Rg T (fit_T T _ hfit) 0 65535 16 hfit
  refine sg0 C foX8 coX8 oX8_tapeBecomes_17 rfl rfl (hn2 _ _) ?_
  refine b2_le (tgt := 33) C jX8_tapeBecomes_27 (by decide) (fun h27 => ?_) (fun h27 => ?_)
  · have hq : (shwT Rg T 0 65535).length ≤ 4000 := Nat.not_lt.mp fun q => absurd h27 (by rw [show (4000 : Int32) = nI 4000 from rfl]; exact nI_ge q (by omega))
    refine sg0 C foX8 coX8 oX8_tapeBecomes_33 rfl rfl (hn2 _ _) ?_
    exact rt_i C hr hlk jX8_tapeBecomes_58 (fun H hH => ⟨s1, ⟨hs1, Or.inr ⟨hq, rfl, rfl⟩⟩, hH⟩)
  · have hq : 4000 < (shwT Rg T 0 65535).length := Nat.not_le.mp fun q => h27 (by rw [show (4000 : Int32) = nI 4000 from rfl]; exact nI_le q (by decide))
    refine sg0 C foX8 coX8 oX8_tapeBecomes_30 rfl rfl (hn2 _ _) ?_
    exact rt_i C hr hlk jX8_tapeBecomes_32 (fun H hH => ⟨s1, ⟨hs1, Or.inl ⟨hq, rfl, rfl⟩⟩, hH⟩)
end
