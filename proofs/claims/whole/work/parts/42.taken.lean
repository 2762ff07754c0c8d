/-! the model: one node is taken from the tape -/
theorem upd_at {f : Nat → Int32} {x : Nat} {v : Int32} : upd f x v x = v := if_pos rfl
theorem upL_at {f : Nat → Int64} {x : Nat} {v : Int64} : vp_updL f x v x = v := if_pos rfl
/-- a fork's two sides, read by rc -/
def fkR (rc : Nat → Nat → Nat → PR) (i B S0 : Nat) : PR := match rc i S0 (S0 + 2 ^ (15 - B) - 1) with
  | .inl z => .inl z
  | .inr (x, i1) => match rc i1 (S0 + 2 ^ (15 - B)) (S0 + 2 ^ (16 - B) - 1) with
    | .inl z => .inl z
    | .inr (y, i2) => .inr (tF 0 B S0 x y, i2)
section
variable {l : Launch} {D : va_G} {ca : Nat → ClassId} {ad : Nat → Nat} {N : Heap → Prop} {pa : Nat → Int32} {va : Nat → Int64} {sz : Nat → Int32} {fr : Nat → Int32} {tw : Nat → Int32} {ta : Nat → Int32} {wd : Nat → Int64} {wb : Nat → Int32} {wp : Nat → Int32} {ou : Nat → Int32} {o1 : Nat → Int32} {o2 : Nat → Int32} {pf : Nat → Int32} {pt : Nat → Int32} {ki : Nat → Int32} {bi : Nat → Int32} {ste : Nat → Int32} {hel : Nat → Int64} {low : Nat → Int32} {hgh : Nat → Int32} {su : Nat → Int64} {ro : Nat → Int32} {fe : Nat → Int32} {vs : Int32} {wn : Int32} {tp : Int32} {dp : Int32} {la : Int32} {rst : Int32} {hlf : Int32} {nd : Int32} {rt : Int32} {frd : Int32} {fa : Int32} {at_ : Int32} {end_ : Int32} {ab : Int32} {fo : Int64} {co : Int32} {ll : Int32} {lh : Int32} {hm : Int32}
set_option maxRecDepth 100000 in
set_option maxHeartbeats 4000000 in
theorem kX9_taken (hAD : AD ad 24) (hN : NS D N) {S : List Int32} (hS : tpR ta S) (hlen : S.length ≤ 4000) (hoc : ocOk S) {x i f t : Nat} (hx0 : x < 1600) (hi0 : i ≤ 4000) (hf0 : f < 65536) (ht0 : t < 65536) (w : Bool) : Ct l yX9_taken cX9_taken 6 (some .int) (rK 1 0 0) D ca ad (mW pa va sz fr tw ta wd wb wp ou o1 o2 pf pt ki bi ste hel low hgh su ro fe vs wn (nI S.length) dp la rst hlf nd rt frd fa (nI i) end_ ab fo co ll lh hm) 24 [.ref 0, .int (nI x), .int (if w then 1 else 0), .int (nI f), .int (nI t)] N (fun r ws2 H => ∃ (ki2 bi2 ste2 : Nat → Int32) (hel2 : Nat → Int64), (agV (fun q => ¬ q = x) (ki, bi, ste, hel, low, hgh) (ki2, bi2, ste2, hel2, low, hgh) ∧ ((∃ (a b : Nat) (at2 : Int32), ((∀ (rc : Nat → Nat → Nat → PR) (go : Bool), (go = true ∨ t ≤ f) → prN S i f t w (prK S rc go i f t) = .inl (a, b)) ∧ (0 < a ∧ a < 8 ∧ b ≤ 4000) ∧ r = some (.int (nI a)) ∧ ws2 = (mW pa va sz fr tw ta wd wb wp ou o1 o2 pf pt ki2 bi2 ste2 hel2 low hgh su ro fe vs wn (nI S.length) dp la rst hlf nd rt frd (nI b) at2 end_ ab fo co ll lh hm))) ∨ (∃ (T0 : Term) (i1 : Nat) (fa2 : Int32), ((∀ (rc : Nat → Nat → Nat → PR) (go : Bool), (go = true ∨ t ≤ f) → prN S i f t w (prK S rc go i f t) = .inr (strp T0, i1)) ∧ (isT T0 ∧ isF T0 = false ∧ adr T0 = x ∧ (i + 9 ≤ i1 ∨ w = true)) ∧ r = some (.int 0) ∧ ws2 = (mW pa va sz fr tw ta wd wb wp ou o1 o2 pf pt ki2 bi2 ste2 hel2 low hgh su ro fe vs wn (nI S.length) dp la rst hlf nd rt frd fa2 (nI i1) end_ ab fo co ll lh hm) ∧ vtR (ki2, bi2, ste2, hel2, low, hgh) T0)) ∨ (∃ (B S0 : Nat) (fa2 : Int32), ((∀ (rc : Nat → Nat → Nat → PR) (go : Bool), (go = true ∨ t ≤ f) → prN S i f t w (prK S rc go i f t) = fkR rc (i + 4) B S0) ∧ (B ≤ 15 ∧ stm S0 B = S0 ∧ f ≤ S0 ∧ S0 + 2 ^ (16 - B) - 1 ≤ t ∧ i + 4 ≤ S.length) ∧ r = some (.int 0) ∧ ws2 = (mW pa va sz fr tw ta wd wb wp ou o1 o2 pf pt ki2 bi2 ste2 hel2 low hgh su ro fe vs wn (nI S.length) dp la rst hlf nd rt frd fa2 (nI (i + 4)) end_ ab fo co ll lh hm) ∧ ki2 x = 1 ∧ bi2 x = nI B ∧ ste2 x = nI S0)))) ∧ N H) := by
  have hx : (nI x).toNatClampNeg = x := nI_clamp (by omega)
  refine enter (lv := [(0, .ref 0), (1, .int (nI x)), (2, .int (if w then 1 else 0)), (3, .int (nI f)), (4, .int (nI t))]) (by decide +kernel) (Nat.le_of_ble_eq_true rfl) rfl hAD (fun U hK => ns_write hK hN) ?_
  intro p e s m below meth c A args hA C hr hlk hnm
  refine sg0 C foX9 coX9 oX9_taken_0 rfl rfl rfl ?_
  refine b2_lt (tgt := 21) C jX9_taken_8 (by decide) (fun h8 => ?_) (fun h8 => ?_)
  · have hi : ¬ S.length ≤ i := fun q9 => absurd h8 (Int32.not_lt.mpr (nI_le q9 (by omega)))
    have hcl : (nI i).toNatClampNeg = i := nI_clamp (by omega)
    obtain ⟨hy1, hy2⟩ := oc_at hoc (show i < S.length by omega)
    have hta : ta i = nI (oc S i) := Option.some.inj ((hS i (by omega) (by omega)).symm.trans hy1)
    refine sg C foX9 coX9 oX9_taken_21 rfl rfl rfl ⟨vp_in_nI (by omega) (by decide), vp_in_nI (by omega) (by decide), vp_in_nI (by omega) (by decide), trivial⟩ ?_
    rw [hx, hcl, hta, nI_1, upd_at]
    rcases (show oc S i = 0 ∨ oc S i = 1 ∨ oc S i = 2 ∨ oc S i = 3 ∨ 3 < oc S i by omega) with ho | ho | ho | ho | ho
    · 
      refine b2_gt (tgt := 78) C jX9_taken_61 (by decide) (fun h61 => ?_) (fun h61 => ?_)
      · exact absurd h61 (by rw [ho]; decide)
      · refine sg C foX9 coX9 oX9_taken_64 rfl rfl rfl ⟨vp_in_nI (by omega) (by decide), trivial⟩ ?_
        rw [hx, upd_at]
        refine b2_ne (tgt := 80) C jX9_taken_71 (by decide) (fun h71 => ?_) (fun h71 => ?_)
        · refine sg C foX9 coX9 oX9_taken_80 rfl rfl rfl ⟨vp_in_nI (by omega) (by decide), trivial⟩ ?_
          rw [hx, upd_at]
          refine b1_ne (tgt := 104) C jX9_taken_86 (by decide) (fun h86 => ?_) (fun h86 => ?_)
          · exact absurd (by rw [ho]; rfl) h86
          · refine sg0 C foX9 coX9 oX9_taken_89 rfl rfl rfl ?_
            refine cl_v C (kX9_numeral hAD hN hS hlen (n0 := 8) (i := i + 1) (by decide) (by omega)) (rcv (ci := 8) C.2.1 rfl rfl) cd_X9_numeral in_X9 ml_X9_172 im_X9_numeral se_X9_numeral hd_X9_numeral rfl rfl ⟨(Nat.le_of_ble_eq_true rfl), (Nat.le_of_ble_eq_true rfl)⟩ ⟨(Nat.le_of_ble_eq_true rfl), (Nat.le_of_ble_eq_true rfl)⟩ (Nat.le_of_ble_eq_true rfl) jX9_taken_97 (fun v ws' => Wa.and (fun hv => ?_))
            obtain ⟨rfl, rfl⟩ := hv
            refine sg C foX9 coX9 oX9_taken_100 rfl rfl rfl ⟨vp_in_nI (by omega) (by decide), trivial⟩ ?_
            rw [hx]
            by_cases hl : S.length < i + 9
            · refine sg0 C foX9 coX9 oX9_taken_341 rfl rfl rfl ?_
              refine b2_le (tgt := 360) C jX9_taken_350 (by decide) (fun h350 => ?_) (fun h350 => ?_)
              · exact absurd h350 (nI_ge (by omega) (by omega))
              · refine sg0 C foX9 coX9 oX9_taken_353 rfl rfl rfl ?_
                refine sg0 C foX9 coX9 oX9_taken_364 rfl rfl rfl ?_
                refine b2_le (tgt := 382) C jX9_taken_375 (by decide) (fun h375 => ?_) (fun h375 => ?_)
                · exact absurd h375 (nI_ge (by omega) (by omega))
                · refine sg0 C foX9 coX9 oX9_taken_378 rfl rfl rfl ?_
                  exact rt_i C hr hlk jX9_taken_383 (fun H hH => ⟨_, _, _, _, ⟨(fun q hq => by refine ⟨?_, ?_, ?_, ?_, ?_, ?_⟩ <;> first | rfl | exact if_neg hq), Or.inl ⟨1, S.length, _, fun rc go hgo => by unfold prN; rw [if_neg hi, if_pos ho, if_pos (show S.length < i + 9 by omega)], ⟨by decide, by decide, by omega⟩, rfl, rfl⟩⟩, hH⟩)
            · refine sg0 C foX9 coX9 oX9_taken_341 rfl rfl rfl ?_
              refine b2_le (tgt := 360) C jX9_taken_350 (by decide) (fun h350 => ?_) (fun h350 => ?_)
              · refine sg0 C foX9 coX9 oX9_taken_360 rfl rfl rfl ?_
                refine sg0 C foX9 coX9 oX9_taken_364 rfl rfl rfl ?_
                refine b2_le (tgt := 382) C jX9_taken_375 (by decide) (fun h375 => ?_) (fun h375 => ?_)
                · refine sg0 C foX9 coX9 oX9_taken_382 rfl rfl rfl ?_
                  exact rt_i C hr hlk jX9_taken_383 (fun H hH => ⟨_, _, _, _, ⟨(fun q hq => by refine ⟨?_, ?_, ?_, ?_, ?_, ?_⟩ <;> first | rfl | exact if_neg hq), Or.inr (Or.inl ⟨tH x (nmF S 8 (i + 1) 0), (i + 9), _, fun rc go hgo => by unfold prN; rw [if_neg hi, if_pos ho, if_neg (show ¬ S.length < i + 9 by omega)]; rfl, ⟨trivial, rfl, rfl, Or.inl (Nat.le_refl _)⟩, rfl, rfl, ⟨upd_at.trans (by rw [ho]; rfl), upL_at⟩⟩)⟩, hH⟩)
                · exact absurd (nI_le (by omega) (by omega)) h375
              · exact absurd (nI_le (by omega) (by omega)) h350
        · exact absurd h71 (by rw [ho]; decide)
    · 
      refine b2_gt (tgt := 78) C jX9_taken_61 (by decide) (fun h61 => ?_) (fun h61 => ?_)
      · exact absurd h61 (by rw [ho]; decide)
      · refine sg C foX9 coX9 oX9_taken_64 rfl rfl rfl ⟨vp_in_nI (by omega) (by decide), trivial⟩ ?_
        rw [hx, upd_at]
        refine b2_ne (tgt := 80) C jX9_taken_71 (by decide) (fun h71 => ?_) (fun h71 => ?_)
        · refine sg C foX9 coX9 oX9_taken_80 rfl rfl rfl ⟨vp_in_nI (by omega) (by decide), trivial⟩ ?_
          rw [hx, upd_at]
          refine b1_ne (tgt := 104) C jX9_taken_86 (by decide) (fun h86 => ?_) (fun h86 => ?_)
          · refine sg C foX9 coX9 oX9_taken_104 rfl rfl rfl ⟨vp_in_nI (by omega) (by decide), trivial⟩ ?_
            rw [hx, upd_at]
            refine b2_ne (tgt := 265) C jX9_taken_111 (by decide) (fun h111 => ?_) (fun h111 => ?_)
            · exact absurd (by rw [ho]; rfl) h111
            · refine sg0 C foX9 coX9 oX9_taken_114 rfl rfl rfl ?_
              refine cl_v C (kX9_numeral hAD hN hS hlen (n0 := 1) (i := i + 1) (by decide) (by omega)) (rcv (ci := 8) C.2.1 rfl rfl) cd_X9_numeral in_X9 ml_X9_172 im_X9_numeral se_X9_numeral hd_X9_numeral rfl rfl ⟨(Nat.le_of_ble_eq_true rfl), (Nat.le_of_ble_eq_true rfl)⟩ ⟨(Nat.le_of_ble_eq_true rfl), (Nat.le_of_ble_eq_true rfl)⟩ (Nat.le_of_ble_eq_true rfl) jX9_taken_129 (fun v ws' => Wa.and (fun hv => ?_))
              obtain ⟨rfl, rfl⟩ := hv
              refine sg C foX9 coX9 oX9_taken_132 rfl rfl rfl ⟨vp_in_nI (by omega) (by decide), trivial⟩ ?_
              rw [hx]
              by_cases hl2 : S.length < i + 2
              · refine b2_gt (tgt := 158) C jX9_taken_142 (by decide) (fun h142 => ?_) (fun h142 => ?_)
                · refine sg0 C foX9 coX9 oX9_taken_158 rfl rfl rfl ?_
                  refine cl_v C (kX9_numeral hAD hN hS hlen (n0 := 2) (i := i + 2) (by decide) (by omega)) (rcv (ci := 8) C.2.1 rfl rfl) cd_X9_numeral in_X9 ml_X9_172 im_X9_numeral se_X9_numeral hd_X9_numeral rfl rfl ⟨(Nat.le_of_ble_eq_true rfl), (Nat.le_of_ble_eq_true rfl)⟩ ⟨(Nat.le_of_ble_eq_true rfl), (Nat.le_of_ble_eq_true rfl)⟩ (Nat.le_of_ble_eq_true rfl) jX9_taken_173 (fun v ws' => Wa.and (fun hv => ?_))
                  obtain ⟨rfl, rfl⟩ := hv
                  refine sg C foX9 coX9 oX9_taken_176 rfl rfl rfl ⟨vp_in_nI (by omega) (by decide), trivial⟩ ?_
                  refine b2_gt (tgt := 248) C jX9_taken_186 (by decide) (fun h186 => ?_) (fun h186 => ?_)
                  · refine sg0 C foX9 coX9 oX9_taken_248 rfl rfl rfl ?_
                    refine sg0 C foX9 coX9 oX9_taken_253 rfl rfl rfl ?_
                    refine b1_ne (tgt := 262) C jX9_taken_257 (by decide) (fun h257 => ?_) (fun h257 => ?_)
                    · refine sg0 C foX9 coX9 oX9_taken_262 rfl rfl rfl ?_
                      rw [hx]
                      refine sg0 C foX9 coX9 oX9_taken_341 rfl rfl rfl ?_
                      refine b2_le (tgt := 360) C jX9_taken_350 (by decide) (fun h350 => ?_) (fun h350 => ?_)
                      · exact absurd h350 (nI_ge (by omega) (by omega))
                      · refine sg0 C foX9 coX9 oX9_taken_353 rfl rfl rfl ?_
                        refine sg0 C foX9 coX9 oX9_taken_364 rfl rfl rfl ?_
                        refine b2_le (tgt := 382) C jX9_taken_375 (by decide) (fun h375 => ?_) (fun h375 => ?_)
                        · exact absurd h375 (nI_ge (by omega) (by omega))
                        · refine sg0 C foX9 coX9 oX9_taken_378 rfl rfl rfl ?_
                          exact rt_i C hr hlk jX9_taken_383 (fun H hH => ⟨_, _, _, _, ⟨(fun q hq => by refine ⟨?_, ?_, ?_, ?_, ?_, ?_⟩ <;> first | rfl | exact if_neg hq), Or.inl ⟨1, S.length, _, fun rc go hgo => by unfold prN; rw [if_neg hi, if_neg (show ¬ oc S i = 0 by omega), if_pos ho]; unfold prK; rw [if_pos hl2], ⟨by decide, by decide, by omega⟩, rfl, rfl⟩⟩, hH⟩)
                    · exact absurd h257 (by decide)
                  · exact absurd (nI_lt (by omega) (by omega)) h186
                · exact absurd (nI_lt (by omega) (by omega)) h142
              · rw [nm1 hoc (show i + 1 < S.length by omega)]
                obtain ⟨-, hz1⟩ := oc_at hoc (show i + 1 < S.length by omega)
                refine b2_gt (tgt := 158) C jX9_taken_142 (by decide) (fun h142 => ?_) (fun h142 => ?_)
                · exact absurd h142 (Int32.not_lt.mpr (nI_le (by omega) (by omega)))
                · refine sg C foX9 coX9 oX9_taken_145 rfl rfl rfl ⟨vp_in_nI (by omega) (by decide), trivial⟩ ?_
                  rw [hx, upd_at]
                  refine b2_le (tgt := 158) C jX9_taken_153 (by decide) (fun h153 => ?_) (fun h153 => ?_)
                  · have hB : oc S (i + 1) ≤ 15 := (nI_leI (by omega) (by omega)).mp h153
                    refine sg0 C foX9 coX9 oX9_taken_158 rfl rfl rfl ?_
                    refine cl_v C (kX9_numeral hAD hN hS hlen (n0 := 2) (i := i + 2) (by decide) (by omega)) (rcv (ci := 8) C.2.1 rfl rfl) cd_X9_numeral in_X9 ml_X9_172 im_X9_numeral se_X9_numeral hd_X9_numeral rfl rfl ⟨(Nat.le_of_ble_eq_true rfl), (Nat.le_of_ble_eq_true rfl)⟩ ⟨(Nat.le_of_ble_eq_true rfl), (Nat.le_of_ble_eq_true rfl)⟩ (Nat.le_of_ble_eq_true rfl) jX9_taken_173 (fun v ws' => Wa.and (fun hv => ?_))
                    obtain ⟨rfl, rfl⟩ := hv
                    refine sg C foX9 coX9 oX9_taken_176 rfl rfl rfl ⟨vp_in_nI (by omega) (by decide), trivial⟩ ?_
                    rw [hx]
                    by_cases hl4 : S.length < i + 4
                    · refine b2_gt (tgt := 248) C jX9_taken_186 (by decide) (fun h186 => ?_) (fun h186 => ?_)
                      · refine sg0 C foX9 coX9 oX9_taken_248 rfl rfl rfl ?_
                        refine sg0 C foX9 coX9 oX9_taken_253 rfl rfl rfl ?_
                        refine b1_ne (tgt := 262) C jX9_taken_257 (by decide) (fun h257 => ?_) (fun h257 => ?_)
                        · refine sg0 C foX9 coX9 oX9_taken_262 rfl rfl rfl ?_
                          refine sg0 C foX9 coX9 oX9_taken_341 rfl rfl rfl ?_
                          refine b2_le (tgt := 360) C jX9_taken_350 (by decide) (fun h350 => ?_) (fun h350 => ?_)
                          · exact absurd h350 (nI_ge (by omega) (by omega))
                          · refine sg0 C foX9 coX9 oX9_taken_353 rfl rfl rfl ?_
                            refine sg0 C foX9 coX9 oX9_taken_364 rfl rfl rfl ?_
                            refine b2_le (tgt := 382) C jX9_taken_375 (by decide) (fun h375 => ?_) (fun h375 => ?_)
                            · exact absurd h375 (nI_ge (by omega) (by omega))
                            · refine sg0 C foX9 coX9 oX9_taken_378 rfl rfl rfl ?_
                              exact rt_i C hr hlk jX9_taken_383 (fun H hH => ⟨_, _, _, _, ⟨(fun q hq => by refine ⟨?_, ?_, ?_, ?_, ?_, ?_⟩ <;> first | rfl | exact if_neg hq), Or.inl ⟨1, S.length, _, fun rc go hgo => by unfold prN; rw [if_neg hi, if_neg (show ¬ oc S i = 0 by omega), if_pos ho]; unfold prK; rw [if_neg hl2, if_neg (show ¬ 16 ≤ oc S (i + 1) by omega), if_pos hl4], ⟨by decide, by decide, by omega⟩, rfl, rfl⟩⟩, hH⟩)
                        · exact absurd h257 (by decide)
                      · exact absurd (nI_lt (by omega) (by omega)) h186
                    · rw [nm2 hoc (show i + 2 + 1 < S.length by omega)]
                      obtain ⟨-, hz2⟩ := oc_at hoc (show i + 2 < S.length by omega)
                      obtain ⟨-, hz3⟩ := oc_at hoc (show i + 2 + 1 < S.length by omega)
                      obtain ⟨B, hBe⟩ : ∃ B, B = oc S (i + 1) := ⟨_, rfl⟩
                      obtain ⟨S0, hSe⟩ : ∃ S0, S0 = oc S (i + 2) * 256 + oc S (i + 2 + 1) := ⟨_, rfl⟩
                      have hS0 : S0 < 65536 := by omega
                      have hpw : 2 ≤ 2 ^ (16 - B) := by have := Nat.pow_le_pow_right (n := 2) (by decide) (show 1 ≤ 16 - B by omega); simpa using this
                      have hpw2 : 2 ^ (16 - B) ≤ 65536 := by have := Nat.pow_le_pow_right (n := 2) (by decide) (show 16 - B ≤ 16 by omega); simpa using this
                      rw [← hBe] at hB ⊢
                      rw [← hSe]
                      refine b2_gt (tgt := 248) C jX9_taken_186 (by decide) (fun h186 => ?_) (fun h186 => ?_)
                      · exact absurd h186 (Int32.not_lt.mpr (nI_le (by omega) (by omega)))
                      · refine sg C foX9 coX9 oX9_taken_189 rfl rfl rfl ⟨vp_in_nI (by omega) (by decide), vp_in_nI (by omega) (by decide), trivial⟩ ?_
                        rw [hx, upd_at, upd_at]
                        refine cl_s C (kX9_stemOf hAD rfl hN (P := S0) (B := B) (by omega) (by omega)) cd_X9_stemOf in_X9 ml_X9_118 sm_X9_stemOf hd_X9_stemOf rfl rfl ⟨(Nat.le_of_ble_eq_true rfl), (Nat.le_of_ble_eq_true rfl)⟩ ⟨(Nat.le_of_ble_eq_true rfl), (Nat.le_of_ble_eq_true rfl)⟩ (Nat.le_of_ble_eq_true rfl) jX9_taken_201 (fun v ws' => Wa.and (fun hv => ?_))
                        obtain ⟨rfl, rfl⟩ := hv
                        refine sg C foX9 coX9 oX9_taken_204 rfl rfl rfl ⟨vp_in_nI (by omega) (by decide), trivial⟩ ?_
                        rw [hx, upd_at]
                        refine b2_ne (tgt := 252) C jX9_taken_210 (by decide) (fun h210 => ?_) (fun h210 => ?_)
                        · have hs : ¬ stm S0 B = S0 := fun q9 => h210 (by rw [q9])
                          refine sg0 C foX9 coX9 oX9_taken_252 rfl rfl rfl ?_
                          refine sg0 C foX9 coX9 oX9_taken_253 rfl rfl rfl ?_
                          refine b1_ne (tgt := 262) C jX9_taken_257 (by decide) (fun h257 => ?_) (fun h257 => ?_)
                          · exact absurd rfl h257
                          · refine sg0 C foX9 coX9 oX9_taken_260 rfl rfl rfl ?_
                            exact rt_i C hr hlk jX9_taken_261 (fun H hH => ⟨_, _, _, _, ⟨(fun q hq => by refine ⟨?_, ?_, ?_, ?_, ?_, ?_⟩ <;> first | rfl | exact if_neg hq), Or.inl ⟨4, (i + 2), _, fun rc go hgo => by unfold prN; rw [if_neg hi, if_neg (show ¬ oc S i = 0 by omega), if_pos ho]; unfold prK; rw [if_neg hl2, if_neg (show ¬ 16 ≤ oc S (i + 1) by omega), if_neg hl4]; exact if_neg (fun hz => hs (by rw [hSe, hBe]; exact hz.1)), ⟨by decide, by decide, by omega⟩, rfl, rfl⟩⟩, hH⟩)
                        · have hs : stm S0 B = S0 := (nI_eq (by have := stm_le S0 B; omega) (by omega)).mp h210
                          refine sg C foX9 coX9 oX9_taken_213 rfl rfl rfl ⟨vp_in_nI (by omega) (by decide), trivial⟩ ?_
                          rw [hx, upd_at]
                          refine b2_lt (tgt := 252) C jX9_taken_220 (by decide) (fun h220 => ?_) (fun h220 => ?_)
                          · have hf : ¬ f ≤ S0 := fun q9 => absurd h220 (Int32.not_lt.mpr (nI_le q9 (by omega)))
                            refine sg0 C foX9 coX9 oX9_taken_252 rfl rfl rfl ?_
                            refine sg0 C foX9 coX9 oX9_taken_253 rfl rfl rfl ?_
                            refine b1_ne (tgt := 262) C jX9_taken_257 (by decide) (fun h257 => ?_) (fun h257 => ?_)
                            · exact absurd rfl h257
                            · refine sg0 C foX9 coX9 oX9_taken_260 rfl rfl rfl ?_
                              exact rt_i C hr hlk jX9_taken_261 (fun H hH => ⟨_, _, _, _, ⟨(fun q hq => by refine ⟨?_, ?_, ?_, ?_, ?_, ?_⟩ <;> first | rfl | exact if_neg hq), Or.inl ⟨4, (i + 2), _, fun rc go hgo => by unfold prN; rw [if_neg hi, if_neg (show ¬ oc S i = 0 by omega), if_pos ho]; unfold prK; rw [if_neg hl2, if_neg (show ¬ 16 ≤ oc S (i + 1) by omega), if_neg hl4]; exact if_neg (fun hz => hf (by rw [hSe]; exact hz.2.1)), ⟨by decide, by decide, by omega⟩, rfl, rfl⟩⟩, hH⟩)
                          · have hf : f ≤ S0 := Nat.not_lt.mp fun q9 => h220 (nI_lt q9 (by omega))
                            refine sg C foX9 coX9 oX9_taken_223 rfl rfl rfl ⟨vp_in_nI (by omega) (by decide), vp_in_nI (by omega) (by decide), trivial⟩ ?_
                            rw [hx, upd_at, upd_at, one_shl16 (show B ≤ 16 by omega), nI_add, show (1 : Int32) = nI 1 from rfl, pk_sub (by omega)]
                            refine b2_gt (tgt := 252) C jX9_taken_245 (by decide) (fun h245 => ?_) (fun h245 => ?_)
                            · have ht : ¬ S0 + 2 ^ (16 - B) - 1 ≤ t := fun q9 => absurd h245 (Int32.not_lt.mpr (nI_le q9 (by omega)))
                              refine sg0 C foX9 coX9 oX9_taken_252 rfl rfl rfl ?_
                              refine sg0 C foX9 coX9 oX9_taken_253 rfl rfl rfl ?_
                              refine b1_ne (tgt := 262) C jX9_taken_257 (by decide) (fun h257 => ?_) (fun h257 => ?_)
                              · exact absurd rfl h257
                              · refine sg0 C foX9 coX9 oX9_taken_260 rfl rfl rfl ?_
                                exact rt_i C hr hlk jX9_taken_261 (fun H hH => ⟨_, _, _, _, ⟨(fun q hq => by refine ⟨?_, ?_, ?_, ?_, ?_, ?_⟩ <;> first | rfl | exact if_neg hq), Or.inl ⟨4, (i + 2), _, fun rc go hgo => by unfold prN; rw [if_neg hi, if_neg (show ¬ oc S i = 0 by omega), if_pos ho]; unfold prK; rw [if_neg hl2, if_neg (show ¬ 16 ≤ oc S (i + 1) by omega), if_neg hl4]; exact if_neg (fun hz => ht (by rw [hSe, hBe]; exact hz.2.2.1)), ⟨by decide, by decide, by omega⟩, rfl, rfl⟩⟩, hH⟩)
                            · have ht : S0 + 2 ^ (16 - B) - 1 ≤ t := Nat.not_lt.mp fun q9 => h245 (nI_lt q9 (by omega))
                              refine sg0 C foX9 coX9 oX9_taken_248 rfl rfl rfl ?_
                              refine sg0 C foX9 coX9 oX9_taken_253 rfl rfl rfl ?_
                              refine b1_ne (tgt := 262) C jX9_taken_257 (by decide) (fun h257 => ?_) (fun h257 => ?_)
                              · refine sg0 C foX9 coX9 oX9_taken_262 rfl rfl rfl ?_
                                refine sg0 C foX9 coX9 oX9_taken_341 rfl rfl rfl ?_
                                refine b2_le (tgt := 360) C jX9_taken_350 (by decide) (fun h350 => ?_) (fun h350 => ?_)
                                · refine sg0 C foX9 coX9 oX9_taken_360 rfl rfl rfl ?_
                                  refine sg0 C foX9 coX9 oX9_taken_364 rfl rfl rfl ?_
                                  refine b2_le (tgt := 382) C jX9_taken_375 (by decide) (fun h375 => ?_) (fun h375 => ?_)
                                  · refine sg0 C foX9 coX9 oX9_taken_382 rfl rfl rfl ?_
                                    exact rt_i C hr hlk jX9_taken_383 (fun H hH => ⟨_, _, _, _, ⟨(fun q hq => by refine ⟨?_, ?_, ?_, ?_, ?_, ?_⟩ <;> first | rfl | exact if_neg hq), Or.inr (Or.inr ⟨B, S0, _, fun rc go hgo => by subst hBe hSe; unfold prN; rw [if_neg hi, if_neg (show ¬ oc S i = 0 by omega), if_pos ho]; unfold prK; rw [if_neg hl2, if_neg (show ¬ 16 ≤ oc S (i + 1) by omega), if_neg hl4]; exact if_pos ⟨hs, hf, ht, hgo.elim id (fun q9 => absurd hpw (by omega))⟩, ⟨hB, hs, hf, ht, by omega⟩, rfl, rfl, upd_at.trans (congrArg nI ho), upd_at, upd_at⟩)⟩, hH⟩)
                                  · exact absurd (nI_le (by omega) (by omega)) h375
                                · exact absurd (nI_le (by omega) (by omega)) h350
                              · exact absurd h257 (by decide) --end
                  · have hB : ¬ oc S (i + 1) ≤ 15 := fun q9 => h153 (show nI (oc S (i + 1)) ≤ nI 15 from nI_le q9 (by decide))
                    refine sg0 C foX9 coX9 oX9_taken_156 rfl rfl rfl ?_
                    exact rt_i C hr hlk jX9_taken_157 (fun H hH => ⟨_, _, _, _, ⟨(fun q hq => by refine ⟨?_, ?_, ?_, ?_, ?_, ?_⟩ <;> first | rfl | exact if_neg hq), Or.inl ⟨3, (i + 1), _, fun rc go hgo => by unfold prN; rw [if_neg hi, if_neg (show ¬ oc S i = 0 by omega), if_pos ho]; unfold prK; rw [if_neg hl2, if_pos (show 16 ≤ oc S (i + 1) by omega)], ⟨by decide, by decide, by omega⟩, rfl, rfl⟩⟩, hH⟩) --end
          · exact absurd h86 (by rw [ho]; decide)
        · exact absurd h71 (by rw [ho]; decide)
    · 
      refine b2_gt (tgt := 78) C jX9_taken_61 (by decide) (fun h61 => ?_) (fun h61 => ?_)
      · exact absurd h61 (by rw [ho]; decide)
      · refine sg C foX9 coX9 oX9_taken_64 rfl rfl rfl ⟨vp_in_nI (by omega) (by decide), trivial⟩ ?_
        rw [hx, upd_at]
        refine b2_ne (tgt := 80) C jX9_taken_71 (by decide) (fun h71 => ?_) (fun h71 => ?_)
        · refine sg C foX9 coX9 oX9_taken_80 rfl rfl rfl ⟨vp_in_nI (by omega) (by decide), trivial⟩ ?_
          rw [hx, upd_at]
          refine b1_ne (tgt := 104) C jX9_taken_86 (by decide) (fun h86 => ?_) (fun h86 => ?_)
          · refine sg C foX9 coX9 oX9_taken_104 rfl rfl rfl ⟨vp_in_nI (by omega) (by decide), trivial⟩ ?_
            rw [hx, upd_at]
            refine b2_ne (tgt := 265) C jX9_taken_111 (by decide) (fun h111 => ?_) (fun h111 => ?_)
            · refine sg C foX9 coX9 oX9_taken_265 rfl rfl rfl ⟨vp_in_nI (by omega) (by decide), trivial⟩ ?_
              rw [hx, upd_at]
              refine b2_ne (tgt := 341) C jX9_taken_272 (by decide) (fun h272 => ?_) (fun h272 => ?_)
              · exact absurd (by rw [ho]; rfl) h272
              · refine sg0 C foX9 coX9 oX9_taken_275 rfl rfl rfl ?_
                refine cl_v C (kX9_numeral hAD hN hS hlen (n0 := 2) (i := i + 1) (by decide) (by omega)) (rcv (ci := 8) C.2.1 rfl rfl) cd_X9_numeral in_X9 ml_X9_172 im_X9_numeral se_X9_numeral hd_X9_numeral rfl rfl ⟨(Nat.le_of_ble_eq_true rfl), (Nat.le_of_ble_eq_true rfl)⟩ ⟨(Nat.le_of_ble_eq_true rfl), (Nat.le_of_ble_eq_true rfl)⟩ (Nat.le_of_ble_eq_true rfl) jX9_taken_290 (fun v ws' => Wa.and (fun hv => ?_))
                obtain ⟨rfl, rfl⟩ := hv
                refine sg C foX9 coX9 oX9_taken_293 rfl rfl rfl ⟨vp_in_nI (by omega) (by decide), trivial⟩ ?_
                rw [hx]
                by_cases hl3 : S.length < i + 3
                · refine b2_gt (tgt := 329) C jX9_taken_303 (by decide) (fun h303 => ?_) (fun h303 => ?_)
                  · refine sg0 C foX9 coX9 oX9_taken_329 rfl rfl rfl ?_
                    refine cl_v C (kX9_numeral hAD hN hS hlen (n0 := 8) (i := i + 3) (by decide) (by omega)) (rcv (ci := 8) C.2.1 rfl rfl) cd_X9_numeral in_X9 ml_X9_172 im_X9_numeral se_X9_numeral hd_X9_numeral rfl rfl ⟨(Nat.le_of_ble_eq_true rfl), (Nat.le_of_ble_eq_true rfl)⟩ ⟨(Nat.le_of_ble_eq_true rfl), (Nat.le_of_ble_eq_true rfl)⟩ (Nat.le_of_ble_eq_true rfl) jX9_taken_337 (fun v ws' => Wa.and (fun hv => ?_))
                    obtain ⟨rfl, rfl⟩ := hv
                    refine sg C foX9 coX9 oX9_taken_340 rfl rfl rfl ⟨vp_in_nI (by omega) (by decide), trivial⟩ ?_
                    rw [hx]
                    refine sg0 C foX9 coX9 oX9_taken_341 rfl rfl rfl ?_
                    refine b2_le (tgt := 360) C jX9_taken_350 (by decide) (fun h350 => ?_) (fun h350 => ?_)
                    · exact absurd h350 (nI_ge (by omega) (by omega))
                    · refine sg0 C foX9 coX9 oX9_taken_353 rfl rfl rfl ?_
                      refine sg0 C foX9 coX9 oX9_taken_364 rfl rfl rfl ?_
                      refine b2_le (tgt := 382) C jX9_taken_375 (by decide) (fun h375 => ?_) (fun h375 => ?_)
                      · exact absurd h375 (nI_ge (by omega) (by omega))
                      · refine sg0 C foX9 coX9 oX9_taken_378 rfl rfl rfl ?_
                        exact rt_i C hr hlk jX9_taken_383 (fun H hH => ⟨_, _, _, _, ⟨(fun q hq => by refine ⟨?_, ?_, ?_, ?_, ?_, ?_⟩ <;> first | rfl | exact if_neg hq), Or.inl ⟨1, S.length, _, fun rc go hgo => by unfold prN; rw [if_neg hi, if_neg (show ¬ oc S i = 0 by omega), if_neg (show ¬ oc S i = 1 by omega), if_pos ho]; unfold prL; rw [if_pos hl3], ⟨by decide, by decide, by omega⟩, rfl, rfl⟩⟩, hH⟩)
                  · exact absurd (nI_lt (by omega) (by omega)) h303
                · rw [nm2 hoc (show i + 1 + 1 < S.length by omega)]
                  obtain ⟨-, hz1⟩ := oc_at hoc (show i + 1 < S.length by omega)
                  obtain ⟨-, hz2⟩ := oc_at hoc (show i + 1 + 1 < S.length by omega)
                  refine b2_gt (tgt := 329) C jX9_taken_303 (by decide) (fun h303 => ?_) (fun h303 => ?_)
                  · exact absurd h303 (Int32.not_lt.mpr (nI_le (by omega) (by omega)))
                  · refine sg C foX9 coX9 oX9_taken_306 rfl rfl rfl ⟨vp_in_nI (by omega) (by decide), trivial⟩ ?_
                    rw [hx, upd_at]
                    refine b2_lt (tgt := 327) C jX9_taken_313 (by decide) (fun h313 => ?_) (fun h313 => ?_)
                    · have hf : ¬ f ≤ oc S (i + 1) * 256 + oc S (i + 1 + 1) := fun q9 => absurd h313 (Int32.not_lt.mpr (nI_le q9 (by omega)))
                      refine sg0 C foX9 coX9 oX9_taken_327 rfl rfl rfl ?_
                      exact rt_i C hr hlk jX9_taken_328 (fun H hH => ⟨_, _, _, _, ⟨(fun q hq => by refine ⟨?_, ?_, ?_, ?_, ?_, ?_⟩ <;> first | rfl | exact if_neg hq), Or.inl ⟨5, (i + 1), _, fun rc go hgo => by unfold prN; rw [if_neg hi, if_neg (show ¬ oc S i = 0 by omega), if_neg (show ¬ oc S i = 1 by omega), if_pos ho]; unfold prL; rw [if_neg hl3]; exact if_neg (fun hz => hf hz.1), ⟨by decide, by decide, by omega⟩, rfl, rfl⟩⟩, hH⟩)
                    · have hf : f ≤ oc S (i + 1) * 256 + oc S (i + 1 + 1) := Nat.not_lt.mp fun q9 => h313 (nI_lt q9 (by omega))
                      refine sg C foX9 coX9 oX9_taken_316 rfl rfl rfl ⟨vp_in_nI (by omega) (by decide), trivial⟩ ?_
                      rw [hx, upd_at]
                      refine b2_le (tgt := 329) C jX9_taken_324 (by decide) (fun h324 => ?_) (fun h324 => ?_)
                      · have ht : oc S (i + 1) * 256 + oc S (i + 1 + 1) ≤ t := (nI_leI (by omega) (by omega)).mp h324
                        refine sg0 C foX9 coX9 oX9_taken_329 rfl rfl rfl ?_
                        refine cl_v C (kX9_numeral hAD hN hS hlen (n0 := 8) (i := i + 3) (by decide) (by omega)) (rcv (ci := 8) C.2.1 rfl rfl) cd_X9_numeral in_X9 ml_X9_172 im_X9_numeral se_X9_numeral hd_X9_numeral rfl rfl ⟨(Nat.le_of_ble_eq_true rfl), (Nat.le_of_ble_eq_true rfl)⟩ ⟨(Nat.le_of_ble_eq_true rfl), (Nat.le_of_ble_eq_true rfl)⟩ (Nat.le_of_ble_eq_true rfl) jX9_taken_337 (fun v ws' => Wa.and (fun hv => ?_))
                        obtain ⟨rfl, rfl⟩ := hv
                        refine sg C foX9 coX9 oX9_taken_340 rfl rfl rfl ⟨vp_in_nI (by omega) (by decide), trivial⟩ ?_
                        rw [hx]
                        by_cases hl : S.length < i + 11
                        · refine sg0 C foX9 coX9 oX9_taken_341 rfl rfl rfl ?_
                          refine b2_le (tgt := 360) C jX9_taken_350 (by decide) (fun h350 => ?_) (fun h350 => ?_)
                          · exact absurd h350 (nI_ge (by omega) (by omega))
                          · refine sg0 C foX9 coX9 oX9_taken_353 rfl rfl rfl ?_
                            refine sg0 C foX9 coX9 oX9_taken_364 rfl rfl rfl ?_
                            refine b2_le (tgt := 382) C jX9_taken_375 (by decide) (fun h375 => ?_) (fun h375 => ?_)
                            · exact absurd h375 (nI_ge (by omega) (by omega))
                            · refine sg0 C foX9 coX9 oX9_taken_378 rfl rfl rfl ?_
                              exact rt_i C hr hlk jX9_taken_383 (fun H hH => ⟨_, _, _, _, ⟨(fun q hq => by refine ⟨?_, ?_, ?_, ?_, ?_, ?_⟩ <;> first | rfl | exact if_neg hq), Or.inl ⟨1, S.length, _, fun rc go hgo => by unfold prN; rw [if_neg hi, if_neg (show ¬ oc S i = 0 by omega), if_neg (show ¬ oc S i = 1 by omega), if_pos ho]; unfold prL; rw [if_neg hl3, if_pos (show f ≤ oc S (i + 1) * 256 + oc S (i + 2) ∧ oc S (i + 1) * 256 + oc S (i + 2) ≤ t from ⟨hf, ht⟩), if_pos hl], ⟨by decide, by decide, by omega⟩, rfl, rfl⟩⟩, hH⟩)
                        · refine sg0 C foX9 coX9 oX9_taken_341 rfl rfl rfl ?_
                          refine b2_le (tgt := 360) C jX9_taken_350 (by decide) (fun h350 => ?_) (fun h350 => ?_)
                          · refine sg0 C foX9 coX9 oX9_taken_360 rfl rfl rfl ?_
                            refine sg0 C foX9 coX9 oX9_taken_364 rfl rfl rfl ?_
                            refine b2_le (tgt := 382) C jX9_taken_375 (by decide) (fun h375 => ?_) (fun h375 => ?_)
                            · refine sg0 C foX9 coX9 oX9_taken_382 rfl rfl rfl ?_
                              exact rt_i C hr hlk jX9_taken_383 (fun H hH => ⟨_, _, _, _, ⟨(fun q hq => by refine ⟨?_, ?_, ?_, ?_, ?_, ?_⟩ <;> first | rfl | exact if_neg hq), Or.inr (Or.inl ⟨tL x (oc S (i + 1) * 256 + oc S (i + 1 + 1)) (nmF S 8 (i + 3) 0), (i + 11), _, fun rc go hgo => by unfold prN; rw [if_neg hi, if_neg (show ¬ oc S i = 0 by omega), if_neg (show ¬ oc S i = 1 by omega), if_pos ho]; unfold prL; rw [if_neg hl3, if_pos (show f ≤ oc S (i + 1) * 256 + oc S (i + 2) ∧ oc S (i + 1) * 256 + oc S (i + 2) ≤ t from ⟨hf, ht⟩), if_neg hl]; rfl, ⟨trivial, rfl, rfl, Or.inl (by omega)⟩, rfl, rfl, ⟨upd_at.trans (by rw [ho]; rfl), upd_at, upL_at⟩⟩)⟩, hH⟩)
                            · exact absurd (nI_le (by omega) (by omega)) h375
                          · exact absurd (nI_le (by omega) (by omega)) h350
                      · have ht : ¬ oc S (i + 1) * 256 + oc S (i + 1 + 1) ≤ t := fun q9 => h324 (nI_le q9 (by omega))
                        refine sg0 C foX9 coX9 oX9_taken_327 rfl rfl rfl ?_
                        exact rt_i C hr hlk jX9_taken_328 (fun H hH => ⟨_, _, _, _, ⟨(fun q hq => by refine ⟨?_, ?_, ?_, ?_, ?_, ?_⟩ <;> first | rfl | exact if_neg hq), Or.inl ⟨5, (i + 1), _, fun rc go hgo => by unfold prN; rw [if_neg hi, if_neg (show ¬ oc S i = 0 by omega), if_neg (show ¬ oc S i = 1 by omega), if_pos ho]; unfold prL; rw [if_neg hl3]; exact if_neg (fun hz => ht hz.2), ⟨by decide, by decide, by omega⟩, rfl, rfl⟩⟩, hH⟩) --end
            · exact absurd h111 (by rw [ho]; decide)
          · exact absurd h86 (by rw [ho]; decide)
        · exact absurd h71 (by rw [ho]; decide)
    · cases w with
      | false =>
        refine b2_gt (tgt := 78) C jX9_taken_61 (by decide) (fun h61 => ?_) (fun h61 => ?_)
        · exact absurd h61 (by rw [ho]; decide)
        · refine sg C foX9 coX9 oX9_taken_64 rfl rfl rfl ⟨vp_in_nI (by omega) (by decide), trivial⟩ ?_
          rw [hx, upd_at]
          refine b2_ne (tgt := 80) C jX9_taken_71 (by decide) (fun h71 => ?_) (fun h71 => ?_)
          · exact absurd (by rw [ho]; rfl) h71
          · refine sg0 C foX9 coX9 oX9_taken_74 rfl rfl rfl ?_
            refine b1_ne (tgt := 80) C jX9_taken_75 (by decide) (fun h75 => ?_) (fun h75 => ?_)
            · exact absurd rfl h75
            · refine sg0 C foX9 coX9 oX9_taken_78 rfl rfl rfl ?_
              exact rt_i C hr hlk jX9_taken_79 (fun H hH => ⟨_, _, _, _, ⟨(fun q hq => by refine ⟨?_, ?_, ?_, ?_, ?_, ?_⟩ <;> first | rfl | exact if_neg hq), Or.inl ⟨2, i, _, fun rc go hgo => by unfold prN; rw [if_neg hi, if_neg (show ¬ oc S i = 0 by omega), if_neg (show ¬ oc S i = 1 by omega), if_neg (show ¬ oc S i = 2 by omega)]; exact if_neg (fun hz => by cases hz.2), ⟨by decide, by decide, by omega⟩, rfl, rfl⟩⟩, hH⟩)
      | true =>
        refine b2_gt (tgt := 78) C jX9_taken_61 (by decide) (fun h61 => ?_) (fun h61 => ?_)
        · exact absurd h61 (by rw [ho]; decide)
        · refine sg C foX9 coX9 oX9_taken_64 rfl rfl rfl ⟨vp_in_nI (by omega) (by decide), trivial⟩ ?_
          rw [hx, upd_at]
          refine b2_ne (tgt := 80) C jX9_taken_71 (by decide) (fun h71 => ?_) (fun h71 => ?_)
          · exact absurd (by rw [ho]; rfl) h71
          · refine sg0 C foX9 coX9 oX9_taken_74 rfl rfl rfl ?_
            refine b1_ne (tgt := 80) C jX9_taken_75 (by decide) (fun h75 => ?_) (fun h75 => ?_)
            · refine sg C foX9 coX9 oX9_taken_80 rfl rfl rfl ⟨vp_in_nI (by omega) (by decide), trivial⟩ ?_
              rw [hx, upd_at]
              refine b1_ne (tgt := 104) C jX9_taken_86 (by decide) (fun h86 => ?_) (fun h86 => ?_)
              · refine sg C foX9 coX9 oX9_taken_104 rfl rfl rfl ⟨vp_in_nI (by omega) (by decide), trivial⟩ ?_
                rw [hx, upd_at]
                refine b2_ne (tgt := 265) C jX9_taken_111 (by decide) (fun h111 => ?_) (fun h111 => ?_)
                · refine sg C foX9 coX9 oX9_taken_265 rfl rfl rfl ⟨vp_in_nI (by omega) (by decide), trivial⟩ ?_
                  rw [hx, upd_at]
                  refine b2_ne (tgt := 341) C jX9_taken_272 (by decide) (fun h272 => ?_) (fun h272 => ?_)
                  · refine sg0 C foX9 coX9 oX9_taken_341 rfl rfl rfl ?_
                    refine b2_le (tgt := 360) C jX9_taken_350 (by decide) (fun h350 => ?_) (fun h350 => ?_)
                    · refine sg0 C foX9 coX9 oX9_taken_360 rfl rfl rfl ?_
                      refine sg0 C foX9 coX9 oX9_taken_364 rfl rfl rfl ?_
                      refine b2_le (tgt := 382) C jX9_taken_375 (by decide) (fun h375 => ?_) (fun h375 => ?_)
                      · refine sg0 C foX9 coX9 oX9_taken_382 rfl rfl rfl ?_
                        exact rt_i C hr hlk jX9_taken_383 (fun H hH => ⟨_, _, _, _, ⟨(fun q hq => by refine ⟨?_, ?_, ?_, ?_, ?_, ?_⟩ <;> first | rfl | exact if_neg hq), Or.inr (Or.inl ⟨tE x, (i + 1), _, fun rc go hgo => by unfold prN; rw [if_neg hi, if_neg (show ¬ oc S i = 0 by omega), if_neg (show ¬ oc S i = 1 by omega), if_neg (show ¬ oc S i = 2 by omega), if_pos (show oc S i = 3 ∧ true = true from ⟨ho, rfl⟩)]; rfl, ⟨trivial, rfl, rfl, Or.inr rfl⟩, rfl, rfl, upd_at.trans (by rw [ho]; rfl)⟩)⟩, hH⟩)
                      · exact absurd (nI_le (by omega) (by omega)) h375
                    · exact absurd (nI_le (by omega) (by omega)) h350
                  · exact absurd h272 (by rw [ho]; decide)
                · exact absurd h111 (by rw [ho]; decide)
              · exact absurd h86 (by rw [ho]; decide)
            · exact absurd h75 (by decide)
    · 
      refine b2_gt (tgt := 78) C jX9_taken_61 (by decide) (fun h61 => ?_) (fun h61 => ?_)
      · refine sg0 C foX9 coX9 oX9_taken_78 rfl rfl rfl ?_
        exact rt_i C hr hlk jX9_taken_79 (fun H hH => ⟨_, _, _, _, ⟨(fun q hq => by refine ⟨?_, ?_, ?_, ?_, ?_, ?_⟩ <;> first | rfl | exact if_neg hq), Or.inl ⟨2, i, _, fun rc go hgo => by unfold prN; rw [if_neg hi, if_neg (show ¬ oc S i = 0 by omega), if_neg (show ¬ oc S i = 1 by omega), if_neg (show ¬ oc S i = 2 by omega)]; exact if_neg (fun hz => by omega), ⟨by decide, by decide, by omega⟩, rfl, rfl⟩⟩, hH⟩)
      · exact absurd (show nI 3 < nI (oc S i) from nI_lt (by omega) (by omega)) h61 --end
  · have hi : S.length ≤ i := Nat.not_lt.mp fun q9 => h8 (nI_lt q9 (by omega))
    refine sg0 C foX9 coX9 oX9_taken_11 rfl rfl rfl ?_
    exact rt_i C hr hlk jX9_taken_20 (fun H hH => ⟨_, _, _, _, ⟨(fun q hq => by refine ⟨?_, ?_, ?_, ?_, ?_, ?_⟩ <;> first | rfl | exact if_neg hq), Or.inl ⟨1, S.length, _, fun rc go hgo => by unfold prN; rw [if_pos hi], ⟨by decide, by decide, by omega⟩, rfl, rfl⟩⟩, hH⟩)
end
