/-! the model: octets laid, tapes, ranges, numbers -/
theorem m_oct {v : Int64} {j : Nat} (hj : j < 8) : ((v >>> (((8 : Int32) * nI j).toInt64 &&& 63)) &&& 255).toInt32 = octX v j := by
  have key : ∀ s : Nat, s ≤ 56 → ∀ (a : Int64) (b : UInt64), a.toBitVec.smod 64 = BitVec.ofNat 64 s → b.toBitVec % 64 = BitVec.ofNat 64 s → ((v >>> a) &&& 255).toInt32 = ((v.toUInt64 >>> b).toInt64.toInt32) &&& 255 := by
    intro s hs a b ha hb
    apply Int32.toBitVec_inj.mp
    rw [Int32.toBitVec_and]
    show ((v >>> a) &&& 255).toBitVec.signExtend 32 = (v.toUInt64 >>> b).toBitVec.signExtend 32 &&& _
    rw [Int64.toBitVec_and, Int64.toBitVec_shiftRight, UInt64.toBitVec_shiftRight, ha, hb]
    apply BitVec.eq_of_getLsbD_eq
    intro i hi
    simp
    rw [Nat.mod_eq_of_lt (show s < 18446744073709551616 by omega)]
    have h8 : ∀ i, i < 32 → 8 ≤ i → (255#32).getLsbD i = false := by decide
    by_cases hi8 : i < 8
    · rw [BitVec.getLsbD_signExtend, BitVec.getLsbD_signExtend, BitVec.getLsbD_sshiftRight, BitVec.getLsbD_ushiftRight]
      simp [show i < 64 by omega, show s + i < 64 by omega, show ¬ 64 ≤ i by omega]
    · rw [h8 i hi (by omega), Bool.and_false, Bool.and_false]
  refine key (8 * j) (by omega) _ _ ?_ ?_
  · rcases (show j = 0 ∨ j = 1 ∨ j = 2 ∨ j = 3 ∨ j = 4 ∨ j = 5 ∨ j = 6 ∨ j = 7 by omega) with rfl | rfl | rfl | rfl | rfl | rfl | rfl | rfl <;> decide
  · rcases (show j = 0 ∨ j = 1 ∨ j = 2 ∨ j = 3 ∨ j = 4 ∨ j = 5 ∨ j = 6 ∨ j = 7 by omega) with rfl | rfl | rfl | rfl | rfl | rfl | rfl | rfl <;> decide
theorem octX_ok (v : Int64) (j : Nat) : ∃ o : Nat, o < 256 ∧ octX v j = nI o := by
  obtain ⟨x, hx, e⟩ := wb_of32 ((v.toUInt64 >>> (((8 : Int32) * nI j).toInt64.toUInt64 &&& Int64.toUInt64 63)).toInt64.toInt32)
  refine ⟨x % 2 ^ 8, Nat.mod_lt _ (by decide), ?_⟩
  unfold octX
  rw [e]
  exact pk_andN (by omega) 8 (by decide)
theorem octs_ok : ∀ (j : Nat) (v : Int64), ocOk (octs j v)
  | 0, _ => fun x hx => absurd hx (by simp [octs])
  | j + 1, v => fun x hx => by
    rcases List.mem_cons.mp hx with rfl | hx
    · exact octX_ok v j
    · exact octs_ok j v x hx
theorem ocOk.app {S1 S2 : List Int32} (h1 : ocOk S1) (h2 : ocOk S2) : ocOk (S1 ++ S2) := fun x hx => (List.mem_append.mp hx).elim (h1 x) (h2 x)
theorem shw_oc (Rg : List (Nat × Nat)) (T : Term) (h : isT T) : ∀ f t : Nat, ocOk (shwT Rg T f t) := by
  refine tr_ind (P := fun T => ∀ f t : Nat, ocOk (shwT Rg T f t)) ?_ ?_ ?_ ?_ T h
  · intro q f t
    simp only [shwT]
    split
    · exact octs_ok _ _
    · exact (octs_ok _ _).app (octs_ok _ _)
  · exact fun q d f t => (octs_ok _ _).app (octs_ok _ _)
  · intro q p v f t
    simp only [shwT]
    split
    · exact (octs_ok _ _).app ((octs_ok _ _).app (octs_ok _ _))
    · exact (octs_ok _ _).app (octs_ok _ _)
  · intro q B S x y h1 h2 i1 i2 f t
    simp only [shwT]
    split
    · exact (octs_ok _ _).app ((octs_ok _ _).app ((octs_ok _ _).app ((i1 _ _).app (i2 _ _))))
    · exact (octs_ok _ _).app (octs_ok _ _)
section
variable {p : Program} {l : Launch} {e : Env} {R : Room} {s : State} {m : MethodId} {args : Array Value} {below : List Frame} {meth : Method} {c : Code} {cells slots : Nat} {QQ : State → Prop} {D : va_G} {ca : Nat → ClassId} {ad : Nat → Nat} {A : Nat → Prop} {N : Heap → Prop} {pa : Nat → Int32} {va : Nat → Int64} {sz : Nat → Int32} {fr : Nat → Int32} {tw : Nat → Int32} {ta : Nat → Int32} {wd : Nat → Int64} {wb : Nat → Int32} {wp : Nat → Int32} {ou : Nat → Int32} {o1 : Nat → Int32} {o2 : Nat → Int32} {pf : Nat → Int32} {pt : Nat → Int32} {ki : Nat → Int32} {bi : Nat → Int32} {ste : Nat → Int32} {hel : Nat → Int64} {low : Nat → Int32} {hgh : Nat → Int32} {su : Nat → Int64} {ro : Nat → Int32} {fe : Nat → Int32} {vs : Int32} {wn : Int32} {tp : Int32} {dp : Int32} {la : Int32} {rst : Int32} {hlf : Int32} {nd : Int32} {rt : Int32} {frd : Int32} {fa : Int32} {at_ : Int32} {end_ : Int32} {ab : Int32} {fo : Int64} {co : Int32} {ll : Int32} {lh : Int32} {hm : Int32}
set_option maxRecDepth 100000 in
set_option maxHeartbeats 4000000 in
theorem lp_feed9 (C : Cx p s m args c cX9_feed 5 RX9 D ca ad A N 24) {x1 : Int32} {v : Int64} : ∀ (j : Nat) (S : List Int32) (so : Nat → Int32), j ≤ 8 → tpR so S → S.length + j ≤ 4000 → (∀ so2 : Nat → Int32, tpR so2 (S ++ octs j v) → Wa p l e R s m args below meth c cells slots QQ D ca ad A 5 N ([(0, .ref 0), (1, .int x1), (2, .long v), (4, .int (nI 0 - 1))], [], (mW pa va sz fr tw so2 wd wb wp ou o1 o2 pf pt ki bi ste hel low hgh su ro fe vs wn (nI (S ++ octs j v).length) dp la rst hlf nd rt frd fa at_ end_ ab fo co ll lh hm)) 75) → Wa p l e R s m args below meth c cells slots QQ D ca ad A 5 N ([(0, .ref 0), (1, .int x1), (2, .long v), (4, .int (nI j - 1))], [], (mW pa va sz fr tw so wd wb wp ou o1 o2 pf pt ki bi ste hel low hgh su ro fe vs wn (nI S.length) dp la rst hlf nd rt frd fa at_ end_ ab fo co ll lh hm)) 33 := by
  intro j
  induction j with
  | zero =>
    intro S so h0 h1 h2 hK
    have hK := hK so (by simpa [octs] using h1)
    rw [show S ++ octs 0 v = S by simp [octs]] at hK
    refine sg0 C foX9 coX9 oX9_feed_33 rfl rfl rfl ?_
    exact b1_lt (tgt := 75) C jX9_feed_35 (by decide) (fun _ => hK) (fun h7 => absurd (by decide) h7)
  | succ j ih =>
    intro S so h0 h1 h2 hK
    rw [nI_pred j]
    refine sg0 C foX9 coX9 oX9_feed_33 rfl rfl rfl ?_
    refine b1_lt (tgt := 75) C jX9_feed_35 (by decide) (fun h35 => ?_) (fun h35 => ?_)
    · exact absurd h35 (nI_pos (by omega))
    · refine sg C foX9 coX9 oX9_feed_38 rfl rfl rfl ⟨vp_in_nI (by omega) (by decide), trivial⟩ ?_
      rw [m_oct (show j < 8 by omega)]
      rw [nI_1, sub_m1]
      have h9 := ih (S ++ [octX v j]) _ (by omega) (tpR_push h1 _ (nI_clamp (by omega))) (by simp; omega) (fun so2 q => by
        have h8 := hK so2 (by rw [show S ++ octs (j + 1) v = S ++ [octX v j] ++ octs j v by simp [octs]]; exact q)
        rw [show S ++ octs (j + 1) v = S ++ [octX v j] ++ octs j v by simp [octs]] at h8
        exact h8)
      rw [show (S ++ [octX v j]).length = S.length + 1 by simp] at h9
      exact h9
end
section
variable {p : Program} {l : Launch} {e : Env} {R : Room} {s : State} {m : MethodId} {args : Array Value} {below : List Frame} {meth : Method} {c : Code} {cells slots : Nat} {QQ : State → Prop} {D : va_G} {ca : Nat → ClassId} {ad : Nat → Nat} {A : Nat → Prop} {N : Heap → Prop} {pa : Nat → Int32} {va : Nat → Int64} {sz : Nat → Int32} {fr : Nat → Int32} {tw : Nat → Int32} {ta : Nat → Int32} {wd : Nat → Int64} {wb : Nat → Int32} {wp : Nat → Int32} {ou : Nat → Int32} {o1 : Nat → Int32} {o2 : Nat → Int32} {pf : Nat → Int32} {pt : Nat → Int32} {ki : Nat → Int32} {bi : Nat → Int32} {ste : Nat → Int32} {hel : Nat → Int64} {low : Nat → Int32} {hgh : Nat → Int32} {su : Nat → Int64} {ro : Nat → Int32} {fe : Nat → Int32} {vs : Int32} {wn : Int32} {tp : Int32} {dp : Int32} {la : Int32} {rst : Int32} {hlf : Int32} {nd : Int32} {rt : Int32} {frd : Int32} {fa : Int32} {at_ : Int32} {end_ : Int32} {ab : Int32} {fo : Int64} {co : Int32} {ll : Int32} {lh : Int32} {hm : Int32}
set_option maxRecDepth 100000 in
set_option maxHeartbeats 4000000 in
theorem lp_lay (C : Cx p s m args c cX9_lay 5 RX9 D ca ad A N 24) {x1 : Int32} {v : Int64} : ∀ (j : Nat) (S : List Int32) (so : Nat → Int32), j ≤ 8 → tpR so S → S.length + j < 2 ^ 31 → (∀ so2 : Nat → Int32, tpR so2 (S ++ octs j v) → Wa p l e R s m args below meth c cells slots QQ D ca ad A 5 N ([(0, .ref 0), (1, .long v), (3, .int x1), (4, .int (nI 0 - 1))], [], (mW pa va sz fr tw ta wd wb wp so2 o1 o2 pf pt ki bi ste hel low hgh su ro fe vs wn tp dp (nI (S ++ octs j v).length) rst hlf nd rt frd fa at_ end_ ab fo co ll lh hm)) 57) → Wa p l e R s m args below meth c cells slots QQ D ca ad A 5 N ([(0, .ref 0), (1, .long v), (3, .int x1), (4, .int (nI j - 1))], [], (mW pa va sz fr tw ta wd wb wp so o1 o2 pf pt ki bi ste hel low hgh su ro fe vs wn tp dp (nI S.length) rst hlf nd rt frd fa at_ end_ ab fo co ll lh hm)) 5 := by
  intro j
  induction j with
  | zero =>
    intro S so h0 h1 h2 hK
    have hK := hK so (by simpa [octs] using h1)
    rw [show S ++ octs 0 v = S by simp [octs]] at hK
    refine sg0 C foX9 coX9 oX9_lay_5 rfl rfl rfl ?_
    exact b1_lt (tgt := 57) C jX9_lay_7 (by decide) (fun _ => hK) (fun h7 => absurd (by decide) h7)
  | succ j ih =>
    intro S so h0 h1 h2 hK
    rw [nI_pred j]
    refine sg0 C foX9 coX9 oX9_lay_5 rfl rfl rfl ?_
    refine b1_lt (tgt := 57) C jX9_lay_7 (by decide) (fun h7 => ?_) (fun h7 => ?_)
    · exact absurd h7 (nI_pos (by omega))
    · refine sg0 C foX9 coX9 oX9_lay_10 rfl rfl rfl ?_
      refine b2_ge (tgt := 41) C jX9_lay_17 (by decide) (fun h17 => ?_) (fun h17 => ?_)
      · have hq : 4000 ≤ S.length := Nat.not_lt.mp fun q => absurd h17 (by rw [show (4000 : Int32) = nI 4000 from rfl]; exact nI_ge q (by decide))
        refine sg0 C foX9 coX9 oX9_lay_41 rfl rfl rfl ?_
        rw [nI_1, sub_m1]
        have h9 := ih (S ++ [octX v j]) so (by omega) (tpR_over h1 hq) (by simp; omega) (fun so2 q => by
          have h8 := hK so2 (by rw [show S ++ octs (j + 1) v = S ++ [octX v j] ++ octs j v by simp [octs]]; exact q)
          rw [show S ++ octs (j + 1) v = S ++ [octX v j] ++ octs j v by simp [octs]] at h8
          exact h8)
        rw [show (S ++ [octX v j]).length = S.length + 1 by simp] at h9
        exact h9
      · have hq : S.length < 4000 := Nat.not_le.mp fun q => h17 (by rw [show (4000 : Int32) = nI 4000 from rfl]; exact nI_le q (by omega))
        refine sg C foX9 coX9 oX9_lay_20 rfl rfl rfl ⟨vp_in_nI hq (by decide), trivial⟩ ?_
        refine sg0 C foX9 coX9 oX9_lay_41 rfl rfl rfl ?_
        rw [m_oct (show j < 8 by omega)]
        rw [nI_1, sub_m1]
        have h9 := ih (S ++ [octX v j]) _ (by omega) (tpR_push h1 _ (nI_clamp (by omega))) (by simp; omega) (fun so2 q => by
          have h8 := hK so2 (by rw [show S ++ octs (j + 1) v = S ++ [octX v j] ++ octs j v by simp [octs]]; exact q)
          rw [show S ++ octs (j + 1) v = S ++ [octX v j] ++ octs j v by simp [octs]] at h8
          exact h8)
        rw [show (S ++ [octX v j]).length = S.length + 1 by simp] at h9
        exact h9
end
section
variable {l : Launch} {D : va_G} {ca : Nat → ClassId} {ad : Nat → Nat} {N : Heap → Prop} {pa : Nat → Int32} {va : Nat → Int64} {sz : Nat → Int32} {fr : Nat → Int32} {tw : Nat → Int32} {ta : Nat → Int32} {wd : Nat → Int64} {wb : Nat → Int32} {wp : Nat → Int32} {ou : Nat → Int32} {o1 : Nat → Int32} {o2 : Nat → Int32} {pf : Nat → Int32} {pt : Nat → Int32} {ki : Nat → Int32} {bi : Nat → Int32} {ste : Nat → Int32} {hel : Nat → Int64} {low : Nat → Int32} {hgh : Nat → Int32} {su : Nat → Int64} {ro : Nat → Int32} {fe : Nat → Int32} {vs : Int32} {wn : Int32} {tp : Int32} {dp : Int32} {la : Int32} {rst : Int32} {hlf : Int32} {nd : Int32} {rt : Int32} {frd : Int32} {fa : Int32} {at_ : Int32} {end_ : Int32} {ab : Int32} {fo : Int64} {co : Int32} {ll : Int32} {lh : Int32} {hm : Int32}
set_option maxRecDepth 100000 in
set_option maxHeartbeats 4000000 in
theorem kX9_feed (hAD : AD ad 24) (hN : NS D N) {S : List Int32} (hS : tpR ta S) (htl : S.length ≤ 4000) (x : Int32) (v : Int64) : Ct l yX9_feed cX9_feed 5 (some .int) (rK 0 0 0) D ca ad (mW pa va sz fr tw ta wd wb wp ou o1 o2 pf pt ki bi ste hel low hgh su ro fe vs wn (nI S.length) dp la rst hlf nd rt frd fa at_ end_ ab fo co ll lh hm) 24 [.ref 0, .int x, .long v] N (fun r ws2 H => ((¬ (1 ≤ x ∧ x ≤ 8) ∧ r = some (.int (-1)) ∧ ws2 = (mW pa va sz fr tw ta wd wb wp ou o1 o2 pf pt ki bi ste hel low hgh su ro fe vs wn (nI S.length) dp la rst hlf nd rt frd fa at_ end_ ab fo co ll lh hm)) ∨ (∃ j : Nat, (x = nI j ∧ 1 ≤ j ∧ j ≤ 8) ∧ 4000 < S.length + j ∧ r = some (.int (-3)) ∧ ws2 = (mW pa va sz fr tw ta wd wb wp ou o1 o2 pf pt ki bi ste hel low hgh su ro fe vs wn (nI S.length) dp la rst hlf nd rt frd fa at_ end_ ab fo co ll lh hm)) ∨ (∃ (j : Nat) (to2 : Nat → Int32), (x = nI j ∧ 1 ≤ j ∧ j ≤ 8) ∧ S.length + j ≤ 4000 ∧ r = some (.int (nI (S ++ octs j v).length)) ∧ ws2 = (mW pa va sz fr tw to2 wd wb wp ou o1 o2 pf pt ki bi ste hel low hgh su ro fe vs wn (nI (S ++ octs j v).length) dp la rst hlf nd rt frd fa at_ end_ ab fo co ll lh hm) ∧ tpR to2 (S ++ octs j v))) ∧ N H) := by
  refine enter (lv := [(0, .ref 0), (1, .int x), (2, .long v)]) (by decide +kernel) (Nat.le_of_ble_eq_true rfl) rfl hAD (fun U hK => ns_write hK hN) ?_
  intro p e s m below meth c A args hA C hr hlk hnm
  refine sg0 C foX9 coX9 oX9_feed_0 rfl rfl rfl ?_
  refine b2_lt (tgt := 11) C jX9_feed_2 (by decide) (fun h2 => ?_) (fun h2 => ?_)
  · refine sg0 C foX9 coX9 oX9_feed_11 rfl rfl rfl ?_
    exact rt_i C hr hlk jX9_feed_12 (fun H hH => ⟨Or.inl ⟨fun q => absurd h2 (Int32.not_lt.mpr q.1), rfl, rfl⟩, hH⟩)
  · refine sg0 C foX9 coX9 oX9_feed_5 rfl rfl rfl ?_
    refine b2_le (tgt := 13) C jX9_feed_8 (by decide) (fun h8 => ?_) (fun h8 => ?_)
    · obtain ⟨j, hj, rfl⟩ := nI_of (x := x) (fun q9 => h2 (Int32.lt_trans q9 (by decide)))
      have hj1 : 1 ≤ j := Nat.not_lt.mp fun q9 => h2 (show nI j < nI 1 from nI_lt q9 (by decide))
      have hj8 : j ≤ 8 := (nI_leI hj (by decide)).mp (show nI j ≤ nI 8 from h8)
      refine sg0 C foX9 coX9 oX9_feed_13 rfl rfl rfl ?_
      rw [nI_add]
      refine b2_le (tgt := 28) C jX9_feed_22 (by decide) (fun h22 => ?_) (fun h22 => ?_)
      · have hq : S.length + j ≤ 4000 := (nI_leI (by omega) (by decide)).mp (show nI (S.length + j) ≤ nI 4000 from h22)
        refine sg0 C foX9 coX9 oX9_feed_28 rfl rfl rfl ?_
        refine lp_feed9 C j S ta hj8 hS hq (fun so2 q => ?_)
        refine sg0 C foX9 coX9 oX9_feed_75 rfl rfl rfl ?_
        exact rt_i C hr hlk jX9_feed_79 (fun H hH => ⟨Or.inr (Or.inr ⟨j, so2, ⟨rfl, hj1, hj8⟩, hq, rfl, rfl, q⟩), hH⟩)
      · have hq : 4000 < S.length + j := Nat.not_le.mp fun q9 => h22 (show nI (S.length + j) ≤ nI 4000 from nI_le q9 (by decide))
        refine sg0 C foX9 coX9 oX9_feed_25 rfl rfl rfl ?_
        exact rt_i C hr hlk jX9_feed_27 (fun H hH => ⟨Or.inr (Or.inl ⟨j, ⟨rfl, hj1, hj8⟩, hq, rfl, rfl⟩), hH⟩)
    · refine sg0 C foX9 coX9 oX9_feed_11 rfl rfl rfl ?_
      exact rt_i C hr hlk jX9_feed_12 (fun H hH => ⟨Or.inl ⟨fun q => h8 q.2, rfl, rfl⟩, hH⟩)
set_option maxRecDepth 100000 in
set_option maxHeartbeats 4000000 in
theorem kX9_lay (hAD : AD ad 24) (hN : NS D N) {S : List Int32} (hS : tpR ou S) (j : Nat) (hj8 : j ≤ 8) (hj : S.length + j < 2 ^ 31) (v : Int64) : Ct l yX9_lay cX9_lay 5 none (rK 0 0 0) D ca ad (mW pa va sz fr tw ta wd wb wp ou o1 o2 pf pt ki bi ste hel low hgh su ro fe vs wn tp dp (nI S.length) rst hlf nd rt frd fa at_ end_ ab fo co ll lh hm) 24 [.ref 0, .long v, .int (nI j)] N (fun r ws2 H => ∃ so2 : Nat → Int32, (r = none ∧ ws2 = (mW pa va sz fr tw ta wd wb wp so2 o1 o2 pf pt ki bi ste hel low hgh su ro fe vs wn tp dp (nI (S ++ octs j v).length) rst hlf nd rt frd fa at_ end_ ab fo co ll lh hm) ∧ tpR so2 (S ++ octs j v)) ∧ N H) := by
  refine enter (lv := [(0, .ref 0), (1, .long v), (3, .int (nI j))]) (by decide +kernel) (Nat.le_of_ble_eq_true rfl) rfl hAD (fun U hK => ns_write hK hN) ?_
  intro p e s m below meth c A args hA C hr hlk hnm
  refine sg0 C foX9 coX9 oX9_lay_0 rfl rfl rfl ?_
  refine lp_lay C j S ou hj8 hS hj (fun so2 q => ?_)
  exact rt_v C hr hlk jX9_lay_57 (fun H hH => ⟨so2, ⟨rfl, rfl, q⟩, hH⟩)
set_option maxRecDepth 100000 in
set_option maxHeartbeats 4000000 in
theorem kX9_rest (hAD : AD ad 24) (hN : NS D N) {r : Nat} (hr0 : r < 800) (a b f t : Int32) : Ct l yX9_rest cX9_rest 5 none (rK 0 0 0) D ca ad (mW pa va sz fr tw ta wd wb wp ou o1 o2 pf pt ki bi ste hel low hgh su ro fe vs wn tp dp la (nI r) hlf nd rt frd fa at_ end_ ab fo co ll lh hm) 24 [.ref 0, .int a, .int b, .int f, .int t] N (fun rv ws2 H => (rv = none ∧ ws2 = (mW pa va sz fr tw ta wd wb wp ou (upd o1 r a) (upd o2 r b) (upd pf r f) (upd pt r t) ki bi ste hel low hgh su ro fe vs wn tp dp la (nI (r + 1)) hlf nd rt frd fa at_ end_ ab fo co ll lh hm)) ∧ N H) := by
  refine enter (lv := [(0, .ref 0), (1, .int a), (2, .int b), (3, .int f), (4, .int t)]) (by decide +kernel) (Nat.le_of_ble_eq_true rfl) rfl hAD (fun U hK => ns_write hK hN) ?_
  intro p e s m below meth c A args hA C hr hlk hnm
  refine sg C foX9 coX9 oX9_rest_0 rfl rfl rfl ⟨vp_in_nI hr0 (by decide), vp_in_nI hr0 (by decide), vp_in_nI hr0 (by decide), vp_in_nI hr0 (by decide), trivial⟩ ?_
  rw [nI_clamp (show r < 2 ^ 31 by omega), nI_1]
  exact rt_v C hr hlk jX9_rest_51 (fun H hN => ⟨⟨rfl, rfl⟩, hN⟩)
end
section
variable {p : Program} {l : Launch} {e : Env} {R : Room} {s : State} {m : MethodId} {args : Array Value} {below : List Frame} {meth : Method} {c : Code} {cells slots : Nat} {QQ : State → Prop} {D : va_G} {ca : Nat → ClassId} {ad : Nat → Nat} {A : Nat → Prop} {N : Heap → Prop} {pa : Nat → Int32} {va : Nat → Int64} {sz : Nat → Int32} {fr : Nat → Int32} {tw : Nat → Int32} {ta : Nat → Int32} {wd : Nat → Int64} {wb : Nat → Int32} {wp : Nat → Int32} {ou : Nat → Int32} {o1 : Nat → Int32} {o2 : Nat → Int32} {pf : Nat → Int32} {pt : Nat → Int32} {ki : Nat → Int32} {bi : Nat → Int32} {ste : Nat → Int32} {hel : Nat → Int64} {low : Nat → Int32} {hgh : Nat → Int32} {su : Nat → Int64} {ro : Nat → Int32} {fe : Nat → Int32} {vs : Int32} {wn : Int32} {tp : Int32} {dp : Int32} {la : Int32} {rst : Int32} {hlf : Int32} {nd : Int32} {rt : Int32} {frd : Int32} {fa : Int32} {at_ : Int32} {end_ : Int32} {ab : Int32} {fo : Int64} {co : Int32} {ll : Int32} {lh : Int32} {hm : Int32}
set_option maxRecDepth 100000 in
set_option maxHeartbeats 4000000 in
theorem lp_laidOut (C : Cx p s m args c cX9_laidOut 2 RX9 D ca ad A N 24) {S : List Int32} (hlen : S.length ≤ 4000) (hS : tpR ou S) : ∀ (j k : Nat) (ta : Nat → Int32), k + j = S.length → (∀ i, i < k → ta i = ou i) → (∀ ta2 : Nat → Int32, tpR ta2 S → Wa p l e R s m args below meth c cells slots QQ D ca ad A 2 N ([(0, .ref 0), (1, .int (nI S.length))], [], (mW pa va sz fr tw ta2 wd wb wp ou o1 o2 pf pt ki bi ste hel low hgh su ro fe vs wn tp dp (nI S.length) rst hlf nd rt frd fa at_ end_ ab fo co ll lh hm)) 41) → Wa p l e R s m args below meth c cells slots QQ D ca ad A 2 N ([(0, .ref 0), (1, .int (nI k))], [], (mW pa va sz fr tw ta wd wb wp ou o1 o2 pf pt ki bi ste hel low hgh su ro fe vs wn tp dp (nI S.length) rst hlf nd rt frd fa at_ end_ ab fo co ll lh hm)) 15 := by
  intro j
  induction j with
  | zero =>
    intro k ta hk hi hK
    have hkl : k = S.length := by omega
    subst hkl
    refine sg0 C foX9 coX9 oX9_laidOut_15 rfl rfl rfl ?_
    exact b2_ge (tgt := 41) C jX9_laidOut_20 (by decide) (fun _ => hK ta (fun i h1 h2 => by rw [hS i h1 h2, hi i h2])) (fun h7 => absurd (Int32.le_refl _) h7)
  | succ j ih =>
    intro k ta hk hi hK
    have hkk : k < 4000 := by omega
    refine sg0 C foX9 coX9 oX9_laidOut_15 rfl rfl rfl ?_
    refine b2_ge (tgt := 41) C jX9_laidOut_20 (by decide) (fun h20 => ?_) (fun h20 => ?_)
    · exact absurd h20 (nI_ge (by omega) (by omega))
    · refine sg C foX9 coX9 oX9_laidOut_23 rfl rfl rfl ⟨vp_in_nI hkk (by decide), vp_in_nI hkk (by decide), trivial⟩ ?_
      rw [nI_1, nI_clamp (show k < 2 ^ 31 by omega)]
      exact ih (k + 1) (upd ta k (ou k)) (by omega) (fun i h1 => by
        by_cases e1 : i = k
        · subst e1; simp [upd]
        · simp only [upd, if_neg e1]; exact hi i (by omega)) hK
end
section
variable {l : Launch} {D : va_G} {ca : Nat → ClassId} {ad : Nat → Nat} {N : Heap → Prop} {pa : Nat → Int32} {va : Nat → Int64} {sz : Nat → Int32} {fr : Nat → Int32} {tw : Nat → Int32} {ta : Nat → Int32} {wd : Nat → Int64} {wb : Nat → Int32} {wp : Nat → Int32} {ou : Nat → Int32} {o1 : Nat → Int32} {o2 : Nat → Int32} {pf : Nat → Int32} {pt : Nat → Int32} {ki : Nat → Int32} {bi : Nat → Int32} {ste : Nat → Int32} {hel : Nat → Int64} {low : Nat → Int32} {hgh : Nat → Int32} {su : Nat → Int64} {ro : Nat → Int32} {fe : Nat → Int32} {vs : Int32} {wn : Int32} {tp : Int32} {dp : Int32} {la : Int32} {rst : Int32} {hlf : Int32} {nd : Int32} {rt : Int32} {frd : Int32} {fa : Int32} {at_ : Int32} {end_ : Int32} {ab : Int32} {fo : Int64} {co : Int32} {ll : Int32} {lh : Int32} {hm : Int32}
set_option maxRecDepth 100000 in
set_option maxHeartbeats 4000000 in
theorem kX9_laidOut (hAD : AD ad 24) (hN : NS D N) {S : List Int32} (hS : tpR ou S) (hln : S.length < 2 ^ 31) : Ct l yX9_laidOut cX9_laidOut 2 (some .int) (rK 0 0 0) D ca ad (mW pa va sz fr tw ta wd wb wp ou o1 o2 pf pt ki bi ste hel low hgh su ro fe vs wn tp dp (nI S.length) rst hlf nd rt frd fa at_ end_ ab fo co ll lh hm) 24 [.ref 0] N (fun r ws2 H => ((4000 < S.length ∧ r = some (.int (-3)) ∧ ws2 = (mW pa va sz fr tw ta wd wb wp ou o1 o2 pf pt ki bi ste hel low hgh su ro fe vs wn tp dp (nI S.length) rst hlf nd rt frd fa at_ end_ ab fo co ll lh hm)) ∨ ∃ ta2 : Nat → Int32, S.length ≤ 4000 ∧ r = some (.int (nI S.length)) ∧ ws2 = (mW pa va sz fr tw ta2 wd wb wp ou o1 o2 pf pt ki bi ste hel low hgh su ro fe vs wn (nI S.length) dp (nI S.length) rst hlf nd rt frd fa at_ end_ ab fo co ll lh hm) ∧ tpR ta2 S) ∧ N H) := by
  refine enter (lv := [(0, .ref 0)]) (by decide +kernel) (Nat.le_of_ble_eq_true rfl) rfl hAD (fun U hK => ns_write hK hN) ?_
  intro p e s m below meth c A args hA C hr hlk hnm
  refine sg0 C foX9 coX9 oX9_laidOut_0 rfl rfl rfl ?_
  refine b2_le (tgt := 13) C jX9_laidOut_7 (by decide) (fun h7 => ?_) (fun h7 => ?_)
  · have hq : S.length ≤ 4000 := (nI_leI (by omega) (by decide)).mp (show nI S.length ≤ nI 4000 from h7)
    refine sg0 C foX9 coX9 oX9_laidOut_13 rfl rfl rfl ?_
    refine lp_laidOut C hq hS S.length 0 ta (by omega) (fun i h9 => absurd h9 (Nat.not_lt_zero _)) (fun ta2 q => ?_)
    refine sg0 C foX9 coX9 oX9_laidOut_41 rfl rfl rfl ?_
    exact rt_i C hr hlk jX9_laidOut_53 (fun H hH => ⟨Or.inr ⟨ta2, hq, rfl, rfl, q⟩, hH⟩)
  · have hq : 4000 < S.length := Nat.not_le.mp fun q9 => h7 (show nI S.length ≤ nI 4000 from nI_le q9 (by decide))
    refine sg0 C foX9 coX9 oX9_laidOut_10 rfl rfl rfl ?_
    exact rt_i C hr hlk jX9_laidOut_12 (fun H hH => ⟨Or.inl ⟨hq, rfl, rfl⟩, hH⟩)
end
section
variable {p : Program} {l : Launch} {e : Env} {R : Room} {s : State} {m : MethodId} {args : Array Value} {below : List Frame} {meth : Method} {c : Code} {cells slots : Nat} {QQ : State → Prop} {D : va_G} {ca : Nat → ClassId} {ad : Nat → Nat} {A : Nat → Prop} {N : Heap → Prop} {pa : Nat → Int32} {va : Nat → Int64} {sz : Nat → Int32} {fr : Nat → Int32} {tw : Nat → Int32} {ta : Nat → Int32} {wd : Nat → Int64} {wb : Nat → Int32} {wp : Nat → Int32} {ou : Nat → Int32} {o1 : Nat → Int32} {o2 : Nat → Int32} {pf : Nat → Int32} {pt : Nat → Int32} {ki : Nat → Int32} {bi : Nat → Int32} {ste : Nat → Int32} {hel : Nat → Int64} {low : Nat → Int32} {hgh : Nat → Int32} {su : Nat → Int64} {ro : Nat → Int32} {fe : Nat → Int32} {vs : Int32} {wn : Int32} {tp : Int32} {dp : Int32} {la : Int32} {rst : Int32} {hlf : Int32} {nd : Int32} {rt : Int32} {frd : Int32} {fa : Int32} {at_ : Int32} {end_ : Int32} {ab : Int32} {fo : Int64} {co : Int32} {ll : Int32} {lh : Int32} {hm : Int32}
set_option maxRecDepth 100000 in
set_option maxHeartbeats 4000000 in
theorem lp_numeral (C : Cx p s m args c cX9_numeral 5 RX9 D ca ad A N 24) {S : List Int32} (hlen : S.length ≤ 4000) (hS : tpR ta S) {n0 : Nat} (hn0 : n0 ≤ 8) : ∀ (j k i : Nat) (a : Int64), k + j = n0 → i + j ≤ 5000 → Wa p l e R s m args below meth c cells slots QQ D ca ad A 5 N ([(0, .ref 0), (1, .int (nI n0)), (2, .long (nmF S j i a)), (4, .int (nI n0))], [], (mW pa va sz fr tw ta wd wb wp ou o1 o2 pf pt ki bi ste hel low hgh su ro fe vs wn (nI S.length) dp la rst hlf nd rt frd fa (nI (i + j)) end_ ab fo co ll lh hm)) 58 → Wa p l e R s m args below meth c cells slots QQ D ca ad A 5 N ([(0, .ref 0), (1, .int (nI n0)), (2, .long (a)), (4, .int (nI k))], [], (mW pa va sz fr tw ta wd wb wp ou o1 o2 pf pt ki bi ste hel low hgh su ro fe vs wn (nI S.length) dp la rst hlf nd rt frd fa (nI i) end_ ab fo co ll lh hm)) 5 := by
  intro j
  induction j with
  | zero =>
    intro k i a hk hi hK
    have hkl : k = n0 := by omega
    subst hkl
    refine sg0 C foX9 coX9 oX9_numeral_5 rfl rfl rfl ?_
    exact b2_ge (tgt := 58) C jX9_numeral_8 (by decide) (fun _ => hK) (fun h7 => absurd (Int32.le_refl _) h7)
  | succ j ih =>
    intro k i a hk hi hK
    simp only [nmF] at hK
    have hcl : (nI i).toNatClampNeg = i := nI_clamp (by omega)
    refine sg0 C foX9 coX9 oX9_numeral_5 rfl rfl rfl ?_
    refine b2_ge (tgt := 58) C jX9_numeral_8 (by decide) (fun h8 => ?_) (fun h8 => ?_)
    · exact absurd h8 (nI_ge (by omega) (by omega))
    · refine sg0 C foX9 coX9 oX9_numeral_11 rfl rfl rfl ?_
      refine b2_ge (tgt := 38) C jX9_numeral_23 (by decide) (fun h23 => ?_) (fun h23 => ?_)
      · have hq : S.length ≤ i := (nI_leI (by omega) (by omega)).mp h23
        rw [List.getElem?_eq_none hq] at hK
        refine sg0 C foX9 coX9 oX9_numeral_38 rfl rfl rfl ?_
        refine sg0 C foX9 coX9 oX9_numeral_39 rfl rfl rfl ?_
        rw [nI_1, nI_1]
        exact ih (k + 1) (i + 1) _ (by omega) (by omega) (by rw [show i + 1 + j = i + (j + 1) by omega]; exact hK)
      · have hq : i < S.length := Nat.not_le.mp fun q9 => h23 (nI_le q9 (by omega))
        rw [hS i (by omega) hq] at hK
        refine sg C foX9 coX9 oX9_numeral_26 rfl rfl rfl ⟨vp_in_nI (by omega) (by decide), trivial⟩ ?_
        refine sg0 C foX9 coX9 oX9_numeral_39 rfl rfl rfl ?_
        rw [nI_1, nI_1, hcl]
        exact ih (k + 1) (i + 1) _ (by omega) (by omega) (by rw [show i + 1 + j = i + (j + 1) by omega]; exact hK)
end
section
variable {l : Launch} {D : va_G} {ca : Nat → ClassId} {ad : Nat → Nat} {N : Heap → Prop} {pa : Nat → Int32} {va : Nat → Int64} {sz : Nat → Int32} {fr : Nat → Int32} {tw : Nat → Int32} {ta : Nat → Int32} {wd : Nat → Int64} {wb : Nat → Int32} {wp : Nat → Int32} {ou : Nat → Int32} {o1 : Nat → Int32} {o2 : Nat → Int32} {pf : Nat → Int32} {pt : Nat → Int32} {ki : Nat → Int32} {bi : Nat → Int32} {ste : Nat → Int32} {hel : Nat → Int64} {low : Nat → Int32} {hgh : Nat → Int32} {su : Nat → Int64} {ro : Nat → Int32} {fe : Nat → Int32} {vs : Int32} {wn : Int32} {tp : Int32} {dp : Int32} {la : Int32} {rst : Int32} {hlf : Int32} {nd : Int32} {rt : Int32} {frd : Int32} {fa : Int32} {at_ : Int32} {end_ : Int32} {ab : Int32} {fo : Int64} {co : Int32} {ll : Int32} {lh : Int32} {hm : Int32}
set_option maxRecDepth 100000 in
set_option maxHeartbeats 4000000 in
theorem kX9_numeral (hAD : AD ad 24) (hN : NS D N) {S : List Int32} (hS : tpR ta S) (hlen : S.length ≤ 4000) {n0 i : Nat} (hn0 : n0 ≤ 8) (hi : i + n0 ≤ 5000) : Ct l yX9_numeral cX9_numeral 5 (some .long) (rK 0 0 0) D ca ad (mW pa va sz fr tw ta wd wb wp ou o1 o2 pf pt ki bi ste hel low hgh su ro fe vs wn (nI S.length) dp la rst hlf nd rt frd fa (nI i) end_ ab fo co ll lh hm) 24 [.ref 0, .int (nI n0)] N (fun r ws2 H => (r = some (.long (nmF S n0 i 0)) ∧ ws2 = (mW pa va sz fr tw ta wd wb wp ou o1 o2 pf pt ki bi ste hel low hgh su ro fe vs wn (nI S.length) dp la rst hlf nd rt frd fa (nI (i + n0)) end_ ab fo co ll lh hm)) ∧ N H) := by
  refine enter (lv := [(0, .ref 0), (1, .int (nI n0))]) (by decide +kernel) (Nat.le_of_ble_eq_true rfl) rfl hAD (fun U hK => ns_write hK hN) ?_
  intro p e s m below meth c A args hA C hr hlk hnm
  refine sg0 C foX9 coX9 oX9_numeral_0 rfl rfl rfl ?_
  refine lp_numeral C hlen hS hn0 n0 0 i 0 (Nat.zero_add n0) hi ?_
  refine sg0 C foX9 coX9 oX9_numeral_58 rfl rfl rfl ?_
  exact rt_l C hr hlk jX9_numeral_59 (fun H hH => ⟨⟨rfl, rfl⟩, hH⟩)
end
section
variable {p : Program} {l : Launch} {e : Env} {R : Room} {s : State} {m : MethodId} {args : Array Value} {below : List Frame} {meth : Method} {c : Code} {cells slots : Nat} {QQ : State → Prop} {D : va_G} {ca : Nat → ClassId} {ad : Nat → Nat} {A : Nat → Prop} {N : Heap → Prop} {pa : Nat → Int32} {va : Nat → Int64} {sz : Nat → Int32} {fr : Nat → Int32} {tw : Nat → Int32} {ta : Nat → Int32} {wd : Nat → Int64} {wb : Nat → Int32} {wp : Nat → Int32} {ou : Nat → Int32} {o1 : Nat → Int32} {o2 : Nat → Int32} {pf : Nat → Int32} {pt : Nat → Int32} {ki : Nat → Int32} {bi : Nat → Int32} {ste : Nat → Int32} {hel : Nat → Int64} {low : Nat → Int32} {hgh : Nat → Int32} {su : Nat → Int64} {ro : Nat → Int32} {fe : Nat → Int32} {vs : Int32} {wn : Int32} {tp : Int32} {dp : Int32} {la : Int32} {rst : Int32} {hlf : Int32} {nd : Int32} {rt : Int32} {frd : Int32} {fa : Int32} {at_ : Int32} {end_ : Int32} {ab : Int32} {fo : Int64} {co : Int32} {ll : Int32} {lh : Int32} {hm : Int32}
set_option maxRecDepth 100000 in
set_option maxHeartbeats 4000000 in
theorem lp_isWanted (C : Cx p s m args c cX9_isWanted 5 RX9 D ca ad A N 24) {Rg : List (Nat × Nat)} (hRg : rgR fr tw Rg) {f t : Nat} (hf : f < 65536) (ht : t < 65536) : ∀ (suf pre : List (Nat × Nat)) (acc : Bool), Rg = pre ++ suf → Wa p l e R s m args below meth c cells slots QQ D ca ad A 5 N ([(0, .ref 0), (1, .int (nI f)), (2, .int (nI t)), (3, .int (if (acc || meR suf f t) = true then 1 else 0)), (4, .int (nI Rg.length))], [], (mW pa va sz fr tw ta wd wb wp ou o1 o2 pf pt ki bi ste hel low hgh su ro fe vs (nI Rg.length) tp dp la rst hlf nd rt frd fa at_ end_ ab fo co ll lh hm)) 52 → Wa p l e R s m args below meth c cells slots QQ D ca ad A 5 N ([(0, .ref 0), (1, .int (nI f)), (2, .int (nI t)), (3, .int (if acc = true then 1 else 0)), (4, .int (nI pre.length))], [], (mW pa va sz fr tw ta wd wb wp ou o1 o2 pf pt ki bi ste hel low hgh su ro fe vs (nI Rg.length) tp dp la rst hlf nd rt frd fa at_ end_ ab fo co ll lh hm)) 5 := by
  intro suf
  induction suf with
  | nil =>
    intro pre acc he hK
    have hl : Rg.length = pre.length := by rw [he]; simp
    rw [show (acc || meR [] f t) = acc by simp [meR], hl] at hK
    rw [hl]
    refine sg0 C foX9 coX9 oX9_isWanted_5 rfl rfl rfl ?_
    exact b2_ge (tgt := 52) C jX9_isWanted_11 (by decide) (fun _ => hK) (fun h7 => absurd (Int32.le_refl _) h7)
  | cons r suf ih =>
    intro pre acc he hK
    have hl : pre.length < Rg.length := by rw [he]; simp
    have hl2 := hRg.1
    obtain ⟨hr1, hr2, hr3, hr4⟩ := hRg.2 pre.length r (by rw [he]; simp)
    have hcl : (nI pre.length).toNatClampNeg = pre.length := nI_clamp (by omega)
    have hme : meR (r :: suf) f t = ((decide (r.1 ≤ t) && decide (f ≤ r.2)) || meR suf f t) := rfl
    refine sg0 C foX9 coX9 oX9_isWanted_5 rfl rfl rfl ?_
    refine b2_ge (tgt := 52) C jX9_isWanted_11 (by decide) (fun h11 => ?_) (fun h11 => ?_)
    · exact absurd h11 (nI_ge (by omega) (by omega))
    · refine sg0 C foX9 coX9 oX9_isWanted_14 rfl rfl rfl ?_
      refine b1_ne (tgt := 40) C jX9_isWanted_15 (by decide) (fun h15 => ?_) (fun h15 => ?_)
      · have ha : acc = true := Decidable.byContradiction fun e1 => h15 (if_neg e1)
        refine sg0 C foX9 coX9 oX9_isWanted_40 rfl rfl rfl ?_
        refine sg0 C foX9 coX9 oX9_isWanted_45 rfl rfl rfl ?_
        rw [nI_1]
        have h9 := ih (pre ++ [r]) true (by rw [he]; simp) (by rw [show (true || meR suf f t) = (acc || meR (r :: suf) f t) by rw [ha]; simp]; exact hK)
        rw [show (pre ++ [r]).length = pre.length + 1 by simp] at h9
        exact h9
      · have ha : ¬ acc = true := fun e1 => by rw [if_pos e1] at h15; exact absurd h15 (by decide)
        have ha2 : acc = false := by simpa using ha
        refine sg C foX9 coX9 oX9_isWanted_18 rfl rfl rfl ⟨vp_in_nI (by omega) (by decide), trivial⟩ ?_
        rw [hcl, hr1]
        refine b2_gt (tgt := 44) C jX9_isWanted_26 (by decide) (fun h26 => ?_) (fun h26 => ?_)
        · have hq : ¬ r.1 ≤ t := fun q9 => absurd h26 (Int32.not_lt.mpr (nI_le q9 (by omega)))
          refine sg0 C foX9 coX9 oX9_isWanted_44 rfl rfl rfl ?_
          refine sg0 C foX9 coX9 oX9_isWanted_45 rfl rfl rfl ?_
          rw [nI_1]
          have h9 := ih (pre ++ [r]) false (by rw [he]; simp) (by rw [show (false || meR suf f t) = (acc || meR (r :: suf) f t) by rw [hme, ha2]; simp [hq]]; exact hK)
          rw [show (pre ++ [r]).length = pre.length + 1 by simp] at h9
          exact h9
        · have hq : r.1 ≤ t := Nat.not_lt.mp fun q9 => h26 (nI_lt q9 (by omega))
          refine sg C foX9 coX9 oX9_isWanted_29 rfl rfl rfl ⟨vp_in_nI (by omega) (by decide), trivial⟩ ?_
          rw [hcl, hr2]
          refine b2_lt (tgt := 44) C jX9_isWanted_37 (by decide) (fun h37 => ?_) (fun h37 => ?_)
          · have hq2 : ¬ f ≤ r.2 := fun q9 => absurd h37 (Int32.not_lt.mpr (nI_le q9 (by omega)))
            refine sg0 C foX9 coX9 oX9_isWanted_44 rfl rfl rfl ?_
            refine sg0 C foX9 coX9 oX9_isWanted_45 rfl rfl rfl ?_
            rw [nI_1]
            have h9 := ih (pre ++ [r]) false (by rw [he]; simp) (by rw [show (false || meR suf f t) = (acc || meR (r :: suf) f t) by rw [hme, ha2]; simp [hq2]]; exact hK)
            rw [show (pre ++ [r]).length = pre.length + 1 by simp] at h9
            exact h9
          · have hq2 : f ≤ r.2 := Nat.not_lt.mp fun q9 => h37 (nI_lt q9 (by omega))
            refine sg0 C foX9 coX9 oX9_isWanted_40 rfl rfl rfl ?_
            refine sg0 C foX9 coX9 oX9_isWanted_45 rfl rfl rfl ?_
            rw [nI_1]
            have h9 := ih (pre ++ [r]) true (by rw [he]; simp) (by rw [show (true || meR suf f t) = (acc || meR (r :: suf) f t) by rw [hme]; simp [hq, hq2]]; exact hK)
            rw [show (pre ++ [r]).length = pre.length + 1 by simp] at h9
            exact h9
end
section
variable {l : Launch} {D : va_G} {ca : Nat → ClassId} {ad : Nat → Nat} {N : Heap → Prop} {pa : Nat → Int32} {va : Nat → Int64} {sz : Nat → Int32} {fr : Nat → Int32} {tw : Nat → Int32} {ta : Nat → Int32} {wd : Nat → Int64} {wb : Nat → Int32} {wp : Nat → Int32} {ou : Nat → Int32} {o1 : Nat → Int32} {o2 : Nat → Int32} {pf : Nat → Int32} {pt : Nat → Int32} {ki : Nat → Int32} {bi : Nat → Int32} {ste : Nat → Int32} {hel : Nat → Int64} {low : Nat → Int32} {hgh : Nat → Int32} {su : Nat → Int64} {ro : Nat → Int32} {fe : Nat → Int32} {vs : Int32} {wn : Int32} {tp : Int32} {dp : Int32} {la : Int32} {rst : Int32} {hlf : Int32} {nd : Int32} {rt : Int32} {frd : Int32} {fa : Int32} {at_ : Int32} {end_ : Int32} {ab : Int32} {fo : Int64} {co : Int32} {ll : Int32} {lh : Int32} {hm : Int32}
set_option maxRecDepth 100000 in
set_option maxHeartbeats 4000000 in
theorem kX9_isWanted (hAD : AD ad 24) (hN : NS D N) {Rg : List (Nat × Nat)} (hRg : rgR fr tw Rg) {f t : Nat} (hf : f < 65536) (ht : t < 65536) : Ct l yX9_isWanted cX9_isWanted 5 (some .boolean) (rK 0 0 0) D ca ad (mW pa va sz fr tw ta wd wb wp ou o1 o2 pf pt ki bi ste hel low hgh su ro fe vs (nI Rg.length) tp dp la rst hlf nd rt frd fa at_ end_ ab fo co ll lh hm) 24 [.ref 0, .int (nI f), .int (nI t)] N (pG (mW pa va sz fr tw ta wd wb wp ou o1 o2 pf pt ki bi ste hel low hgh su ro fe vs (nI Rg.length) tp dp la rst hlf nd rt frd fa at_ end_ ab fo co ll lh hm) N (some (.int (if meR Rg f t = true then 1 else 0)))) := by
  refine enter (lv := [(0, .ref 0), (1, .int (nI f)), (2, .int (nI t))]) (by decide +kernel) (Nat.le_of_ble_eq_true rfl) rfl hAD (fun U hK => ns_write hK hN) ?_
  intro p e s m below meth c A args hA C hr hlk hnm
  refine sg0 C foX9 coX9 oX9_isWanted_0 rfl rfl rfl ?_
  refine lp_isWanted C hRg hf ht Rg [] false rfl ?_
  refine sg0 C foX9 coX9 oX9_isWanted_52 rfl rfl rfl ?_
  exact rt_z C hr hlk (by split <;> decide) jX9_isWanted_53 (fun H hH => ⟨⟨by simp, rfl⟩, hH⟩)
end
