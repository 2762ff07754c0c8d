/-! ranges and tapes of the class -/
def octX (v : Int64) (j : Nat) : Int32 := ((v.toUInt64 >>> (((8 : Int32) * nI j).toInt64.toUInt64 &&& Int64.toUInt64 63)).toInt64.toInt32) &&& 255
/-- the n lowest octets, the highest of them first -/
def octs : Nat → Int64 → List Int32
  | 0, _ => []
  | j + 1, v => octX v j :: octs j v
theorem octs_len : ∀ (j : Nat) (v : Int64), (octs j v).length = j
  | 0, _ => rfl
  | j + 1, v => by simp [octs, octs_len j v]
/-- a row of octets holds the list, as far as its room goes -/
def tpR (f : Nat → Int32) (S : List Int32) : Prop := ∀ j : Nat, j < 4000 → j < S.length → S[j]? = some (f j)
theorem tpR_push {f : Nat → Int32} {S : List Int32} {x : Int32} (h : tpR f S) (i : Nat) (hi : i = S.length) : tpR (upd f i x) (S ++ [x]) := by
  intro j h1 h2
  by_cases e1 : j = S.length
  · subst e1 hi
    simp [upd]
  · have h3 : j < S.length := by simp at h2; omega
    have h4 : ¬ j = i := by omega
    rw [List.getElem?_append_left h3, h j h1 h3]
    simp [upd, h4]
theorem tpR_over {f : Nat → Int32} {S : List Int32} {x : Int32} (h : tpR f S) (hi : 4000 ≤ S.length) : tpR f (S ++ [x]) := by
  intro j h1 h2
  have h3 : j < S.length := by omega
  rw [List.getElem?_append_left h3, h j h1 h3]
theorem sub_m1 (x : Int32) : x + (-1) = x - 1 := by rw [Int32.sub_eq_add_neg]
def meR (Rg : List (Nat × Nat)) (f t : Nat) : Bool := Rg.any (fun r => decide (r.1 ≤ t) && decide (f ≤ r.2))
def rgR (ra rb : Nat → Int32) (Rg : List (Nat × Nat)) : Prop := Rg.length ≤ 20 ∧ ∀ (j : Nat) (r : Nat × Nat), Rg[j]? = some r → ra j = nI r.1 ∧ rb j = nI r.2 ∧ r.1 < 65536 ∧ r.2 < 65536
section
variable {p : Program} {l : Launch} {e : Env} {R : Room} {s : State} {m : MethodId} {args : Array Value} {below : List Frame} {meth : Method} {c : Code} {cells slots : Nat} {QQ : State → Prop} {D : va_G} {ca : Nat → ClassId} {ad : Nat → Nat} {A : Nat → Prop} {N : Heap → Prop} {n : Nat}
set_option maxRecDepth 100000 in
set_option maxHeartbeats 4000000 in
theorem lp_append5 (C : Cx p s m args c cX7_append 5 RX7 D ca ad A N n) {c0 c1 c2 c3 c4 : va_E} {rest : List va_E} (hn : 7 + rest.length = n) {x1 : Int32} {v : Int64} : ∀ (j : Nat) (S : List Int32) (so : Nat → Int32), tpR so S → S.length + j < 2 ^ 31 → j < 2 ^ 31 → (∀ so2 : Nat → Int32, tpR so2 (S ++ octs j v) → Wa p l e R s m args below meth c cells slots QQ D ca ad A 5 N ([(0, .ref 5), (1, .int x1), (2, .long v), (4, .int (nI 0 - 1))], [], (c0 :: c1 :: c2 :: c3 :: c4 :: .inr (6, [.ref 6, .int (nI (S ++ octs j v).length)]) :: .inl (0, 4000, .inl so2) :: rest)) 57) → Wa p l e R s m args below meth c cells slots QQ D ca ad A 5 N ([(0, .ref 5), (1, .int x1), (2, .long v), (4, .int (nI j - 1))], [], (c0 :: c1 :: c2 :: c3 :: c4 :: .inr (6, [.ref 6, .int (nI S.length)]) :: .inl (0, 4000, .inl so) :: rest)) 5 := by
  have hn2 : ∀ (so2 : Nat → Int32) (L : Nat), ((c0 :: c1 :: c2 :: c3 :: c4 :: .inr (6, [.ref 6, .int (nI L)]) :: .inl (0, 4000, .inl so2) :: rest) : List va_E).length = n := fun so2 L => by simp; omega
  intro j
  induction j with
  | zero =>
    intro S so h1 h2 h3 hK
    have hK := hK so (by simpa [octs] using h1)
    rw [show S ++ octs 0 v = S by simp [octs]] at hK
    refine sg0 C foX7 coX7 oX7_append_5 rfl rfl (hn2 _ _) ?_
    exact b1_lt (tgt := 57) C jX7_append_7 (by decide) (fun _ => hK) (fun h7 => absurd (by decide) h7)
  | succ j ih =>
    intro S so h1 h2 h3 hK
    rw [nI_pred j]
    refine sg0 C foX7 coX7 oX7_append_5 rfl rfl (hn2 _ _) ?_
    refine b1_lt (tgt := 57) C jX7_append_7 (by decide) (fun h7 => ?_) (fun h7 => ?_)
    · exact absurd h7 (nI_pos (by omega))
    · refine sg0 C foX7 coX7 oX7_append_10 rfl rfl (hn2 _ _) ?_
      refine b2_ge (tgt := 41) C jX7_append_17 (by decide) (fun h17 => ?_) (fun h17 => ?_)
      · have hq : 4000 ≤ S.length := Nat.not_lt.mp fun q => absurd h17 (by rw [show (4000 : Int32) = nI 4000 from rfl]; exact nI_ge q (by decide))
        refine sg0 C foX7 coX7 oX7_append_41 rfl rfl (hn2 _ _) ?_
        rw [nI_1, sub_m1]
        have h9 := ih (S ++ [octX v j]) so (tpR_over h1 hq) (by simp; omega) (by omega) (fun so2 q => by
          have h8 := hK so2 (by rw [show S ++ octs (j + 1) v = S ++ [octX v j] ++ octs j v by simp [octs]]; exact q)
          rw [show S ++ octs (j + 1) v = S ++ [octX v j] ++ octs j v by simp [octs]] at h8
          exact h8)
        rw [show (S ++ [octX v j]).length = S.length + 1 by simp] at h9
        exact h9
      · have hq : S.length < 4000 := Nat.not_le.mp fun q => h17 (by rw [show (4000 : Int32) = nI 4000 from rfl]; exact nI_le q (by omega))
        refine sg C foX7 coX7 oX7_append_20 rfl rfl (hn2 _ _) ⟨vp_in_nI hq (by decide), trivial⟩ ?_
        refine sg0 C foX7 coX7 oX7_append_41 rfl rfl (hn2 _ _) ?_
        rw [nI_1, sub_m1]
        have h9 := ih (S ++ [octX v j]) _ (tpR_push h1 _ (nI_clamp (by omega))) (by simp; omega) (by omega) (fun so2 q => by
          have h8 := hK so2 (by rw [show S ++ octs (j + 1) v = S ++ [octX v j] ++ octs j v by simp [octs]]; exact q)
          rw [show S ++ octs (j + 1) v = S ++ [octX v j] ++ octs j v by simp [octs]] at h8
          exact h8)
        rw [show (S ++ [octX v j]).length = S.length + 1 by simp] at h9
        exact h9
end
section
variable {l : Launch} {D : va_G} {ca : Nat → ClassId} {ad : Nat → Nat} {n : Nat} {N : Heap → Prop}
set_option maxRecDepth 100000 in
set_option maxHeartbeats 4000000 in
theorem kX7_append5 (hAD : AD ad n) (hN : NS D N) {c0 c1 c2 c3 c4 : va_E} {rest : List va_E} (hn : 7 + rest.length = n) {S : List Int32} {so : Nat → Int32} (hS : tpR so S) (j : Nat) (hj : S.length + j < 2 ^ 31) (v : Int64) : Ct l yX7_append cX7_append 5 none (rK 0 0 0) D ca ad (c0 :: c1 :: c2 :: c3 :: c4 :: .inr (6, [.ref 6, .int (nI S.length)]) :: .inl (0, 4000, .inl so) :: rest) n [.ref 5, .int (nI j), .long v] N (fun r ws2 H => ∃ so2 : Nat → Int32, (r = none ∧ ws2 = (c0 :: c1 :: c2 :: c3 :: c4 :: .inr (6, [.ref 6, .int (nI (S ++ octs j v).length)]) :: .inl (0, 4000, .inl so2) :: rest) ∧ tpR so2 (S ++ octs j v)) ∧ N H) := by
  have hn2 : ∀ (so2 : Nat → Int32) (L : Nat), ((c0 :: c1 :: c2 :: c3 :: c4 :: .inr (6, [.ref 6, .int (nI L)]) :: .inl (0, 4000, .inl so2) :: rest) : List va_E).length = n := fun so2 L => by simp; omega
  refine enter (lv := [(0, .ref 5), (1, .int (nI j)), (2, .long v)]) (by decide +kernel) (Nat.le_of_ble_eq_true rfl) rfl hAD (fun U hK => ns_write hK hN) ?_
  intro p e s m below meth c A args hA C hr hlk hnm
  refine sg0 C foX7 coX7 oX7_append_0 rfl rfl (hn2 _ _) ?_
  refine lp_append5 C hn j S so hS hj (by omega) (fun so2 q => ?_)
  exact rt_v C hr hlk jX7_append_57 (fun H hH => ⟨so2, ⟨rfl, rfl, q⟩, hH⟩)
end
section
variable {p : Program} {l : Launch} {e : Env} {R : Room} {s : State} {m : MethodId} {args : Array Value} {below : List Frame} {meth : Method} {c : Code} {cells slots : Nat} {QQ : State → Prop} {D : va_G} {ca : Nat → ClassId} {ad : Nat → Nat} {A : Nat → Prop} {N : Heap → Prop} {n : Nat}
set_option maxRecDepth 100000 in
set_option maxHeartbeats 4000000 in
theorem lp_append7 (C : Cx p s m args c cX7_append 5 RX7 D ca ad A N n) {c0 c1 c2 c3 c4 c5 c6 : va_E} {rest : List va_E} (hn : 9 + rest.length = n) {x1 : Int32} {v : Int64} : ∀ (j : Nat) (S : List Int32) (so : Nat → Int32), tpR so S → S.length + j < 2 ^ 31 → j < 2 ^ 31 → (∀ so2 : Nat → Int32, tpR so2 (S ++ octs j v) → Wa p l e R s m args below meth c cells slots QQ D ca ad A 5 N ([(0, .ref 7), (1, .int x1), (2, .long v), (4, .int (nI 0 - 1))], [], (c0 :: c1 :: c2 :: c3 :: c4 :: c5 :: c6 :: .inr (6, [.ref 8, .int (nI (S ++ octs j v).length)]) :: .inl (0, 4000, .inl so2) :: rest)) 57) → Wa p l e R s m args below meth c cells slots QQ D ca ad A 5 N ([(0, .ref 7), (1, .int x1), (2, .long v), (4, .int (nI j - 1))], [], (c0 :: c1 :: c2 :: c3 :: c4 :: c5 :: c6 :: .inr (6, [.ref 8, .int (nI S.length)]) :: .inl (0, 4000, .inl so) :: rest)) 5 := by
  have hn2 : ∀ (so2 : Nat → Int32) (L : Nat), ((c0 :: c1 :: c2 :: c3 :: c4 :: c5 :: c6 :: .inr (6, [.ref 8, .int (nI L)]) :: .inl (0, 4000, .inl so2) :: rest) : List va_E).length = n := fun so2 L => by simp; omega
  intro j
  induction j with
  | zero =>
    intro S so h1 h2 h3 hK
    have hK := hK so (by simpa [octs] using h1)
    rw [show S ++ octs 0 v = S by simp [octs]] at hK
    refine sg0 C foX7 coX7 oX7_append_5 rfl rfl (hn2 _ _) ?_
    exact b1_lt (tgt := 57) C jX7_append_7 (by decide) (fun _ => hK) (fun h7 => absurd (by decide) h7)
  | succ j ih =>
    intro S so h1 h2 h3 hK
    rw [nI_pred j]
    refine sg0 C foX7 coX7 oX7_append_5 rfl rfl (hn2 _ _) ?_
    refine b1_lt (tgt := 57) C jX7_append_7 (by decide) (fun h7 => ?_) (fun h7 => ?_)
    · exact absurd h7 (nI_pos (by omega))
    · refine sg0 C foX7 coX7 oX7_append_10 rfl rfl (hn2 _ _) ?_
      refine b2_ge (tgt := 41) C jX7_append_17 (by decide) (fun h17 => ?_) (fun h17 => ?_)
      · have hq : 4000 ≤ S.length := Nat.not_lt.mp fun q => absurd h17 (by rw [show (4000 : Int32) = nI 4000 from rfl]; exact nI_ge q (by decide))
        refine sg0 C foX7 coX7 oX7_append_41 rfl rfl (hn2 _ _) ?_
        rw [nI_1, sub_m1]
        have h9 := ih (S ++ [octX v j]) so (tpR_over h1 hq) (by simp; omega) (by omega) (fun so2 q => by
          have h8 := hK so2 (by rw [show S ++ octs (j + 1) v = S ++ [octX v j] ++ octs j v by simp [octs]]; exact q)
          rw [show S ++ octs (j + 1) v = S ++ [octX v j] ++ octs j v by simp [octs]] at h8
          exact h8)
        rw [show (S ++ [octX v j]).length = S.length + 1 by simp] at h9
        exact h9
      · have hq : S.length < 4000 := Nat.not_le.mp fun q => h17 (by rw [show (4000 : Int32) = nI 4000 from rfl]; exact nI_le q (by omega))
        refine sg C foX7 coX7 oX7_append_20 rfl rfl (hn2 _ _) ⟨vp_in_nI hq (by decide), trivial⟩ ?_
        refine sg0 C foX7 coX7 oX7_append_41 rfl rfl (hn2 _ _) ?_
        rw [nI_1, sub_m1]
        have h9 := ih (S ++ [octX v j]) _ (tpR_push h1 _ (nI_clamp (by omega))) (by simp; omega) (by omega) (fun so2 q => by
          have h8 := hK so2 (by rw [show S ++ octs (j + 1) v = S ++ [octX v j] ++ octs j v by simp [octs]]; exact q)
          rw [show S ++ octs (j + 1) v = S ++ [octX v j] ++ octs j v by simp [octs]] at h8
          exact h8)
        rw [show (S ++ [octX v j]).length = S.length + 1 by simp] at h9
        exact h9
end
section
variable {l : Launch} {D : va_G} {ca : Nat → ClassId} {ad : Nat → Nat} {n : Nat} {N : Heap → Prop}
set_option maxRecDepth 100000 in
set_option maxHeartbeats 4000000 in
theorem kX7_append7 (hAD : AD ad n) (hN : NS D N) {c0 c1 c2 c3 c4 c5 c6 : va_E} {rest : List va_E} (hn : 9 + rest.length = n) {S : List Int32} {so : Nat → Int32} (hS : tpR so S) (j : Nat) (hj : S.length + j < 2 ^ 31) (v : Int64) : Ct l yX7_append cX7_append 5 none (rK 0 0 0) D ca ad (c0 :: c1 :: c2 :: c3 :: c4 :: c5 :: c6 :: .inr (6, [.ref 8, .int (nI S.length)]) :: .inl (0, 4000, .inl so) :: rest) n [.ref 7, .int (nI j), .long v] N (fun r ws2 H => ∃ so2 : Nat → Int32, (r = none ∧ ws2 = (c0 :: c1 :: c2 :: c3 :: c4 :: c5 :: c6 :: .inr (6, [.ref 8, .int (nI (S ++ octs j v).length)]) :: .inl (0, 4000, .inl so2) :: rest) ∧ tpR so2 (S ++ octs j v)) ∧ N H) := by
  have hn2 : ∀ (so2 : Nat → Int32) (L : Nat), ((c0 :: c1 :: c2 :: c3 :: c4 :: c5 :: c6 :: .inr (6, [.ref 8, .int (nI L)]) :: .inl (0, 4000, .inl so2) :: rest) : List va_E).length = n := fun so2 L => by simp; omega
  refine enter (lv := [(0, .ref 7), (1, .int (nI j)), (2, .long v)]) (by decide +kernel) (Nat.le_of_ble_eq_true rfl) rfl hAD (fun U hK => ns_write hK hN) ?_
  intro p e s m below meth c A args hA C hr hlk hnm
  refine sg0 C foX7 coX7 oX7_append_0 rfl rfl (hn2 _ _) ?_
  refine lp_append7 C hn j S so hS hj (by omega) (fun so2 q => ?_)
  exact rt_v C hr hlk jX7_append_57 (fun H hH => ⟨so2, ⟨rfl, rfl, q⟩, hH⟩)
end
theorem has_1 {i : Int32} {L : Nat} (hL : L ≤ 4000) (h : nI L ≤ i) : ¬ i.toInt < L := by
  rw [Int32.le_iff_toInt_le, nI_toInt (by omega)] at h
  omega
theorem has_2 {i : Int32} {L : Nat} (hL : L ≤ 4000) (h : (4000 : Int32) ≤ i) : ¬ i.toInt < L := by
  rw [Int32.le_iff_toInt_le, show ((4000 : Int32)).toInt = 4000 from rfl] at h
  omega
theorem has_3 {i : Int32} {L : Nat} (hL : L ≤ 4000) (h : ¬ i < 0) (h2 : ¬ nI L ≤ i) : vp_in i L := by
  rw [vp_in_iff]
  rw [Int32.le_iff_toInt_le, nI_toInt (by omega)] at h2
  rw [Int32.lt_iff_toInt_lt, Int32.toInt_zero] at h
  omega
theorem dec_vp (i : Int32) (L : Nat) : vp_in i L ∨ ¬ vp_in i L := Classical.em _
section
variable {l : Launch} {D : va_G} {ca : Nat → ClassId} {ad : Nat → Nat} {n : Nat} {N : Heap → Prop}
set_option maxRecDepth 100000 in
set_option maxHeartbeats 4000000 in
theorem kX7_has (hAD : AD ad n) (hN : NS D N) {c0 c1 c2 c3 c4 : va_E} {rest : List va_E} (hn : 7 + rest.length = n) {so : Nat → Int32} {L : Nat} (hL : L ≤ 4000) (i : Int32) : Ct l yX7_has cX7_has 2 (some .boolean) (rK 0 0 0) D ca ad (c0 :: c1 :: c2 :: c3 :: c4 :: .inr (6, [.ref 6, .int (nI L)]) :: .inl (0, 4000, .inl so) :: rest) n [.ref 5, .int i] N (pG (c0 :: c1 :: c2 :: c3 :: c4 :: .inr (6, [.ref 6, .int (nI L)]) :: .inl (0, 4000, .inl so) :: rest) N (some (.int (if (0 ≤ i.toInt ∧ i.toInt < (L : Int)) then 1 else 0)))) := by
  have hn2 : ((c0 :: c1 :: c2 :: c3 :: c4 :: .inr (6, [.ref 6, .int (nI L)]) :: .inl (0, 4000, .inl so) :: rest) : List va_E).length = n := by simp; omega
  refine enter (lv := [(0, .ref 5), (1, .int i)]) (by decide +kernel) (Nat.le_of_ble_eq_true rfl) rfl hAD (fun U hK => ns_write hK hN) ?_
  intro p e s m below meth c A args hA C hr hlk hnm
  refine sg0 C foX7 coX7 oX7_has_0 rfl rfl hn2 ?_
  refine b1_lt (tgt := 23) C jX7_has_1 (by decide) (fun h1 => ?_) (fun h1 => ?_)
  · refine sg0 C foX7 coX7 oX7_has_23 rfl rfl hn2 ?_
    exact rt_z C hr hlk (by decide) jX7_has_24 (fun H hN => ⟨⟨by rw [if_neg (fun q => absurd (vp_in_iff.mpr q) (fun z => z (Or.inl h1)))], rfl⟩, hN⟩)
  · refine sg0 C foX7 coX7 oX7_has_4 rfl rfl hn2 ?_
    refine b2_ge (tgt := 23) C jX7_has_9 (by decide) (fun h9 => ?_) (fun h9 => ?_)
    · refine sg0 C foX7 coX7 oX7_has_23 rfl rfl hn2 ?_
      exact rt_z C hr hlk (by decide) jX7_has_24 (fun H hN => ⟨⟨by rw [if_neg (fun q => absurd q.2 (has_1 hL h9))], rfl⟩, hN⟩)
    · refine sg0 C foX7 coX7 oX7_has_12 rfl rfl hn2 ?_
      refine b2_ge (tgt := 23) C jX7_has_16 (by decide) (fun h16 => ?_) (fun h16 => ?_)
      · refine sg0 C foX7 coX7 oX7_has_23 rfl rfl hn2 ?_
        exact rt_z C hr hlk (by decide) jX7_has_24 (fun H hN => ⟨⟨by rw [if_neg (fun q => absurd q.2 (has_2 hL h16))], rfl⟩, hN⟩)
      · refine sg0 C foX7 coX7 oX7_has_19 rfl rfl hn2 ?_
        exact rt_z C hr hlk (by decide) jX7_has_24 (fun H hN => ⟨⟨by rw [if_pos (vp_in_iff.mp (has_3 hL h1 h9))], rfl⟩, hN⟩)
end
section
variable {p : Program} {l : Launch} {e : Env} {R : Room} {s : State} {m : MethodId} {args : Array Value} {below : List Frame} {meth : Method} {c : Code} {cells slots : Nat} {D : va_G} {ca : Nat → ClassId} {ad : Nat → Nat} {A : Nat → Prop} {N : Heap → Prop} {n : Nat}
set_option maxRecDepth 100000 in
set_option maxHeartbeats 4000000 in
theorem lp_meet (C : Cx p s m args c cX5_meet 4 RX5 D ca ad A N n) (hr : meth.sig.returnType = some .boolean) (hlk : meth.locks = false) {c0 c1 : va_E} {rest : List va_E} (hn : 5 + rest.length = n) {G : Option Value → List va_E → Heap → Prop} {ra rb : Nat → Int32} {Rg : List (Nat × Nat)} (hRg : rgR ra rb Rg) {f t : Nat} (hf : f < 65536) (ht : t < 65536) : ∀ (suf pre : List (Nat × Nat)), Rg = pre ++ suf → (∀ H, N H → G (some (.int (if meR suf f t = true then 1 else 0))) (c0 :: c1 :: .inr (4, [.ref 3, .ref 4, .int (nI Rg.length)]) :: .inl (0, 20, .inl ra) :: .inl (0, 20, .inl rb) :: rest) H) → Wa p l e R s m args below meth c cells slots (MQ below (CQ D ca ad G A) args s cells slots A) D ca ad A 4 N ([(0, .ref 2), (1, .int (nI f)), (2, .int (nI t)), (3, .int (nI pre.length))], [], (c0 :: c1 :: .inr (4, [.ref 3, .ref 4, .int (nI Rg.length)]) :: .inl (0, 20, .inl ra) :: .inl (0, 20, .inl rb) :: rest)) 2 := by
  have hn2 : ((c0 :: c1 :: .inr (4, [.ref 3, .ref 4, .int (nI Rg.length)]) :: .inl (0, 20, .inl ra) :: .inl (0, 20, .inl rb) :: rest) : List va_E).length = n := by simp; omega
  intro suf
  induction suf with
  | nil =>
    intro pre he hG
    have hl : Rg.length = pre.length := by rw [he]; simp
    refine sg0 C foX5 coX5 oX5_meet_2 rfl rfl hn2 ?_
    refine b2_ge (tgt := 38) C jX5_meet_7 (by decide) (fun h7 => ?_) (fun h7 => absurd (by rw [hl]; exact Int32.le_refl _) h7)
    refine sg0 C foX5 coX5 oX5_meet_38 rfl rfl hn2 ?_
    exact rt_z C hr hlk (by decide) jX5_meet_39 hG
  | cons r suf ih =>
    intro pre he hG
    have hl : pre.length < Rg.length := by rw [he]; simp
    have hl2 := hRg.1
    obtain ⟨hr1, hr2, hr3, hr4⟩ := hRg.2 pre.length r (by rw [he]; simp)
    have hcl : (nI pre.length).toNatClampNeg = pre.length := nI_clamp (by omega)
    refine sg0 C foX5 coX5 oX5_meet_2 rfl rfl hn2 ?_
    refine b2_ge (tgt := 38) C jX5_meet_7 (by decide) (fun h7 => ?_) (fun h7 => ?_)
    · exact absurd h7 (nI_ge hl (by omega))
    · refine sg C foX5 coX5 oX5_meet_10 rfl rfl hn2 ⟨vp_in_nI (by omega) (by decide), trivial⟩ ?_
      rw [hcl, hr1]
      refine b2_gt (tgt := 32) C jX5_meet_17 (by decide) (fun h17 => ?_) (fun h17 => ?_)
      · have hm : (decide (r.1 ≤ t) && decide (f ≤ r.2)) = false := by simp only [Bool.and_eq_false_iff, decide_eq_false_iff_not]; exact Or.inl (Nat.not_le.mpr ((nI_ltI (by omega) (by omega)).mp h17))
        refine sg0 C foX5 coX5 oX5_meet_32 rfl rfl hn2 ?_
        rw [nI_1]
        have h9 := ih (pre ++ [r]) (by rw [he]; simp) (fun H hH => by
          have h8 := hG H hH
          rw [show meR (r :: suf) f t = meR suf f t by simp only [meR, List.any_cons]; rw [hm]; simp] at h8
          exact h8)
        rw [show (pre ++ [r]).length = pre.length + 1 by simp] at h9
        exact h9
      · refine sg C foX5 coX5 oX5_meet_20 rfl rfl hn2 ⟨vp_in_nI (by omega) (by decide), trivial⟩ ?_
        rw [hcl, hr2]
        refine b2_gt (tgt := 32) C jX5_meet_27 (by decide) (fun h27 => ?_) (fun h27 => ?_)
        · have hm : (decide (r.1 ≤ t) && decide (f ≤ r.2)) = false := by simp only [Bool.and_eq_false_iff, decide_eq_false_iff_not]; exact Or.inr (Nat.not_le.mpr ((nI_ltI (by omega) (by omega)).mp h27))
          refine sg0 C foX5 coX5 oX5_meet_32 rfl rfl hn2 ?_
          rw [nI_1]
          have h9 := ih (pre ++ [r]) (by rw [he]; simp) (fun H hH => by
            have h8 := hG H hH
            rw [show meR (r :: suf) f t = meR suf f t by simp only [meR, List.any_cons]; rw [hm]; simp] at h8
            exact h8)
          rw [show (pre ++ [r]).length = pre.length + 1 by simp] at h9
          exact h9
        · have hm : (decide (r.1 ≤ t) && decide (f ≤ r.2)) = true := by simp only [Bool.and_eq_true, decide_eq_true_eq]; exact ⟨Nat.not_lt.mp fun q => h17 ((nI_ltI (by omega) (by omega)).mpr q), Nat.not_lt.mp fun q => h27 ((nI_ltI (by omega) (by omega)).mpr q)⟩
          refine sg0 C foX5 coX5 oX5_meet_30 rfl rfl hn2 ?_
          exact rt_z C hr hlk (by decide) jX5_meet_31 (fun H hH => by have h8 := hG H hH; rw [if_pos (show meR (r :: suf) f t = true by simp only [meR, List.any_cons]; rw [hm]; simp)] at h8; exact h8)
end
section
variable {l : Launch} {D : va_G} {ca : Nat → ClassId} {ad : Nat → Nat} {n : Nat} {N : Heap → Prop}
set_option maxRecDepth 100000 in
set_option maxHeartbeats 4000000 in
theorem kX5_meet (hAD : AD ad n) (hN : NS D N) {c0 c1 : va_E} {rest : List va_E} (hn : 5 + rest.length = n) {ra rb : Nat → Int32} {Rg : List (Nat × Nat)} (hRg : rgR ra rb Rg) {f t : Nat} (hf : f < 65536) (ht : t < 65536) : Ct l yX5_meet cX5_meet 4 (some .boolean) (rK 0 0 0) D ca ad (c0 :: c1 :: .inr (4, [.ref 3, .ref 4, .int (nI Rg.length)]) :: .inl (0, 20, .inl ra) :: .inl (0, 20, .inl rb) :: rest) n [.ref 2, .int (nI f), .int (nI t)] N (pG (c0 :: c1 :: .inr (4, [.ref 3, .ref 4, .int (nI Rg.length)]) :: .inl (0, 20, .inl ra) :: .inl (0, 20, .inl rb) :: rest) N (some (.int (if meR Rg f t = true then 1 else 0)))) := by
  have hn2 : ((c0 :: c1 :: .inr (4, [.ref 3, .ref 4, .int (nI Rg.length)]) :: .inl (0, 20, .inl ra) :: .inl (0, 20, .inl rb) :: rest) : List va_E).length = n := by simp; omega
  refine enter (lv := [(0, .ref 2), (1, .int (nI f)), (2, .int (nI t))]) (by decide +kernel) (Nat.le_of_ble_eq_true rfl) rfl hAD (fun U hK => ns_write hK hN) ?_
  intro p e s m below meth c A args hA C hr hlk hnm
  refine sg0 C foX5 coX5 oX5_meet_0 rfl rfl hn2 ?_
  exact lp_meet C hr hlk hn hRg hf ht Rg [] rfl (fun H hH => ⟨⟨rfl, rfl⟩, hH⟩)
end
