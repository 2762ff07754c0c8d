/-! the model: remove, keep; which version -/
def cpU {α : Type} (f : Nat → α) (a s n : Nat) : Nat → α := fun z => if a ≤ z ∧ z < a + n then f (s + (z - a)) else f z
theorem cpU_0 {α : Type} (f : Nat → α) (a s : Nat) : cpU f a s 0 = f := by
  funext z
  unfold cpU
  rw [if_neg (by omega)]
theorem cpU_s {α : Type} {f : Nat → α} {a s i : Nat} (h : a + i < s) : cpU f a s i (s + i) = f (s + i) := by
  unfold cpU
  rw [if_neg (by omega)]
theorem cpU_i {f : Nat → Int32} {a s i : Nat} : upd (cpU f a s i) (a + i) (f (s + i)) = cpU f a s (i + 1) := by
  funext z
  unfold upd cpU
  by_cases h : z = a + i
  · subst h
    rw [if_pos rfl, if_pos (by omega), show s + (a + i - a) = s + i by omega]
  · rw [if_neg h]
    by_cases h2 : a ≤ z ∧ z < a + i
    · rw [if_pos h2, if_pos (by omega)]
    · rw [if_neg h2, if_neg (by omega)]
theorem cpU_l {f : Nat → Int64} {a s i : Nat} : vp_updL (cpU f a s i) (a + i) (f (s + i)) = cpU f a s (i + 1) := by
  funext z
  unfold vp_updL cpU
  by_cases h : z = a + i
  · subst h
    rw [if_pos rfl, if_pos (by omega), show s + (a + i - a) = s + i by omega]
  · rw [if_neg h]
    by_cases h2 : a ≤ z ∧ z < a + i
    · rw [if_pos h2, if_pos (by omega)]
    · rw [if_neg h2, if_neg (by omega)]
theorem ls_cpy {pa : Nat → Int32} {va : Nat → Int64} {a s : Nat} {xs : List (Nat × Int64)} (h : lsR pa va s xs) : lsR (cpU pa a s xs.length) (cpU va a s xs.length) a xs := by
  intro j q hq
  have hlt := (List.getElem?_eq_some_iff.mp hq).1
  have e2 : a ≤ a + j ∧ a + j < a + xs.length := by omega
  simp only [cpU, if_pos e2]
  rw [show s + (a + j - a) = s + j by omega]
  exact h j q hq
theorem ls_off {pa : Nat → Int32} {va : Nat → Int64} {a s n b : Nat} {xs : List (Nat × Int64)} (h : lsR pa va b xs) (ho : ∀ j, j < xs.length → b + j < a ∨ a + n ≤ b + j) : lsR (cpU pa a s n) (cpU va a s n) b xs := by
  intro j q hq
  have hlt := (List.getElem?_eq_some_iff.mp hq).1
  have e2 : ¬ (a ≤ b + j ∧ b + j < a + n) := by have := ho j hlt; omega
  simp only [cpU, if_neg e2]
  exact h j q hq
/-- version x: its row begins at b, its size stands at ix -/
def verR (nv : Nat) (x : Int32) (b ix : Nat) : Prop := (x = -1 ∧ b = 2400 ∧ ix = 8) ∨ (x = nI ix ∧ ix < nv ∧ b = 300 * ix)
theorem nI_m1 {n : Nat} (h : n < 2 ^ 31) : ¬ (-1 : Int32) = nI n := fun e => by
  have := congrArg Int32.toInt e
  rw [nI_toInt h] at this
  simp at this
theorem nI_m2 {n : Nat} (h : n < 2 ^ 31) : ¬ nI n = -2 := fun e => by
  have := congrArg Int32.toInt e
  rw [nI_toInt h] at this
  simp at this
theorem ver_lt {nv b ix : Nat} {x : Int32} (hnv : nv ≤ 8) (h : verR nv x b ix) : b < 2 ^ 31 := by
  rcases h with ⟨-, e, -⟩ | ⟨-, e1, e2⟩ <;> omega
section
variable {p : Program} {l : Launch} {e : Env} {R : Room} {s : State} {m : MethodId} {args : Array Value} {below : List Frame} {meth : Method} {c : Code} {cells slots : Nat} {QQ : State → Prop} {D : va_G} {ca : Nat → ClassId} {ad : Nat → Nat} {A : Nat → Prop} {N : Heap → Prop} {pa : Nat → Int32} {va : Nat → Int64} {sz : Nat → Int32} {fr : Nat → Int32} {tw : Nat → Int32} {ta : Nat → Int32} {wd : Nat → Int64} {wb : Nat → Int32} {wp : Nat → Int32} {ou : Nat → Int32} {o1 : Nat → Int32} {o2 : Nat → Int32} {pf : Nat → Int32} {pt : Nat → Int32} {ki : Nat → Int32} {bi : Nat → Int32} {ste : Nat → Int32} {hel : Nat → Int64} {low : Nat → Int32} {hgh : Nat → Int32} {su : Nat → Int64} {ro : Nat → Int32} {fe : Nat → Int32} {vs : Int32} {wn : Int32} {tp : Int32} {dp : Int32} {la : Int32} {rst : Int32} {hlf : Int32} {nd : Int32} {rt : Int32} {frd : Int32} {fa : Int32} {at_ : Int32} {end_ : Int32} {ab : Int32} {fo : Int64} {co : Int32} {ll : Int32} {lh : Int32} {hm : Int32}
set_option maxRecDepth 100000 in
set_option maxHeartbeats 4000000 in
theorem lp_remove (C : Cx p s m args c cX9_remove 4 RX9 D ca ad A N 24) {P k e0 sv : Nat} (he0 : e0 = 2400 + sv) (hsz : sz 8 = nI sv) (hb : e0 ≤ 2699) : ∀ (j i : Nat), i + j = e0 → k ≤ i → Wa p l e R s m args below meth c cells slots QQ D ca ad A 4 N ([(0, .ref 0), (1, .int (nI P)), (2, .int (nI k)), (3, .int (nI e0))], [], (mW (shD pa k e0) (shD va k e0) sz fr tw ta wd wb wp ou o1 o2 pf pt ki bi ste hel low hgh su ro fe vs wn tp dp la rst hlf nd rt frd fa at_ end_ ab fo co ll lh hm)) 104 → Wa p l e R s m args below meth c cells slots QQ D ca ad A 4 N ([(0, .ref 0), (1, .int (nI P)), (2, .int (nI k)), (3, .int (nI i))], [], (mW (shD pa k i) (shD va k i) sz fr tw ta wd wb wp ou o1 o2 pf pt ki bi ste hel low hgh su ro fe vs wn tp dp la rst hlf nd rt frd fa at_ end_ ab fo co ll lh hm)) 55 := by
  intro j
  induction j with
  | zero =>
    intro i hi hk hK
    have hie : i = e0 := by omega
    subst hie
    refine sg C foX9 coX9 oX9_remove_55 rfl rfl rfl ⟨v8, trivial⟩ ?_
    rw [i8, hsz, show (2400 : Int32) = nI 2400 from rfl, nI_add]
    exact b2_ge (tgt := 104) C jX9_remove_67 (by decide) (fun _ => hK) (fun h7 => absurd (by rw [he0]; exact Int32.le_refl _) h7)
  | succ j ih =>
    intro i hi hk hK
    have hc1 : (nI i).toNatClampNeg = i := nI_clamp (by omega)
    have hc2 : (nI (i + 1)).toNatClampNeg = i + 1 := nI_clamp (by omega)
    refine sg C foX9 coX9 oX9_remove_55 rfl rfl rfl ⟨v8, trivial⟩ ?_
    rw [i8, hsz, show (2400 : Int32) = nI 2400 from rfl, nI_add]
    refine b2_ge (tgt := 104) C jX9_remove_67 (by decide) (fun h67 => ?_) (fun h67 => ?_)
    · exact absurd h67 (nI_ge (by omega) (by omega))
    · refine sg C foX9 coX9 oX9_remove_70 rfl rfl rfl (by rw [nI_1]; exact ⟨vp_in_nI (by omega) (by decide), vp_in_nI (by omega) (by decide), vp_in_nI (by omega) (by decide), vp_in_nI (by omega) (by decide), trivial⟩) ?_
      rw [nI_1, hc1, hc2, shD_i hk, shD_l hk]
      exact ih (i + 1) (by omega) (by omega) hK
theorem lp_remove0 (C : Cx p s m args c cX9_remove 4 RX9 D ca ad A N 24) {P k e0 sv : Nat} (he0 : e0 = 2400 + sv) (hsz : sz 8 = nI sv) (hb : e0 ≤ 2699) (hk : k ≤ e0) (hK : Wa p l e R s m args below meth c cells slots QQ D ca ad A 4 N ([(0, .ref 0), (1, .int (nI P)), (2, .int (nI k)), (3, .int (nI e0))], [], (mW (shD pa k e0) (shD va k e0) sz fr tw ta wd wb wp ou o1 o2 pf pt ki bi ste hel low hgh su ro fe vs wn tp dp la rst hlf nd rt frd fa at_ end_ ab fo co ll lh hm)) 104) : Wa p l e R s m args below meth c cells slots QQ D ca ad A 4 N ([(0, .ref 0), (1, .int (nI P)), (2, .int (nI k)), (3, .int (nI k))], [], (mW pa va sz fr tw ta wd wb wp ou o1 o2 pf pt ki bi ste hel low hgh su ro fe vs wn tp dp la rst hlf nd rt frd fa at_ end_ ab fo co ll lh hm)) 55 := by
  have h := lp_remove C he0 hsz hb (e0 - k) k (by omega) (Nat.le_refl _) hK
  rw [shD_0, shD_0] at h
  exact h
end
section
variable {l : Launch} {D : va_G} {ca : Nat → ClassId} {ad : Nat → Nat} {N : Heap → Prop} {pa : Nat → Int32} {va : Nat → Int64} {sz : Nat → Int32} {fr : Nat → Int32} {tw : Nat → Int32} {ta : Nat → Int32} {wd : Nat → Int64} {wb : Nat → Int32} {wp : Nat → Int32} {ou : Nat → Int32} {o1 : Nat → Int32} {o2 : Nat → Int32} {pf : Nat → Int32} {pt : Nat → Int32} {ki : Nat → Int32} {bi : Nat → Int32} {ste : Nat → Int32} {hel : Nat → Int64} {low : Nat → Int32} {hgh : Nat → Int32} {su : Nat → Int64} {ro : Nat → Int32} {fe : Nat → Int32} {vs : Int32} {wn : Int32} {tp : Int32} {dp : Int32} {la : Int32} {rst : Int32} {hlf : Int32} {nd : Int32} {rt : Int32} {frd : Int32} {fa : Int32} {at_ : Int32} {end_ : Int32} {ab : Int32} {fo : Int64} {co : Int32} {ll : Int32} {lh : Int32} {hm : Int32}
set_option maxRecDepth 100000 in
set_option maxHeartbeats 4000000 in
theorem kX9_remove (hAD : AD ad 24) (hN : NS D N) {xs : List (Nat × Int64)} (hxs : lsR pa va 2400 xs) (hsz : sz 8 = nI xs.length) (hlen : xs.length ≤ 300) (hpt : ∀ q ∈ xs, q.1 < 65536) (hsrt : srt xs) {P : Nat} (hP : P < 65536) : Ct l yX9_remove cX9_remove 4 (some .int) (rK 1 0 0) D ca ad (mW pa va sz fr tw ta wd wb wp ou o1 o2 pf pt ki bi ste hel low hgh su ro fe vs wn tp dp la rst hlf nd rt frd fa at_ end_ ab fo co ll lh hm) 24 [.ref 0, .int (nI P)] N (fun r ws2 H => ((¬ (∃ w, xs[ixL P xs]? = some (P, w)) ∧ r = some (.int 0) ∧ ws2 = (mW pa va sz fr tw ta wd wb wp ou o1 o2 pf pt ki bi ste hel low hgh su ro fe vs wn tp dp la rst hlf nd rt frd fa at_ end_ ab fo co ll lh hm)) ∨ (∃ pa2 va2 sz2, ((∃ w, xs[ixL P xs]? = some (P, w)) ∧ r = some (.int 1)) ∧ ws2 = (mW pa2 va2 sz2 fr tw ta wd wb wp ou o1 o2 pf pt ki bi ste hel low hgh su ro fe vs wn tp dp la rst hlf nd rt frd fa at_ end_ ab fo co ll lh hm) ∧ lsR pa2 va2 2400 (delL P xs) ∧ sz2 8 = nI (delL P xs).length ∧ kpR pa pa2 va va2 sz sz2)) ∧ N H) := by
  refine enter (lv := [(0, .ref 0), (1, .int (nI P))]) (by decide +kernel) (Nat.le_of_ble_eq_true rfl) rfl hAD (fun U hK => ns_write hK hN) ?_
  intro p e s m below meth c A args hA C hr hlk hnm
  refine sg0 C foX9 coX9 oX9_remove_0 rfl rfl rfl ?_
  refine cl_s C (kX9_isPath hAD rfl hN (nI P)) cd_X9_isPath in_X9 ml_X9_101 sm_X9_isPath hd_X9_isPath rfl rfl ⟨(Nat.le_of_ble_eq_true rfl), (Nat.le_of_ble_eq_true rfl)⟩ ⟨(Nat.le_of_ble_eq_true rfl), (Nat.le_of_ble_eq_true rfl)⟩ (Nat.le_of_ble_eq_true rfl) jX9_remove_1 (fun v ws' => Wa.and (fun hv => ?_))
  obtain ⟨rfl, rfl⟩ := hv
  rw [if_pos (pth_ok hP)]
  refine b1_ne (tgt := 9) C jX9_remove_4 (by decide) (fun h4 => ?_) (fun h4 => ?_)
  · refine sg0 C foX9 coX9 oX9_remove_9 rfl rfl rfl ?_
    refine cl_v C (kX9_find hAD hN hxs hsz hlen hpt hP) (rcv (ci := 8) C.2.1 rfl rfl) cd_X9_find in_X9 ml_X9_105 im_X9_find se_X9_find hd_X9_find rfl rfl ⟨(Nat.le_of_ble_eq_true rfl), (Nat.le_of_ble_eq_true rfl)⟩ ⟨(Nat.le_of_ble_eq_true rfl), (Nat.le_of_ble_eq_true rfl)⟩ (Nat.le_of_ble_eq_true rfl) jX9_remove_11 (fun v ws' => Wa.and (fun hv => ?_))
    obtain ⟨rfl, rfl⟩ := hv
    have hix := ix_le P xs
    have hcl : (nI (2400 + ixL P xs)).toNatClampNeg = (2400 + ixL P xs) := nI_clamp (by omega)
    refine sg C foX9 coX9 oX9_remove_14 rfl rfl rfl ⟨v8, trivial⟩ ?_
    rw [i8, hsz, show (2400 : Int32) = nI 2400 from rfl, nI_add]
    refine b2_eq (tgt := 40) C jX9_remove_27 (by decide) (fun h27 => ?_) (fun h27 => ?_)
    · have hq : ixL P xs = xs.length := by have := (nI_eq (by omega) (by omega)).mp h27; omega
      have hnt : ¬ (∃ w, xs[ixL P xs]? = some (P, w)) := fun ⟨w, hw⟩ => absurd (List.getElem?_eq_some_iff.mp hw).1 (by omega)
      refine sg0 C foX9 coX9 oX9_remove_40 rfl rfl rfl ?_
      exact rt_i C hr hlk jX9_remove_41 (fun H hH => ⟨Or.inl ⟨hnt, rfl, rfl⟩, hH⟩)
    · have hq : ixL P xs < xs.length := Nat.lt_of_le_of_ne hix fun e9 => h27 (by rw [e9])
      obtain ⟨hr1, hr2⟩ := hxs (ixL P xs) xs[ixL P xs] (List.getElem?_eq_getElem hq)
      have hr3 := hpt _ (List.getElem_mem hq)
      refine sg C foX9 coX9 oX9_remove_30 rfl rfl rfl ⟨vp_in_nI (by omega) (by decide), trivial⟩ ?_
      rw [hcl, hr1]
      refine b2_eq (tgt := 42) C jX9_remove_37 (by decide) (fun h37 => ?_) (fun h37 => ?_)
      · have ht : (∃ w, xs[ixL P xs]? = some (P, w)) := ⟨xs[ixL P xs].2, by rw [List.getElem?_eq_getElem hq]; congr 1; exact Prod.ext ((nI_eq (by omega) (by omega)).mp h37) rfl⟩
        refine sg C foX9 coX9 oX9_remove_42 rfl rfl rfl ⟨v8, v8, trivial⟩ ?_
        have hs1 : nI xs.length - 1 = nI (xs.length - 1) := by rw [show (1 : Int32) = nI 1 from rfl, pk_sub (by omega)]
        rw [i8, hsz, hs1]
        refine lp_remove0 C (e0 := 2400 + (xs.length - 1)) rfl (if_pos rfl) (by omega) (by omega) ?_
        refine sg0 C foX9 coX9 oX9_remove_104 rfl rfl rfl ?_
        exact rt_i C hr hlk jX9_remove_105 (fun H hH => ⟨Or.inr ⟨_, _, _, ⟨ht, rfl⟩, rfl, by rw [delL_ix hsrt ht]; exact ls_del hxs hq, by rw [delL_ix hsrt ht]; simp only [upd, if_pos]; congr 1; simp; omega, kp_del (by omega)⟩, hH⟩)
      · have hnt : ¬ (∃ w, xs[ixL P xs]? = some (P, w)) := fun ⟨w, hw⟩ => h37 (by rw [List.getElem?_eq_getElem hq] at hw; rw [Option.some.inj hw])
        refine sg0 C foX9 coX9 oX9_remove_40 rfl rfl rfl ?_
        exact rt_i C hr hlk jX9_remove_41 (fun H hH => ⟨Or.inl ⟨hnt, rfl, rfl⟩, hH⟩)
  · exact absurd h4 (by decide)
end
section
variable {p : Program} {l : Launch} {e : Env} {R : Room} {s : State} {m : MethodId} {args : Array Value} {below : List Frame} {meth : Method} {c : Code} {cells slots : Nat} {QQ : State → Prop} {D : va_G} {ca : Nat → ClassId} {ad : Nat → Nat} {A : Nat → Prop} {N : Heap → Prop} {pa : Nat → Int32} {va : Nat → Int64} {sz : Nat → Int32} {fr : Nat → Int32} {tw : Nat → Int32} {ta : Nat → Int32} {wd : Nat → Int64} {wb : Nat → Int32} {wp : Nat → Int32} {ou : Nat → Int32} {o1 : Nat → Int32} {o2 : Nat → Int32} {pf : Nat → Int32} {pt : Nat → Int32} {ki : Nat → Int32} {bi : Nat → Int32} {ste : Nat → Int32} {hel : Nat → Int64} {low : Nat → Int32} {hgh : Nat → Int32} {su : Nat → Int64} {ro : Nat → Int32} {fe : Nat → Int32} {vs : Int32} {wn : Int32} {tp : Int32} {dp : Int32} {la : Int32} {rst : Int32} {hlf : Int32} {nd : Int32} {rt : Int32} {frd : Int32} {fa : Int32} {at_ : Int32} {end_ : Int32} {ab : Int32} {fo : Int64} {co : Int32} {ll : Int32} {lh : Int32} {hm : Int32}
set_option maxRecDepth 100000 in
set_option maxHeartbeats 4000000 in
theorem lp_keep (C : Cx p s m args c cX9_keep 2 RX9 D ca ad A N 24) {nv sv : Nat} (hnv : nv < 8) (hsz : sz 8 = nI sv) (hb : sv ≤ 300) : ∀ (j i : Nat), i + j = sv → Wa p l e R s m args below meth c cells slots QQ D ca ad A 2 N ([(0, .ref 0), (1, .int (nI sv))], [], (mW (cpU pa (300 * nv) 2400 sv) (cpU va (300 * nv) 2400 sv) sz fr tw ta wd wb wp ou o1 o2 pf pt ki bi ste hel low hgh su ro fe (nI nv) wn tp dp la rst hlf nd rt frd fa at_ end_ ab fo co ll lh hm)) 97 → Wa p l e R s m args below meth c cells slots QQ D ca ad A 2 N ([(0, .ref 0), (1, .int (nI i))], [], (mW (cpU pa (300 * nv) 2400 i) (cpU va (300 * nv) 2400 i) sz fr tw ta wd wb wp ou o1 o2 pf pt ki bi ste hel low hgh su ro fe (nI nv) wn tp dp la rst hlf nd rt frd fa at_ end_ ab fo co ll lh hm)) 30 := by
  intro j
  induction j with
  | zero =>
    intro i hi hK
    have hie : i = sv := by omega
    subst hie
    refine sg C foX9 coX9 oX9_keep_30 rfl rfl rfl ⟨v8, trivial⟩ ?_
    rw [i8, hsz]
    exact b2_ge (tgt := 97) C jX9_keep_38 (by decide) (fun _ => hK) (fun h7 => absurd (Int32.le_refl _) h7)
  | succ j ih =>
    intro i hi hK
    have hi1 : (300 : Int32) * nI nv + nI i = nI (300 * nv + i) := by rw [show (300 : Int32) = nI 300 from rfl, pk_mul, nI_add]
    have hi2 : (2400 : Int32) + nI i = nI (2400 + i) := by rw [show (2400 : Int32) = nI 2400 from rfl, nI_add]
    have hc1 : (nI (300 * nv + i)).toNatClampNeg = 300 * nv + i := nI_clamp (by omega)
    have hc2 : (nI (2400 + i)).toNatClampNeg = 2400 + i := nI_clamp (by omega)
    refine sg C foX9 coX9 oX9_keep_30 rfl rfl rfl ⟨v8, trivial⟩ ?_
    rw [i8, hsz]
    refine b2_ge (tgt := 97) C jX9_keep_38 (by decide) (fun h38 => ?_) (fun h38 => ?_)
    · exact absurd h38 (nI_ge (by omega) (by omega))
    · refine sg C foX9 coX9 oX9_keep_41 rfl rfl rfl (by rw [hi1, hi2]; exact ⟨vp_in_nI (by omega) (by decide), vp_in_nI (by omega) (by decide), vp_in_nI (by omega) (by decide), vp_in_nI (by omega) (by decide), trivial⟩) ?_
      rw [hi1, hi2, hc1, hc2, nI_1, cpU_s (f := pa) (by omega), cpU_s (f := va) (by omega), cpU_i, cpU_l]
      exact ih (i + 1) (by omega) hK
theorem lp_keep0 (C : Cx p s m args c cX9_keep 2 RX9 D ca ad A N 24) {nv sv : Nat} (hnv : nv < 8) (hsz : sz 8 = nI sv) (hb : sv ≤ 300) (hK : Wa p l e R s m args below meth c cells slots QQ D ca ad A 2 N ([(0, .ref 0), (1, .int (nI sv))], [], (mW (cpU pa (300 * nv) 2400 sv) (cpU va (300 * nv) 2400 sv) sz fr tw ta wd wb wp ou o1 o2 pf pt ki bi ste hel low hgh su ro fe (nI nv) wn tp dp la rst hlf nd rt frd fa at_ end_ ab fo co ll lh hm)) 97) : Wa p l e R s m args below meth c cells slots QQ D ca ad A 2 N ([(0, .ref 0), (1, .int 0)], [], (mW pa va sz fr tw ta wd wb wp ou o1 o2 pf pt ki bi ste hel low hgh su ro fe (nI nv) wn tp dp la rst hlf nd rt frd fa at_ end_ ab fo co ll lh hm)) 30 := by
  have h := lp_keep C hnv hsz hb sv 0 (by omega) hK
  rw [cpU_0, cpU_0] at h
  exact h
end
section
variable {l : Launch} {D : va_G} {ca : Nat → ClassId} {ad : Nat → Nat} {N : Heap → Prop} {pa : Nat → Int32} {va : Nat → Int64} {sz : Nat → Int32} {fr : Nat → Int32} {tw : Nat → Int32} {ta : Nat → Int32} {wd : Nat → Int64} {wb : Nat → Int32} {wp : Nat → Int32} {ou : Nat → Int32} {o1 : Nat → Int32} {o2 : Nat → Int32} {pf : Nat → Int32} {pt : Nat → Int32} {ki : Nat → Int32} {bi : Nat → Int32} {ste : Nat → Int32} {hel : Nat → Int64} {low : Nat → Int32} {hgh : Nat → Int32} {su : Nat → Int64} {ro : Nat → Int32} {fe : Nat → Int32} {vs : Int32} {wn : Int32} {tp : Int32} {dp : Int32} {la : Int32} {rst : Int32} {hlf : Int32} {nd : Int32} {rt : Int32} {frd : Int32} {fa : Int32} {at_ : Int32} {end_ : Int32} {ab : Int32} {fo : Int64} {co : Int32} {ll : Int32} {lh : Int32} {hm : Int32}
set_option maxRecDepth 100000 in
set_option maxHeartbeats 4000000 in
theorem kX9_keep (hAD : AD ad 24) (hN : NS D N) {nv sv : Nat} (hnv : nv ≤ 8) (hsz : sz 8 = nI sv) (hb : sv ≤ 300) : Ct l yX9_keep cX9_keep 2 (some .int) (rK 0 0 0) D ca ad (mW pa va sz fr tw ta wd wb wp ou o1 o2 pf pt ki bi ste hel low hgh su ro fe (nI nv) wn tp dp la rst hlf nd rt frd fa at_ end_ ab fo co ll lh hm) 24 [.ref 0] N (fun r ws2 H => ((8 ≤ nv ∧ r = some (.int (-3)) ∧ ws2 = (mW pa va sz fr tw ta wd wb wp ou o1 o2 pf pt ki bi ste hel low hgh su ro fe (nI nv) wn tp dp la rst hlf nd rt frd fa at_ end_ ab fo co ll lh hm)) ∨ (nv < 8 ∧ r = some (.int (nI nv)) ∧ ws2 = (mW (cpU pa (300 * nv) 2400 sv) (cpU va (300 * nv) 2400 sv) (upd sz nv (nI sv)) fr tw ta wd wb wp ou o1 o2 pf pt ki bi ste hel low hgh su ro fe (nI (nv + 1)) wn tp dp la rst hlf nd rt frd fa at_ end_ ab fo co ll lh hm))) ∧ N H) := by
  refine enter (lv := [(0, .ref 0)]) (by decide +kernel) (Nat.le_of_ble_eq_true rfl) rfl hAD (fun U hK => ns_write hK hN) ?_
  intro p e s m below meth c A args hA C hr hlk hnm
  refine sg0 C foX9 coX9 oX9_keep_0 rfl rfl rfl ?_
  refine b2_ne (tgt := 12) C jX9_keep_6 (by decide) (fun h6 => ?_) (fun h6 => ?_)
  · have hq : nv < 8 := Nat.lt_of_le_of_ne hnv fun e9 => h6 (by rw [e9]; rfl)
    have hcn : (nI nv).toNatClampNeg = nv := nI_clamp (by omega)
    refine sg C foX9 coX9 oX9_keep_12 rfl rfl rfl ⟨vp_in_nI (by omega) (by decide), v8, trivial⟩ ?_
    rw [i8, hsz, hcn]
    refine lp_keep0 C hq (show upd sz nv (nI sv) 8 = nI sv by simp only [upd]; rw [if_neg (by omega)]; exact hsz) hb ?_
    refine sg0 C foX9 coX9 oX9_keep_97 rfl rfl rfl ?_
    exact rt_i C hr hlk jX9_keep_113 (fun H hH => ⟨Or.inr ⟨hq, by rw [nI_1, show (1 : Int32) = nI 1 from rfl, pk_sub (by omega)]; rfl, by rw [nI_1]⟩, hH⟩)
  · have hq : nv = 8 := (nI_eq (by omega) (by decide)).mp (show nI nv = nI 8 from h6)
    refine sg0 C foX9 coX9 oX9_keep_9 rfl rfl rfl ?_
    exact rt_i C hr hlk jX9_keep_11 (fun H hH => ⟨Or.inl ⟨by omega, rfl, rfl⟩, hH⟩)
set_option maxRecDepth 100000 in
set_option maxHeartbeats 4000000 in
theorem kX9_baseOf (hAD : AD ad 24) (hN : NS D N) {nv b ix : Nat} (hnv : nv ≤ 8) {x : Int32} (hx : verR nv x b ix) : Ct l yX9_baseOf cX9_baseOf 2 (some .int) (rK 0 0 0) D ca ad (mW pa va sz fr tw ta wd wb wp ou o1 o2 pf pt ki bi ste hel low hgh su ro fe (nI nv) wn tp dp la rst hlf nd rt frd fa at_ end_ ab fo co ll lh hm) 24 [.ref 0, .int x] N (pG (mW pa va sz fr tw ta wd wb wp ou o1 o2 pf pt ki bi ste hel low hgh su ro fe (nI nv) wn tp dp la rst hlf nd rt frd fa at_ end_ ab fo co ll lh hm) N (some (.int (nI b)))) := by
  refine enter (lv := [(0, .ref 0), (1, .int x)]) (by decide +kernel) (Nat.le_of_ble_eq_true rfl) rfl hAD (fun U hK => ns_write hK hN) ?_
  intro p e s m below meth c A args hA C hr hlk hnm
  refine sg0 C foX9 coX9 oX9_baseOf_0 rfl rfl rfl ?_
  refine b2_ne (tgt := 11) C jX9_baseOf_2 (by decide) (fun h2 => ?_) (fun h2 => ?_)
  · rcases hx with ⟨e1, -, -⟩ | ⟨e1, e2, e3⟩
    · exact absurd e1 h2
    subst e1 e3
    refine sg0 C foX9 coX9 oX9_baseOf_11 rfl rfl rfl ?_
    refine b1_lt (tgt := 31) C jX9_baseOf_12 (by decide) (fun h12 => ?_) (fun h12 => ?_)
    · exact absurd h12 (nI_pos (by omega))
    · refine sg0 C foX9 coX9 oX9_baseOf_15 rfl rfl rfl ?_
      refine b2_ge (tgt := 31) C jX9_baseOf_20 (by decide) (fun h20 => ?_) (fun h20 => ?_)
      · exact absurd h20 (nI_ge e2 (by omega))
      · refine sg0 C foX9 coX9 oX9_baseOf_23 rfl rfl rfl ?_
        exact rt_i C hr hlk jX9_baseOf_33 (fun H hH => ⟨⟨by rw [show (300 : Int32) = nI 300 from rfl, pk_mul], rfl⟩, hH⟩)
  · subst h2
    rcases hx with ⟨-, e1, -⟩ | ⟨e1, e2, e3⟩
    rotate_left
    · exact absurd e1 (nI_m1 (by omega))
    subst e1
    refine sg0 C foX9 coX9 oX9_baseOf_5 rfl rfl rfl ?_
    exact rt_i C hr hlk jX9_baseOf_33 (fun H hH => ⟨⟨by rfl, rfl⟩, hH⟩)
set_option maxRecDepth 100000 in
set_option maxHeartbeats 4000000 in
theorem kX9_baseOf_bad (hAD : AD ad 24) (hN : NS D N) {nv : Nat} {x : Int32} (hx1 : ¬ x = -1) (hx2 : ¬ (0 ≤ x ∧ x < nI nv)) : Ct l yX9_baseOf cX9_baseOf 2 (some .int) (rK 0 0 0) D ca ad (mW pa va sz fr tw ta wd wb wp ou o1 o2 pf pt ki bi ste hel low hgh su ro fe (nI nv) wn tp dp la rst hlf nd rt frd fa at_ end_ ab fo co ll lh hm) 24 [.ref 0, .int x] N (pG (mW pa va sz fr tw ta wd wb wp ou o1 o2 pf pt ki bi ste hel low hgh su ro fe (nI nv) wn tp dp la rst hlf nd rt frd fa at_ end_ ab fo co ll lh hm) N (some (.int (-2)))) := by
  refine enter (lv := [(0, .ref 0), (1, .int x)]) (by decide +kernel) (Nat.le_of_ble_eq_true rfl) rfl hAD (fun U hK => ns_write hK hN) ?_
  intro p e s m below meth c A args hA C hr hlk hnm
  refine sg0 C foX9 coX9 oX9_baseOf_0 rfl rfl rfl ?_
  refine b2_ne (tgt := 11) C jX9_baseOf_2 (by decide) (fun h2 => ?_) (fun h2 => ?_)
  · refine sg0 C foX9 coX9 oX9_baseOf_11 rfl rfl rfl ?_
    refine b1_lt (tgt := 31) C jX9_baseOf_12 (by decide) (fun h12 => ?_) (fun h12 => ?_)
    · refine sg0 C foX9 coX9 oX9_baseOf_31 rfl rfl rfl ?_
      exact rt_i C hr hlk jX9_baseOf_33 (fun H hN => ⟨⟨rfl, rfl⟩, hN⟩)
    · refine sg0 C foX9 coX9 oX9_baseOf_15 rfl rfl rfl ?_
      refine b2_ge (tgt := 31) C jX9_baseOf_20 (by decide) (fun h20 => ?_) (fun h20 => ?_)
      · refine sg0 C foX9 coX9 oX9_baseOf_31 rfl rfl rfl ?_
        exact rt_i C hr hlk jX9_baseOf_33 (fun H hN => ⟨⟨rfl, rfl⟩, hN⟩)
      · exact absurd ⟨Int32.not_lt.mp h12, Int32.not_le.mp h20⟩ hx2
  · exact absurd h2 hx1
set_option maxRecDepth 100000 in
set_option maxHeartbeats 4000000 in
theorem kX9_sizeOf (hAD : AD ad 24) (hN : NS D N) {nv b ix : Nat} (hnv : nv ≤ 8) {x : Int32} (hx : verR nv x b ix) : Ct l yX9_sizeOf cX9_sizeOf 2 (some .int) (rK 0 0 0) D ca ad (mW pa va sz fr tw ta wd wb wp ou o1 o2 pf pt ki bi ste hel low hgh su ro fe (nI nv) wn tp dp la rst hlf nd rt frd fa at_ end_ ab fo co ll lh hm) 24 [.ref 0, .int x] N (pG (mW pa va sz fr tw ta wd wb wp ou o1 o2 pf pt ki bi ste hel low hgh su ro fe (nI nv) wn tp dp la rst hlf nd rt frd fa at_ end_ ab fo co ll lh hm) N (some (.int (sz ix)))) := by
  refine enter (lv := [(0, .ref 0), (1, .int x)]) (by decide +kernel) (Nat.le_of_ble_eq_true rfl) rfl hAD (fun U hK => ns_write hK hN) ?_
  intro p e s m below meth c A args hA C hr hlk hnm
  refine sg0 C foX9 coX9 oX9_sizeOf_0 rfl rfl rfl ?_
  refine b2_ne (tgt := 14) C jX9_sizeOf_6 (by decide) (fun h6 => ?_) (fun h6 => ?_)
  · rcases hx with ⟨e1, -, -⟩ | ⟨e1, e2, e3⟩
    · exact absurd e1 h6
    subst e1
    refine sg0 C foX9 coX9 oX9_sizeOf_14 rfl rfl rfl ?_
    refine sg C foX9 coX9 oX9_sizeOf_15 rfl rfl rfl ⟨vp_in_nI (by omega) (by decide), trivial⟩ ?_
    exact rt_i C hr hlk jX9_sizeOf_16 (fun H hH => ⟨⟨by rw [nI_clamp (show ix < 2 ^ 31 by omega)], rfl⟩, hH⟩)
  · subst h6
    rcases hx with ⟨-, -, e1⟩ | ⟨e1, e2, e3⟩
    rotate_left
    · exact absurd e1 (nI_m1 (by omega))
    subst e1
    refine sg0 C foX9 coX9 oX9_sizeOf_9 rfl rfl rfl ?_
    refine sg C foX9 coX9 oX9_sizeOf_15 rfl rfl rfl ⟨v8, trivial⟩ ?_
    exact rt_i C hr hlk jX9_sizeOf_16 (fun H hH => ⟨⟨by rfl, rfl⟩, hH⟩)
set_option maxRecDepth 100000 in
set_option maxHeartbeats 4000000 in
theorem kX9_leaves (hAD : AD ad 24) (hN : NS D N) {nv b ix : Nat} (hnv : nv ≤ 8) {x : Int32} (hx : verR nv x b ix) : Ct l yX9_leaves cX9_leaves 2 (some .int) (rK 1 0 0) D ca ad (mW pa va sz fr tw ta wd wb wp ou o1 o2 pf pt ki bi ste hel low hgh su ro fe (nI nv) wn tp dp la rst hlf nd rt frd fa at_ end_ ab fo co ll lh hm) 24 [.ref 0, .int x] N (pG (mW pa va sz fr tw ta wd wb wp ou o1 o2 pf pt ki bi ste hel low hgh su ro fe (nI nv) wn tp dp la rst hlf nd rt frd fa at_ end_ ab fo co ll lh hm) N (some (.int (sz ix)))) := by
  refine enter (lv := [(0, .ref 0), (1, .int x)]) (by decide +kernel) (Nat.le_of_ble_eq_true rfl) rfl hAD (fun U hK => ns_write hK hN) ?_
  intro p e s m below meth c A args hA C hr hlk hnm
  refine sg0 C foX9 coX9 oX9_leaves_0 rfl rfl rfl ?_
  refine cl_v C (kX9_baseOf hAD hN hnv hx) (rcv (ci := 8) C.2.1 rfl rfl) cd_X9_baseOf in_X9 ml_X9_129 im_X9_baseOf se_X9_baseOf hd_X9_baseOf rfl rfl ⟨(Nat.le_of_ble_eq_true rfl), (Nat.le_of_ble_eq_true rfl)⟩ ⟨(Nat.le_of_ble_eq_true rfl), (Nat.le_of_ble_eq_true rfl)⟩ (Nat.le_of_ble_eq_true rfl) jX9_leaves_2 (fun v ws' => Wa.and (fun hv => ?_))
  obtain ⟨rfl, rfl⟩ := hv
  refine sg0 C foX9 coX9 oX9_leaves_5 rfl rfl rfl ?_
  refine b2_ne (tgt := 14) C jX9_leaves_7 (by decide) (fun h7 => ?_) (fun h7 => ?_)
  · refine sg0 C foX9 coX9 oX9_leaves_14 rfl rfl rfl ?_
    refine cl_v C (kX9_sizeOf hAD hN hnv hx) (rcv (ci := 8) C.2.1 rfl rfl) cd_X9_sizeOf in_X9 ml_X9_132 im_X9_sizeOf se_X9_sizeOf hd_X9_sizeOf rfl rfl ⟨(Nat.le_of_ble_eq_true rfl), (Nat.le_of_ble_eq_true rfl)⟩ ⟨(Nat.le_of_ble_eq_true rfl), (Nat.le_of_ble_eq_true rfl)⟩ (Nat.le_of_ble_eq_true rfl) jX9_leaves_16 (fun v ws' => Wa.and (fun hv => ?_))
    obtain ⟨rfl, rfl⟩ := hv
    exact rt_i C hr hlk jX9_leaves_19 (fun H hN => ⟨⟨rfl, rfl⟩, hN⟩)
  · exact absurd h7 (nI_m2 (ver_lt hnv hx))
set_option maxRecDepth 100000 in
set_option maxHeartbeats 4000000 in
theorem kX9_leaves_bad (hAD : AD ad 24) (hN : NS D N) {nv : Nat} {x : Int32} (hx1 : ¬ x = -1) (hx2 : ¬ (0 ≤ x ∧ x < nI nv)) : Ct l yX9_leaves cX9_leaves 2 (some .int) (rK 1 0 0) D ca ad (mW pa va sz fr tw ta wd wb wp ou o1 o2 pf pt ki bi ste hel low hgh su ro fe (nI nv) wn tp dp la rst hlf nd rt frd fa at_ end_ ab fo co ll lh hm) 24 [.ref 0, .int x] N (pG (mW pa va sz fr tw ta wd wb wp ou o1 o2 pf pt ki bi ste hel low hgh su ro fe (nI nv) wn tp dp la rst hlf nd rt frd fa at_ end_ ab fo co ll lh hm) N (some (.int (-1)))) := by
  refine enter (lv := [(0, .ref 0), (1, .int x)]) (by decide +kernel) (Nat.le_of_ble_eq_true rfl) rfl hAD (fun U hK => ns_write hK hN) ?_
  intro p e s m below meth c A args hA C hr hlk hnm
  refine sg0 C foX9 coX9 oX9_leaves_0 rfl rfl rfl ?_
  refine cl_v C (kX9_baseOf_bad hAD hN hx1 hx2) (rcv (ci := 8) C.2.1 rfl rfl) cd_X9_baseOf in_X9 ml_X9_129 im_X9_baseOf se_X9_baseOf hd_X9_baseOf rfl rfl ⟨(Nat.le_of_ble_eq_true rfl), (Nat.le_of_ble_eq_true rfl)⟩ ⟨(Nat.le_of_ble_eq_true rfl), (Nat.le_of_ble_eq_true rfl)⟩ (Nat.le_of_ble_eq_true rfl) jX9_leaves_2 (fun v ws' => Wa.and (fun hv => ?_))
  obtain ⟨rfl, rfl⟩ := hv
  refine sg0 C foX9 coX9 oX9_leaves_5 rfl rfl rfl ?_
  refine b2_ne (tgt := 14) C jX9_leaves_7 (by decide) (fun h7 => ?_) (fun h7 => ?_)
  · exact absurd rfl h7
  · refine sg0 C foX9 coX9 oX9_leaves_10 rfl rfl rfl ?_
    exact rt_i C hr hlk jX9_leaves_19 (fun H hN => ⟨⟨rfl, rfl⟩, hN⟩)
end
