/-! the model: the tree of now, its versions -/
def lsR (pa : Nat → Int32) (va : Nat → Int64) (b : Nat) (xs : List (Nat × Int64)) : Prop := ∀ (j : Nat) (q : Nat × Int64), xs[j]? = some q → pa (b + j) = nI q.1 ∧ va (b + j) = q.2
def kpR (pa pa2 : Nat → Int32) (va va2 : Nat → Int64) (sz sz2 : Nat → Int32) : Prop := (∀ i, i < 2400 → pa2 i = pa i ∧ va2 i = va i) ∧ ∀ i, i < 8 → sz2 i = sz i
def shU {α : Type} (f : Nat → α) (a b : Nat) : Nat → α := fun z => if a < z ∧ z ≤ b then f (z - 1) else f z
theorem shU_0 {α : Type} (f : Nat → α) (b : Nat) : shU f b b = f := by
  funext z
  unfold shU
  rw [if_neg (by omega)]
theorem shU_i {f : Nat → Int32} {i b : Nat} (hi : i + 1 ≤ b) : upd (shU f (i + 1) b) (i + 1) (shU f (i + 1) b i) = shU f i b := by
  funext z
  unfold upd shU
  by_cases h : z = i + 1
  · subst h
    rw [if_pos rfl, if_neg (by omega), if_pos (by omega)]
    rfl
  · rw [if_neg h]
    by_cases h2 : i < z ∧ z ≤ b
    · rw [if_pos (by omega), if_pos h2]
    · rw [if_neg (by omega), if_neg h2]
theorem shU_l {f : Nat → Int64} {i b : Nat} (hi : i + 1 ≤ b) : vp_updL (shU f (i + 1) b) (i + 1) (shU f (i + 1) b i) = shU f i b := by
  funext z
  unfold vp_updL shU
  by_cases h : z = i + 1
  · subst h
    rw [if_pos rfl, if_neg (by omega), if_pos (by omega)]
    rfl
  · rw [if_neg h]
    by_cases h2 : i < z ∧ z ≤ b
    · rw [if_pos (by omega), if_pos h2]
    · rw [if_neg (by omega), if_neg h2]
def shD {α : Type} (f : Nat → α) (a b : Nat) : Nat → α := fun z => if a ≤ z ∧ z < b then f (z + 1) else f z
theorem shD_0 {α : Type} (f : Nat → α) (a : Nat) : shD f a a = f := by
  funext z
  unfold shD
  rw [if_neg (by omega)]
theorem shD_i {f : Nat → Int32} {a i : Nat} (hi : a ≤ i) : upd (shD f a i) i (shD f a i (i + 1)) = shD f a (i + 1) := by
  funext z
  unfold upd shD
  by_cases h : z = i
  · subst h
    rw [if_pos rfl, if_neg (by omega), if_pos (by omega)]
  · rw [if_neg h]
    by_cases h2 : a ≤ z ∧ z < i
    · rw [if_pos h2, if_pos (by omega)]
    · rw [if_neg h2, if_neg (by omega)]
theorem shD_l {f : Nat → Int64} {a i : Nat} (hi : a ≤ i) : vp_updL (shD f a i) i (shD f a i (i + 1)) = shD f a (i + 1) := by
  funext z
  unfold vp_updL shD
  by_cases h : z = i
  · subst h
    rw [if_pos rfl, if_neg (by omega), if_pos (by omega)]
  · rw [if_neg h]
    by_cases h2 : a ≤ z ∧ z < i
    · rw [if_pos h2, if_pos (by omega)]
    · rw [if_neg h2, if_neg (by omega)]
theorem ls_set {pa : Nat → Int32} {va : Nat → Int64} {b i P : Nat} {v : Int64} {xs : List (Nat × Int64)} (h : lsR pa va b xs) (hw : ∃ w, xs[i]? = some (P, w)) : lsR pa (vp_updL va (b + i) v) b (xs.set i (P, v)) := by
  obtain ⟨w, hw⟩ := hw
  intro j q hq
  have hil := (List.getElem?_eq_some_iff.mp hw).1
  unfold vp_updL
  by_cases e : j = i
  · subst e
    rw [List.getElem?_set_self hil] at hq
    cases hq
    exact ⟨(h _ _ hw).1, if_pos rfl⟩
  · rw [List.getElem?_set_ne (Ne.symm e)] at hq
    exact ⟨(h j q hq).1, by rw [if_neg (by omega)]; exact (h j q hq).2⟩
theorem ls_ins {pa : Nat → Int32} {va : Nat → Int64} {b i P : Nat} {v : Int64} {xs : List (Nat × Int64)} (h : lsR pa va b xs) (hi : i ≤ xs.length) : lsR (upd (shU pa (b + i) (b + xs.length)) (b + i) (nI P)) (vp_updL (shU va (b + i) (b + xs.length)) (b + i) v) b (xs.take i ++ (P, v) :: xs.drop i) := by
  intro j q hq
  unfold upd vp_updL shU
  have hl : (xs.take i).length = i := by simp; omega
  by_cases e : j = i
  · subst e
    rw [List.getElem?_append_right (by omega), hl, Nat.sub_self] at hq
    cases hq
    exact ⟨if_pos rfl, if_pos rfl⟩
  · have e1 : ¬ b + j = b + i := by omega
    simp only [if_neg e1]
    by_cases h2 : j < i
    · rw [List.getElem?_append_left (by omega), List.getElem?_take_of_lt h2] at hq
      have e2 : ¬ (b + i < b + j ∧ b + j ≤ b + xs.length) := by omega
      simp only [if_neg e2]
      exact h j q hq
    · rw [List.getElem?_append_right (by omega), hl] at hq
      obtain ⟨z, hz⟩ : ∃ z, j - i = z + 1 := ⟨j - i - 1, by omega⟩
      rw [hz, List.getElem?_cons_succ, List.getElem?_drop] at hq
      have hlt := (List.getElem?_eq_some_iff.mp hq).1
      have e2 : b + i < b + j ∧ b + j ≤ b + xs.length := by omega
      simp only [if_pos e2]
      rw [show b + j - 1 = b + (i + z) by omega]
      exact h _ q hq
theorem ls_del {pa : Nat → Int32} {va : Nat → Int64} {b i : Nat} {xs : List (Nat × Int64)} (h : lsR pa va b xs) (hi : i < xs.length) : lsR (shD pa (b + i) (b + (xs.length - 1))) (shD va (b + i) (b + (xs.length - 1))) b (xs.take i ++ xs.drop (i + 1)) := by
  intro j q hq
  unfold shD
  have hl : (xs.take i).length = i := by simp; omega
  by_cases h2 : j < i
  · rw [List.getElem?_append_left (by omega), List.getElem?_take_of_lt h2] at hq
    rw [if_neg (by omega), if_neg (by omega)]
    exact h j q hq
  · rw [List.getElem?_append_right (by omega), hl, List.getElem?_drop, show i + 1 + (j - i) = j + 1 by omega] at hq
    have hlt := (List.getElem?_eq_some_iff.mp hq).1
    rw [if_pos (by omega), if_pos (by omega), show b + j + 1 = b + (j + 1) by omega]
    exact h _ q hq
theorem kp_ins {pa : Nat → Int32} {va : Nat → Int64} {sz : Nat → Int32} {k b : Nat} {x y : Int32} {v : Int64} (hk : 2400 ≤ k) : kpR pa (upd (shU pa k b) k x) va (vp_updL (shU va k b) k v) sz (upd sz 8 y) := by
  refine ⟨fun i hi => ?_, fun i hi => ?_⟩
  · have e1 : ¬ i = k := by omega
    have e2 : ¬ (k < i ∧ i ≤ b) := by omega
    simp only [upd, vp_updL, shU, if_neg e1, if_neg e2]
    exact ⟨trivial, trivial⟩
  · have e1 : ¬ i = 8 := by omega
    simp only [upd, if_neg e1]
theorem kp_del {pa : Nat → Int32} {va : Nat → Int64} {sz : Nat → Int32} {k b : Nat} {y : Int32} (hk : 2400 ≤ k) : kpR pa (shD pa k b) va (shD va k b) sz (upd sz 8 y) := by
  refine ⟨fun i hi => ?_, fun i hi => ?_⟩
  · have e2 : ¬ (k ≤ i ∧ i < b) := by omega
    simp only [shD, if_neg e2]
    exact ⟨trivial, trivial⟩
  · have e1 : ¬ i = 8 := by omega
    simp only [upd, if_neg e1]
theorem v8 : vp_in (8 : Int32) 9 := vp_in_iff.mpr (by decide)
theorem i8 : (8 : Int32).toNatClampNeg = 8 := rfl
theorem i8n : (nI 8).toNatClampNeg = 8 := rfl
section
variable {p : Program} {l : Launch} {e : Env} {R : Room} {s : State} {m : MethodId} {args : Array Value} {below : List Frame} {meth : Method} {c : Code} {cells slots : Nat} {QQ : State → Prop} {D : va_G} {ca : Nat → ClassId} {ad : Nat → Nat} {A : Nat → Prop} {N : Heap → Prop} {pa : Nat → Int32} {va : Nat → Int64} {sz : Nat → Int32} {fr : Nat → Int32} {tw : Nat → Int32} {ta : Nat → Int32} {wd : Nat → Int64} {wb : Nat → Int32} {wp : Nat → Int32} {ou : Nat → Int32} {o1 : Nat → Int32} {o2 : Nat → Int32} {pf : Nat → Int32} {pt : Nat → Int32} {ki : Nat → Int32} {bi : Nat → Int32} {ste : Nat → Int32} {hel : Nat → Int64} {low : Nat → Int32} {hgh : Nat → Int32} {su : Nat → Int64} {ro : Nat → Int32} {fe : Nat → Int32} {vs : Int32} {wn : Int32} {tp : Int32} {dp : Int32} {la : Int32} {rst : Int32} {hlf : Int32} {nd : Int32} {rt : Int32} {frd : Int32} {fa : Int32} {at_ : Int32} {end_ : Int32} {ab : Int32} {fo : Int64} {co : Int32} {ll : Int32} {lh : Int32} {hm : Int32}
set_option maxRecDepth 100000 in
set_option maxHeartbeats 4000000 in
theorem lp_find (C : Cx p s m args c cX9_find 3 RX9 D ca ad A N 24) {xs : List (Nat × Int64)} (hxs : lsR pa va 2400 xs) (hsz : sz 8 = nI xs.length) (hlen : xs.length ≤ 300) (hpt : ∀ q ∈ xs, q.1 < 65536) {P : Nat} (hP : P < 65536) : ∀ (suf pre : List (Nat × Int64)), xs = pre ++ suf → Wa p l e R s m args below meth c cells slots QQ D ca ad A 3 N ([(0, .ref 0), (1, .int (nI P)), (2, .int (nI (2400 + (pre.length + ixL P suf))))], [], (mW pa va sz fr tw ta wd wb wp ou o1 o2 pf pt ki bi ste hel low hgh su ro fe vs wn tp dp la rst hlf nd rt frd fa at_ end_ ab fo co ll lh hm)) 35 → Wa p l e R s m args below meth c cells slots QQ D ca ad A 3 N ([(0, .ref 0), (1, .int (nI P)), (2, .int (nI (2400 + pre.length)))], [], (mW pa va sz fr tw ta wd wb wp ou o1 o2 pf pt ki bi ste hel low hgh su ro fe vs wn tp dp la rst hlf nd rt frd fa at_ end_ ab fo co ll lh hm)) 4 := by
  intro suf
  induction suf with
  | nil =>
    intro pre he hK
    have hl : xs.length = pre.length := by rw [he]; simp
    refine sg C foX9 coX9 oX9_find_4 rfl rfl rfl ⟨v8, trivial⟩ ?_
    rw [i8, hsz, show (2400 : Int32) = nI 2400 from rfl, nI_add]
    exact b2_ge (tgt := 35) C jX9_find_16 (by decide) (fun _ => by simpa [ixL] using hK) (fun h7 => absurd (by rw [hl]; exact Int32.le_refl _) h7)
  | cons r suf ih =>
    intro pre he hK
    have hl : pre.length < xs.length := by rw [he]; simp
    have hat : xs[pre.length]? = some r := by rw [he]; simp
    obtain ⟨hr1, hr2⟩ := hxs pre.length r hat
    have hr3 := hpt r (List.mem_of_getElem? hat)
    have hcl : (nI (2400 + pre.length)).toNatClampNeg = 2400 + pre.length := nI_clamp (by omega)
    refine sg C foX9 coX9 oX9_find_4 rfl rfl rfl ⟨v8, trivial⟩ ?_
    rw [i8, hsz, show (2400 : Int32) = nI 2400 from rfl, nI_add]
    refine b2_ge (tgt := 35) C jX9_find_16 (by decide) (fun h16 => ?_) (fun h16 => ?_)
    · exact absurd h16 (nI_ge (by omega) (by omega))
    · refine sg C foX9 coX9 oX9_find_19 rfl rfl rfl ⟨vp_in_nI (by omega) (by decide), trivial⟩ ?_
      rw [hcl, hr1]
      refine b2_ge (tgt := 35) C jX9_find_26 (by decide) (fun h26 => ?_) (fun h26 => ?_)
      · have hq : ¬ r.1 < P := fun q9 => absurd h26 (nI_ge q9 (by omega))
        rw [show ixL P (r :: suf) = 0 by simp only [ixL]; rw [if_neg hq], Nat.add_zero] at hK
        exact hK
      · have hq : r.1 < P := Nat.not_le.mp fun q9 => h26 (nI_le q9 (by omega))
        rw [show ixL P (r :: suf) = ixL P suf + 1 by simp only [ixL]; rw [if_pos hq]] at hK
        refine sg0 C foX9 coX9 oX9_find_29 rfl rfl rfl ?_
        rw [nI_1]
        have h9 := ih (pre ++ [r]) (by rw [he]; simp) (by rw [show (pre ++ [r]).length + ixL P suf = pre.length + (ixL P suf + 1) by simp; omega]; exact hK)
        rw [show (pre ++ [r]).length = pre.length + 1 by simp] at h9
        exact h9
end
section
variable {l : Launch} {D : va_G} {ca : Nat → ClassId} {ad : Nat → Nat} {N : Heap → Prop} {pa : Nat → Int32} {va : Nat → Int64} {sz : Nat → Int32} {fr : Nat → Int32} {tw : Nat → Int32} {ta : Nat → Int32} {wd : Nat → Int64} {wb : Nat → Int32} {wp : Nat → Int32} {ou : Nat → Int32} {o1 : Nat → Int32} {o2 : Nat → Int32} {pf : Nat → Int32} {pt : Nat → Int32} {ki : Nat → Int32} {bi : Nat → Int32} {ste : Nat → Int32} {hel : Nat → Int64} {low : Nat → Int32} {hgh : Nat → Int32} {su : Nat → Int64} {ro : Nat → Int32} {fe : Nat → Int32} {vs : Int32} {wn : Int32} {tp : Int32} {dp : Int32} {la : Int32} {rst : Int32} {hlf : Int32} {nd : Int32} {rt : Int32} {frd : Int32} {fa : Int32} {at_ : Int32} {end_ : Int32} {ab : Int32} {fo : Int64} {co : Int32} {ll : Int32} {lh : Int32} {hm : Int32}
set_option maxRecDepth 100000 in
set_option maxHeartbeats 4000000 in
theorem kX9_find (hAD : AD ad 24) (hN : NS D N) {xs : List (Nat × Int64)} (hxs : lsR pa va 2400 xs) (hsz : sz 8 = nI xs.length) (hlen : xs.length ≤ 300) (hpt : ∀ q ∈ xs, q.1 < 65536) {P : Nat} (hP : P < 65536) : Ct l yX9_find cX9_find 3 (some .int) (rK 0 0 0) D ca ad (mW pa va sz fr tw ta wd wb wp ou o1 o2 pf pt ki bi ste hel low hgh su ro fe vs wn tp dp la rst hlf nd rt frd fa at_ end_ ab fo co ll lh hm) 24 [.ref 0, .int (nI P)] N (pG (mW pa va sz fr tw ta wd wb wp ou o1 o2 pf pt ki bi ste hel low hgh su ro fe vs wn tp dp la rst hlf nd rt frd fa at_ end_ ab fo co ll lh hm) N (some (.int (nI (2400 + ixL P xs))))) := by
  refine enter (lv := [(0, .ref 0), (1, .int (nI P))]) (by decide +kernel) (Nat.le_of_ble_eq_true rfl) rfl hAD (fun U hK => ns_write hK hN) ?_
  intro p e s m below meth c A args hA C hr hlk hnm
  refine sg0 C foX9 coX9 oX9_find_0 rfl rfl rfl ?_
  refine lp_find C hxs hsz hlen hpt hP xs [] rfl ?_
  refine sg0 C foX9 coX9 oX9_find_35 rfl rfl rfl ?_
  exact rt_i C hr hlk jX9_find_36 (fun H hH => ⟨⟨by simp, rfl⟩, hH⟩)
end
section
variable {p : Program} {l : Launch} {e : Env} {R : Room} {s : State} {m : MethodId} {args : Array Value} {below : List Frame} {meth : Method} {c : Code} {cells slots : Nat} {QQ : State → Prop} {D : va_G} {ca : Nat → ClassId} {ad : Nat → Nat} {A : Nat → Prop} {N : Heap → Prop} {pa : Nat → Int32} {va : Nat → Int64} {sz : Nat → Int32} {fr : Nat → Int32} {tw : Nat → Int32} {ta : Nat → Int32} {wd : Nat → Int64} {wb : Nat → Int32} {wp : Nat → Int32} {ou : Nat → Int32} {o1 : Nat → Int32} {o2 : Nat → Int32} {pf : Nat → Int32} {pt : Nat → Int32} {ki : Nat → Int32} {bi : Nat → Int32} {ste : Nat → Int32} {hel : Nat → Int64} {low : Nat → Int32} {hgh : Nat → Int32} {su : Nat → Int64} {ro : Nat → Int32} {fe : Nat → Int32} {vs : Int32} {wn : Int32} {tp : Int32} {dp : Int32} {la : Int32} {rst : Int32} {hlf : Int32} {nd : Int32} {rt : Int32} {frd : Int32} {fa : Int32} {at_ : Int32} {end_ : Int32} {ab : Int32} {fo : Int64} {co : Int32} {ll : Int32} {lh : Int32} {hm : Int32}
set_option maxRecDepth 100000 in
set_option maxHeartbeats 4000000 in
theorem lp_put (C : Cx p s m args c cX9_put 6 RX9 D ca ad A N 24) {P k b : Nat} {v : Int64} (hb : b ≤ 2700) : ∀ (j : Nat), k + j ≤ b → Wa p l e R s m args below meth c cells slots QQ D ca ad A 6 N ([(0, .ref 0), (1, .int (nI P)), (2, .long v), (4, .int (nI k)), (5, .int (nI k))], [], (mW (shU pa k b) (shU va k b) sz fr tw ta wd wb wp ou o1 o2 pf pt ki bi ste hel low hgh su ro fe vs wn tp dp la rst hlf nd rt frd fa at_ end_ ab fo co ll lh hm)) 127 → Wa p l e R s m args below meth c cells slots QQ D ca ad A 6 N ([(0, .ref 0), (1, .int (nI P)), (2, .long v), (4, .int (nI k)), (5, .int (nI (k + j)))], [], (mW (shU pa (k + j) b) (shU va (k + j) b) sz fr tw ta wd wb wp ou o1 o2 pf pt ki bi ste hel low hgh su ro fe vs wn tp dp la rst hlf nd rt frd fa at_ end_ ab fo co ll lh hm)) 82 := by
  intro j
  induction j with
  | zero =>
    intro hk hK
    refine sg0 C foX9 coX9 oX9_put_82 rfl rfl rfl ?_
    exact b2_le (tgt := 127) C jX9_put_86 (by decide) (fun _ => hK) (fun h7 => absurd (Int32.le_refl _) h7)
  | succ j ih =>
    intro hk hK
    have hpr : nI (k + (j + 1)) - 1 = nI (k + j) := by rw [show (1 : Int32) = nI 1 from rfl, pk_sub (by omega)]; congr 1
    have hc1 : (nI (k + (j + 1))).toNatClampNeg = k + j + 1 := nI_clamp (by omega)
    have hc2 : (nI (k + j)).toNatClampNeg = k + j := nI_clamp (by omega)
    refine sg0 C foX9 coX9 oX9_put_82 rfl rfl rfl ?_
    refine b2_le (tgt := 127) C jX9_put_86 (by decide) (fun h86 => ?_) (fun h86 => ?_)
    · exact absurd h86 (Int32.not_le.mpr (nI_lt (by omega) (by omega)))
    · refine sg C foX9 coX9 oX9_put_89 rfl rfl rfl (by rw [hpr]; exact ⟨vp_in_nI (by omega) (by decide), vp_in_nI (by omega) (by decide), vp_in_nI (by omega) (by decide), vp_in_nI (by omega) (by decide), trivial⟩) ?_
      rw [sub_m1, hpr, hc1, hc2]
      have h9 := ih (by omega) hK
      rw [← shU_i (f := pa) (show k + j + 1 ≤ b by omega), ← shU_l (f := va) (show k + j + 1 ≤ b by omega)] at h9
      exact h9
theorem lp_put0 (C : Cx p s m args c cX9_put 6 RX9 D ca ad A N 24) {P k b : Nat} {v : Int64} (hb : b ≤ 2700) (hk : k ≤ b) (hK : Wa p l e R s m args below meth c cells slots QQ D ca ad A 6 N ([(0, .ref 0), (1, .int (nI P)), (2, .long v), (4, .int (nI k)), (5, .int (nI k))], [], (mW (shU pa k b) (shU va k b) sz fr tw ta wd wb wp ou o1 o2 pf pt ki bi ste hel low hgh su ro fe vs wn tp dp la rst hlf nd rt frd fa at_ end_ ab fo co ll lh hm)) 127) : Wa p l e R s m args below meth c cells slots QQ D ca ad A 6 N ([(0, .ref 0), (1, .int (nI P)), (2, .long v), (4, .int (nI k)), (5, .int (nI b))], [], (mW pa va sz fr tw ta wd wb wp ou o1 o2 pf pt ki bi ste hel low hgh su ro fe vs wn tp dp la rst hlf nd rt frd fa at_ end_ ab fo co ll lh hm)) 82 := by
  have h := lp_put C hb (b - k) (by omega) hK
  rw [show k + (b - k) = b by omega, shU_0, shU_0] at h
  exact h
end
section
variable {l : Launch} {D : va_G} {ca : Nat → ClassId} {ad : Nat → Nat} {N : Heap → Prop} {pa : Nat → Int32} {va : Nat → Int64} {sz : Nat → Int32} {fr : Nat → Int32} {tw : Nat → Int32} {ta : Nat → Int32} {wd : Nat → Int64} {wb : Nat → Int32} {wp : Nat → Int32} {ou : Nat → Int32} {o1 : Nat → Int32} {o2 : Nat → Int32} {pf : Nat → Int32} {pt : Nat → Int32} {ki : Nat → Int32} {bi : Nat → Int32} {ste : Nat → Int32} {hel : Nat → Int64} {low : Nat → Int32} {hgh : Nat → Int32} {su : Nat → Int64} {ro : Nat → Int32} {fe : Nat → Int32} {vs : Int32} {wn : Int32} {tp : Int32} {dp : Int32} {la : Int32} {rst : Int32} {hlf : Int32} {nd : Int32} {rt : Int32} {frd : Int32} {fa : Int32} {at_ : Int32} {end_ : Int32} {ab : Int32} {fo : Int64} {co : Int32} {ll : Int32} {lh : Int32} {hm : Int32}
set_option maxRecDepth 100000 in
set_option maxHeartbeats 4000000 in
theorem kX9_put_bad (hAD : AD ad 24) (hN : NS D N) (x : Int32) (v : Int64) (hx : ¬ (0 ≤ x ∧ x ≤ 65535)) : Ct l yX9_put cX9_put 6 (some .int) (rK 1 0 0) D ca ad (mW pa va sz fr tw ta wd wb wp ou o1 o2 pf pt ki bi ste hel low hgh su ro fe vs wn tp dp la rst hlf nd rt frd fa at_ end_ ab fo co ll lh hm) 24 [.ref 0, .int x, .long v] N (pG (mW pa va sz fr tw ta wd wb wp ou o1 o2 pf pt ki bi ste hel low hgh su ro fe vs wn tp dp la rst hlf nd rt frd fa at_ end_ ab fo co ll lh hm) N (some (.int (-1)))) := by
  refine enter (lv := [(0, .ref 0), (1, .int x), (2, .long v)]) (by decide +kernel) (Nat.le_of_ble_eq_true rfl) rfl hAD (fun U hK => ns_write hK hN) ?_
  intro p e s m below meth c A args hA C hr hlk hnm
  refine sg0 C foX9 coX9 oX9_put_0 rfl rfl rfl ?_
  refine cl_s C (kX9_isPath hAD rfl hN x) cd_X9_isPath in_X9 ml_X9_101 sm_X9_isPath hd_X9_isPath rfl rfl ⟨(Nat.le_of_ble_eq_true rfl), (Nat.le_of_ble_eq_true rfl)⟩ ⟨(Nat.le_of_ble_eq_true rfl), (Nat.le_of_ble_eq_true rfl)⟩ (Nat.le_of_ble_eq_true rfl) jX9_put_1 (fun v ws' => Wa.and (fun hv => ?_))
  obtain ⟨rfl, rfl⟩ := hv
  rw [if_neg hx]
  refine b1_ne (tgt := 9) C jX9_put_4 (by decide) (fun h4 => ?_) (fun h4 => ?_)
  · exact absurd rfl h4
  · refine sg0 C foX9 coX9 oX9_put_7 rfl rfl rfl ?_
    exact rt_i C hr hlk jX9_put_8 (fun H hN => ⟨⟨rfl, rfl⟩, hN⟩)
set_option maxRecDepth 100000 in
set_option maxHeartbeats 4000000 in
theorem kX9_remove_bad (hAD : AD ad 24) (hN : NS D N) (x : Int32) (hx : ¬ (0 ≤ x ∧ x ≤ 65535)) : Ct l yX9_remove cX9_remove 4 (some .int) (rK 1 0 0) D ca ad (mW pa va sz fr tw ta wd wb wp ou o1 o2 pf pt ki bi ste hel low hgh su ro fe vs wn tp dp la rst hlf nd rt frd fa at_ end_ ab fo co ll lh hm) 24 [.ref 0, .int x] N (pG (mW pa va sz fr tw ta wd wb wp ou o1 o2 pf pt ki bi ste hel low hgh su ro fe vs wn tp dp la rst hlf nd rt frd fa at_ end_ ab fo co ll lh hm) N (some (.int (-1)))) := by
  refine enter (lv := [(0, .ref 0), (1, .int x)]) (by decide +kernel) (Nat.le_of_ble_eq_true rfl) rfl hAD (fun U hK => ns_write hK hN) ?_
  intro p e s m below meth c A args hA C hr hlk hnm
  refine sg0 C foX9 coX9 oX9_remove_0 rfl rfl rfl ?_
  refine cl_s C (kX9_isPath hAD rfl hN x) cd_X9_isPath in_X9 ml_X9_101 sm_X9_isPath hd_X9_isPath rfl rfl ⟨(Nat.le_of_ble_eq_true rfl), (Nat.le_of_ble_eq_true rfl)⟩ ⟨(Nat.le_of_ble_eq_true rfl), (Nat.le_of_ble_eq_true rfl)⟩ (Nat.le_of_ble_eq_true rfl) jX9_remove_1 (fun v ws' => Wa.and (fun hv => ?_))
  obtain ⟨rfl, rfl⟩ := hv
  rw [if_neg hx]
  refine b1_ne (tgt := 9) C jX9_remove_4 (by decide) (fun h4 => ?_) (fun h4 => ?_)
  · exact absurd rfl h4
  · refine sg0 C foX9 coX9 oX9_remove_7 rfl rfl rfl ?_
    exact rt_i C hr hlk jX9_remove_8 (fun H hN => ⟨⟨rfl, rfl⟩, hN⟩)
set_option maxRecDepth 100000 in
set_option maxHeartbeats 4000000 in
theorem kX9_put (hAD : AD ad 24) (hN : NS D N) {xs : List (Nat × Int64)} (hxs : lsR pa va 2400 xs) (hsz : sz 8 = nI xs.length) (hlen : xs.length ≤ 300) (hpt : ∀ q ∈ xs, q.1 < 65536) (hsrt : srt xs) {P : Nat} (hP : P < 65536) (v : Int64) : Ct l yX9_put cX9_put 6 (some .int) (rK 1 0 0) D ca ad (mW pa va sz fr tw ta wd wb wp ou o1 o2 pf pt ki bi ste hel low hgh su ro fe vs wn tp dp la rst hlf nd rt frd fa at_ end_ ab fo co ll lh hm) 24 [.ref 0, .int (nI P), .long v] N (fun r ws2 H => ((¬ (∃ w, xs[ixL P xs]? = some (P, w)) ∧ xs.length = 300 ∧ r = some (.int (-3)) ∧ ws2 = (mW pa va sz fr tw ta wd wb wp ou o1 o2 pf pt ki bi ste hel low hgh su ro fe vs wn tp dp la rst hlf nd rt frd fa at_ end_ ab fo co ll lh hm)) ∨ (∃ pa2 va2 sz2, (((∃ w, xs[ixL P xs]? = some (P, w)) ∧ r = some (.int 0)) ∨ (¬ (∃ w, xs[ixL P xs]? = some (P, w)) ∧ xs.length < 300 ∧ r = some (.int 1))) ∧ ws2 = (mW pa2 va2 sz2 fr tw ta wd wb wp ou o1 o2 pf pt ki bi ste hel low hgh su ro fe vs wn tp dp la rst hlf nd rt frd fa at_ end_ ab fo co ll lh hm) ∧ lsR pa2 va2 2400 (insL P v xs) ∧ sz2 8 = nI (insL P v xs).length ∧ kpR pa pa2 va va2 sz sz2)) ∧ N H) := by
  refine enter (lv := [(0, .ref 0), (1, .int (nI P)), (2, .long v)]) (by decide +kernel) (Nat.le_of_ble_eq_true rfl) rfl hAD (fun U hK => ns_write hK hN) ?_
  intro p e s m below meth c A args hA C hr hlk hnm
  refine sg0 C foX9 coX9 oX9_put_0 rfl rfl rfl ?_
  refine cl_s C (kX9_isPath hAD rfl hN (nI P)) cd_X9_isPath in_X9 ml_X9_101 sm_X9_isPath hd_X9_isPath rfl rfl ⟨(Nat.le_of_ble_eq_true rfl), (Nat.le_of_ble_eq_true rfl)⟩ ⟨(Nat.le_of_ble_eq_true rfl), (Nat.le_of_ble_eq_true rfl)⟩ (Nat.le_of_ble_eq_true rfl) jX9_put_1 (fun v ws' => Wa.and (fun hv => ?_))
  obtain ⟨rfl, rfl⟩ := hv
  rw [if_pos (pth_ok hP)]
  refine b1_ne (tgt := 9) C jX9_put_4 (by decide) (fun h4 => ?_) (fun h4 => ?_)
  · refine sg0 C foX9 coX9 oX9_put_9 rfl rfl rfl ?_
    refine cl_v C (kX9_find hAD hN hxs hsz hlen hpt hP) (rcv (ci := 8) C.2.1 rfl rfl) cd_X9_find in_X9 ml_X9_105 im_X9_find se_X9_find hd_X9_find rfl rfl ⟨(Nat.le_of_ble_eq_true rfl), (Nat.le_of_ble_eq_true rfl)⟩ ⟨(Nat.le_of_ble_eq_true rfl), (Nat.le_of_ble_eq_true rfl)⟩ (Nat.le_of_ble_eq_true rfl) jX9_put_11 (fun v ws' => Wa.and (fun hv => ?_))
    obtain ⟨rfl, rfl⟩ := hv
    have hix := ix_le P xs
    have hcl : (nI (2400 + ixL P xs)).toNatClampNeg = (2400 + ixL P xs) := nI_clamp (by omega)
    refine sg C foX9 coX9 oX9_put_14 rfl rfl rfl ⟨v8, trivial⟩ ?_
    rw [i8, hsz, show (2400 : Int32) = nI 2400 from rfl, nI_add]
    refine b2_ge (tgt := 53) C jX9_put_29 (by decide) (fun h29 => ?_) (fun h29 => ?_)
    · have hq : xs.length ≤ ixL P xs := by have := (nI_leI (by omega) (by omega)).mp h29; omega
      have hnt : ¬ (∃ w, xs[ixL P xs]? = some (P, w)) := fun ⟨w, hw⟩ => absurd (List.getElem?_eq_some_iff.mp hw).1 (by omega)
      refine sg C foX9 coX9 oX9_put_53 rfl rfl rfl ⟨v8, trivial⟩ ?_
      rw [i8, hsz]
      refine b2_ne (tgt := 69) C jX9_put_63 (by decide) (fun h63 => ?_) (fun h63 => ?_)
      · have hq2 : xs.length < 300 := Nat.lt_of_le_of_ne hlen fun e9 => h63 (by rw [e9]; rfl)
        refine sg C foX9 coX9 oX9_put_69 rfl rfl rfl ⟨v8, trivial⟩ ?_
        rw [i8, hsz, show (2400 : Int32) = nI 2400 from rfl, nI_add]
        refine lp_put0 C (by omega) (by omega) ?_
        refine sg C foX9 coX9 oX9_put_127 rfl rfl rfl ⟨v8, v8, vp_in_nI (by omega) (by decide), vp_in_nI (by omega) (by decide), trivial⟩ ?_
        rw [hcl, i8, hsz, nI_1]
        exact rt_i C hr hlk jX9_put_155 (fun H hH => ⟨Or.inr ⟨_, _, _, Or.inr ⟨hnt, hq2, rfl⟩, rfl, by rw [ins_mid hnt]; exact ls_ins hxs hix, by rw [ins_len2 hnt]; exact if_pos rfl, kp_ins (by omega)⟩, hH⟩)
      · have hq2 : xs.length = 300 := (nI_eq (by omega) (by decide)).mp (show nI xs.length = nI 300 from h63)
        refine sg0 C foX9 coX9 oX9_put_66 rfl rfl rfl ?_
        exact rt_i C hr hlk jX9_put_68 (fun H hH => ⟨Or.inl ⟨hnt, hq2, rfl, rfl⟩, hH⟩)
    · have hq : ixL P xs < xs.length := Nat.not_le.mp fun q9 => h29 (nI_le (by omega) (by omega))
      obtain ⟨hr1, hr2⟩ := hxs (ixL P xs) xs[ixL P xs] (List.getElem?_eq_getElem hq)
      have hr3 := hpt _ (List.getElem_mem hq)
      refine sg C foX9 coX9 oX9_put_32 rfl rfl rfl ⟨vp_in_nI (by omega) (by decide), trivial⟩ ?_
      rw [hcl, hr1]
      refine b2_ne (tgt := 53) C jX9_put_40 (by decide) (fun h40 => ?_) (fun h40 => ?_)
      · have hnt : ¬ (∃ w, xs[ixL P xs]? = some (P, w)) := fun ⟨w, hw⟩ => h40 (by rw [List.getElem?_eq_getElem hq] at hw; rw [Option.some.inj hw])
        refine sg C foX9 coX9 oX9_put_53 rfl rfl rfl ⟨v8, trivial⟩ ?_
        rw [i8, hsz]
        refine b2_ne (tgt := 69) C jX9_put_63 (by decide) (fun h63 => ?_) (fun h63 => ?_)
        · have hq2 : xs.length < 300 := Nat.lt_of_le_of_ne hlen fun e9 => h63 (by rw [e9]; rfl)
          refine sg C foX9 coX9 oX9_put_69 rfl rfl rfl ⟨v8, trivial⟩ ?_
          rw [i8, hsz, show (2400 : Int32) = nI 2400 from rfl, nI_add]
          refine lp_put0 C (by omega) (by omega) ?_
          refine sg C foX9 coX9 oX9_put_127 rfl rfl rfl ⟨v8, v8, vp_in_nI (by omega) (by decide), vp_in_nI (by omega) (by decide), trivial⟩ ?_
          rw [hcl, i8, hsz, nI_1]
          exact rt_i C hr hlk jX9_put_155 (fun H hH => ⟨Or.inr ⟨_, _, _, Or.inr ⟨hnt, hq2, rfl⟩, rfl, by rw [ins_mid hnt]; exact ls_ins hxs hix, by rw [ins_len2 hnt]; exact if_pos rfl, kp_ins (by omega)⟩, hH⟩)
        · have hq2 : xs.length = 300 := (nI_eq (by omega) (by decide)).mp (show nI xs.length = nI 300 from h63)
          refine sg0 C foX9 coX9 oX9_put_66 rfl rfl rfl ?_
          exact rt_i C hr hlk jX9_put_68 (fun H hH => ⟨Or.inl ⟨hnt, hq2, rfl, rfl⟩, hH⟩)
      · have ht : (∃ w, xs[ixL P xs]? = some (P, w)) := ⟨xs[ixL P xs].2, by rw [List.getElem?_eq_getElem hq]; congr 1; exact Prod.ext ((nI_eq (by omega) (by omega)).mp h40) rfl⟩
        refine sg C foX9 coX9 oX9_put_43 rfl rfl rfl ⟨vp_in_nI (by omega) (by decide), trivial⟩ ?_
        exact rt_i C hr hlk jX9_put_52 (fun H hH => ⟨Or.inr ⟨_, _, _, Or.inl ⟨ht, rfl⟩, rfl, by rw [ins_set hsrt ht, hcl]; exact ls_set hxs ht, by rw [ins_len1 hsrt ht]; exact hsz, ⟨fun i hi => by rw [hcl]; unfold vp_updL; rw [if_neg (by omega)]; exact ⟨rfl, rfl⟩, fun i hi => rfl⟩⟩, hH⟩)
  · exact absurd h4 (by decide)
end
