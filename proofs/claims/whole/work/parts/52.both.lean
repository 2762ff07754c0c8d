/-! the two objects, side by side: what they show is one thing -/
def Nn (D : va_G) (T : Term) (Vs : List Term) (vo : Option Term) (H : Heap) : Prop := nodeAt D H T ∧ (∀ V ∈ Vs, nodeAt D H V) ∧ ∀ V, vo = some V → nodeAt D H V
theorem Nn.ns {D : va_G} {T : Term} {Vs : List Term} {vo : Option Term} : NS D (Nn D T Vs vo) := fun H H' h hs => ⟨nodeAt.ns T H H' h.1 hs, fun V hV => nodeAt.ns V H H' (h.2.1 V hV) hs, fun V hV => nodeAt.ns V H H' (h.2.2 V hV) hs⟩
def okS (T : Term) (Vs : List Term) (S : List Int32) : Prop := (isT T ∧ okM T ∧ (lvs T).length ≤ 300) ∧ (∀ V ∈ Vs, isT V ∧ okM V ∧ (lvs V).length ≤ 300) ∧ S.length ≤ 4000 ∧ ocOk S
/-- the views: the class's, the model's -/
def vuR (vo uo : Option Term) : Prop := (vo = none ∧ uo = none) ∨ ∃ V U, vo = some V ∧ uo = some U ∧ isT V ∧ isT U ∧ okW V ∧ strp U = strp V ∧ nodT U ≤ 700
def vwR (W : VA) (fe : Nat → Int32) (hlf nd frd : Int32) (uo : Option Term) : Prop := ∃ h0 : Nat, (h0 = 0 ∨ h0 = 800) ∧ hlf = nI h0 ∧ ∀ U, uo = some U → vtR W U ∧ nd = nI (nodT U) ∧ ∃ Fl, poR h0 U Fl ∧ feR fe Fl ∧ frd = nI Fl.length
def Rx (T : Term) (Vs : List Term) (Rg : List (Nat × Nat)) (S : List Int32) (vo : Option Term) (fp : Int32) (fd : Int64) (wx : List va_E) : Prop := ∃ (kf : Nat → Option Nat) (ra rb to so : Nat → Int32) (sl : Nat), wx = xW (adr T) Vs.length kf (vF vo) fp fd ra rb Rg.length to S.length so sl ∧ kfR kf Vs ∧ rgR ra rb Rg ∧ tpR to S
/-- the same, or with the two tapes' parts changed -/
def Ry (T : Term) (Vs : List Term) (Rg : List (Nat × Nat)) (S : List Int32) (vo : Option Term) (fp : Int32) (fd : Int64) (wx : List va_E) : Prop := Rx T Vs Rg S vo fp fd wx ∨ ∃ (kf : Nat → Option Nat) (ra rb to so : Nat → Int32) (tl : Nat), wx = xS (adr T) Vs.length kf (vF vo) fp fd ra rb Rg.length to tl so S.length ∧ kfR kf Vs ∧ rgR ra rb Rg ∧ tpR so S
def Rm (T : Term) (Vs : List Term) (Rg : List (Nat × Nat)) (S : List Int32) (uo : Option Term) (fp : Int32) (fd : Int64) (wm : List va_E) : Prop := ∃ (pa : Nat → Int32) (va : Nat → Int64) (sz : Nat → Int32) (fr : Nat → Int32) (tw : Nat → Int32) (ta : Nat → Int32) (wd : Nat → Int64) (wb : Nat → Int32) (wp : Nat → Int32) (ou : Nat → Int32) (o1 : Nat → Int32) (o2 : Nat → Int32) (pf : Nat → Int32) (pt : Nat → Int32) (ki : Nat → Int32) (bi : Nat → Int32) (ste : Nat → Int32) (hel : Nat → Int64) (low : Nat → Int32) (hgh : Nat → Int32) (su : Nat → Int64) (ro : Nat → Int32) (fe : Nat → Int32) (dp : Int32) (la : Int32) (rst : Int32) (hlf : Int32) (nd : Int32) (frd : Int32) (at_ : Int32) (end_ : Int32) (ab : Int32) (co : Int32) (ll : Int32) (lh : Int32) (hm : Int32), wm = (mW pa va sz fr tw ta wd wb wp ou o1 o2 pf pt ki bi ste hel low hgh su ro fe (nI Vs.length) (nI Rg.length) (nI S.length) dp la rst hlf nd (rtF uo) frd fp at_ end_ ab fd co ll lh hm) ∧ (lsR pa va 2400 (lvs T) ∧ sz 8 = nI (lvs T).length) ∧ (∀ (j : Nat) (V : Term), Vs[j]? = some V → lsR pa va (300 * j) (lvs V) ∧ sz j = nI (lvs V).length) ∧ rgR fr tw Rg ∧ tpR ta S ∧ vwR (ki, bi, ste, hel, low, hgh) fe hlf nd frd uo
def Nx (D : va_G) (H : Heap) (wx wm : List va_E) : Prop := ∃ (T : Term) (Vs : List Term) (Rg : List (Nat × Nat)) (S : List Int32) (vo uo : Option Term) (fp : Int32) (fd : Int64), okS T Vs S ∧ vuR vo uo ∧ Ry T Vs Rg S vo fp fd wx ∧ Rm T Vs Rg S uo fp fd wm ∧ Nn D T Vs vo H
def AdR (s : State) (adx adm : Nat → Nat) (qx qm : Nat) : Prop := (AD adx 9 ∧ AD adm 24) ∧ (adx 0 = qx ∧ adm 0 = qm) ∧ (∀ i j, i < 9 → j < 24 → ¬ adx i = adm j) ∧ (∀ i, i < 9 → s.heap.size ≤ adx i) ∧ ∀ j, j < 24 → s.heap.size ≤ adm j
def Iv (D : va_G) (ca : Nat → ClassId) (s : State) (qx qm : Nat) (H : Heap) : Prop := ∃ (adx adm : Nat → Nat) (T : Term) (Vs : List Term) (Rg : List (Nat × Nat)) (S : List Int32) (vo uo : Option Term) (fp : Int32) (fd : Int64) (wx wm : List va_E), AdR s adx adm qx qm ∧ okS T Vs S ∧ vuR vo uo ∧ Rx T Vs Rg S vo fp fd wx ∧ Rm T Vs Rg S uo fp fd wm ∧ va_P D vwCl (cw adx ca 0 wx) H ∧ va_P D vwCl (cw adm ca 0 wm) H ∧ Nn D T Vs vo H
def sgm (k : Nat) : Nat := if k = 5 then 7 else if k = 6 then 8 else if k = 7 then 5 else if k = 8 then 6 else k
theorem sgm_lt {k : Nat} (h : k < 9) : sgm k < 9 := by unfold sgm; (repeat' split) <;> omega
theorem sgm_sgm (k : Nat) : sgm (sgm k) = k := by
  by_cases h5 : k = 5
  · subst h5; rfl
  · by_cases h6 : k = 6
    · subst h6; rfl
    · by_cases h7 : k = 7
      · subst h7; rfl
      · by_cases h8 : k = 8
        · subst h8; rfl
        · have e : sgm k = k := by unfold sgm; rw [if_neg h5, if_neg h6, if_neg h7, if_neg h8]
          rw [e, e]
theorem sgm_hi (q : Nat) : sgm (q + 100) = q + 100 := by unfold sgm; rw [if_neg (by omega), if_neg (by omega), if_neg (by omega), if_neg (by omega)]
def swA (ad : Nat → Nat) : Nat → Nat := fun k => ad (sgm k)
theorem swA_AD {ad : Nat → Nat} (h : AD ad 9) : AD (swA ad) 9 := ⟨fun i j hi hj e => by
  have h1 := h.1 _ _ (sgm_lt hi) (sgm_lt hj) e
  rw [← sgm_sgm i, h1, sgm_sgm], fun q => by show ad (sgm (q + 100)) = q; rw [sgm_hi]; exact h.2 q⟩
theorem swA_P {D : va_G} {ca : Nat → ClassId} {ad : Nat → Nat} {qt nv : Nat} {kf : Nat → Option Nat} {vo : Option Term} {fp : Int32} {fd : Int64} {ra rb : Nat → Int32} {wn : Nat} {to : Nat → Int32} {tl : Nat} {so : Nat → Int32} {sl : Nat} {H : Heap} (h : va_P D vwCl (cw ad ca 0 (xS qt nv kf (vF vo) fp fd ra rb wn to tl so sl)) H) : va_P D vwCl (cw (swA ad) ca 0 (xW qt nv kf (vF vo) fp fd ra rb wn so sl to tl)) H := by
  have e1 : ∀ q, swA ad (q + 100) = ad (q + 100) := fun q => by show ad (sgm (q + 100)) = _; rw [sgm_hi]
  have hv : cv (swA ad) (vF vo) = cv ad (vF vo) := by
    cases vo with
    | none => rfl
    | some V => simp only [vF, cv, e1]
  have e0 : (cw (swA ad) ca 0 (xW qt nv kf (vF vo) fp fd ra rb wn so sl to tl)) = [(ad 0, .inr (7, [.ref (ad 1), .ref (ad 2), .ref (ad (qt + 100)), .int (nI nv), .ref (ad 7), .ref (ad 5), cv ad (vF vo), .int fp, .long fd])), (ad 1, .inl (ca 2, 8, .inr (.inr (.inr (.inr kf))))), (ad 2, .inr (4, [.ref (ad 3), .ref (ad 4), .int (nI wn)])), (ad 3, .inl (ca 0, 20, .inl ra)), (ad 4, .inl (ca 0, 20, .inl rb)), (ad 7, .inr (6, [.ref (ad 8), .int (nI sl)])), (ad 8, .inl (ca 0, 4000, .inl so)), (ad 5, .inr (6, [.ref (ad 6), .int (nI tl)])), (ad 6, .inl (ca 0, 4000, .inl to))] := by
    cases vo with
    | none => simp only [xW, cw, ce, List.map_cons, List.map_nil, vF, cv, e1]; rfl
    | some V => simp only [xW, cw, ce, List.map_cons, List.map_nil, vF, cv, e1]; rfl
  intro k q hk
  rw [e0] at hk
  match k, hk with
  | 0, hk => exact h 0 q hk
  | 1, hk => exact h 1 q hk
  | 2, hk => exact h 2 q hk
  | 3, hk => exact h 3 q hk
  | 4, hk => exact h 4 q hk
  | 5, hk => exact h 7 q hk
  | 6, hk => exact h 8 q hk
  | 7, hk => exact h 5 q hk
  | 8, hk => exact h 6 q hk
  | k + 9, hk => cases hk
theorem iv_mk {D : va_G} {ca : Nat → ClassId} {s : State} {adx adm : Nat → Nat} {qx qm : Nat} {H1 H2 : Heap} {wx wm : List va_E} (hA : AdR s adx adm qx qm) (hN : Nx D H1 wx wm) (hs : Snap D H1 H2) (hx : va_P D vwCl (cw adx ca 0 wx) H2) (hm : va_P D vwCl (cw adm ca 0 wm) H2) : Iv D ca s qx qm H2 := by
  obtain ⟨T, Vs, Rg, S, vo, uo, fp, fd, h1, h2, h3, h4, h5⟩ := hN
  rcases h3 with h3 | ⟨kf, ra, rb, to, so, tl, rfl, k1, k2, k3⟩
  · exact ⟨adx, adm, T, Vs, Rg, S, vo, uo, fp, fd, wx, wm, hA, h1, h2, h3, h4, hx, hm, Nn.ns H1 H2 h5 hs⟩
  · obtain ⟨⟨a1, a2⟩, ⟨a3, a4⟩, a5, a6, a7⟩ := hA
    exact ⟨swA adx, adm, T, Vs, Rg, S, vo, uo, fp, fd, _, wm, ⟨⟨swA_AD a1, a2⟩, ⟨a3, a4⟩, fun i j hi hj => a5 _ j (sgm_lt hi) hj, fun i hi => a6 _ (sgm_lt hi), a7⟩, h1, h2, ⟨kf, ra, rb, so, to, tl, rfl, k1, k2, k3⟩, h4, swA_P hx, hm, Nn.ns H1 H2 h5 hs⟩
def isI (r : Value) : Prop := ∃ x, r = .int x
def isJ (r : Value) : Prop := ∃ x, r = .long x
/-- a method of the class and the same of the model: one answer, and one thing shown behind it -/
def Pr (l : Launch) (D : va_G) (ca : Nat → ClassId) (y8 : MethodName) (c8 : ByteArray) (ml8 : Nat) (rt8 : Option FieldType) (y9 : MethodName) (c9 : ByteArray) (ml9 : Nat) (rt9 : Option FieldType) (av : List Value) (J : Value → Prop) : Prop := ∀ (adx adm : Nat → Nat) (T : Term) (Vs : List Term) (Rg : List (Nat × Nat)) (S : List Int32) (vo uo : Option Term) (fp : Int32) (fd : Int64) (wx wm : List va_E), AD adx 9 → AD adm 24 → okS T Vs S → vuR vo uo → Rx T Vs Rg S vo fp fd wx → Rm T Vs Rg S uo fp fd wm → ∃ (k8 n8 s8 k9 : Nat) (G8 : Option Value → List va_E → Heap → Prop) (G9 : Heap → Option Value → List va_E → Heap → Prop), (k8 ≤ 40 ∧ n8 ≤ 1003 ∧ s8 ≤ 5014 ∧ k9 ≤ 40) ∧ Ct l y8 c8 ml8 rt8 (rK k8 n8 s8) D ca adx wx 9 (.ref 0 :: av) (Nn D T Vs vo) G8 ∧ (∀ H1, Ct l y9 c9 ml9 rt9 (rK k9 0 0) D ca adm wm 24 (.ref 0 :: av) (Snap D H1) (G9 H1)) ∧ ∀ v8 wx' H1 v9 wm' H2, G8 v8 wx' H1 → G9 H1 v9 wm' H2 → (∃ r, v8 = some r ∧ v9 = some r ∧ J r) ∧ Nx D H1 wx' wm' ∧ Snap D H1 H2
