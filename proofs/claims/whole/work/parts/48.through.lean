/-! the model: a walk through the view; count, next -/
section
variable {p : Program} {l : Launch} {e : Env} {R : Room} {s : State} {m : MethodId} {args : Array Value} {below : List Frame} {meth : Method} {c : Code} {cells slots : Nat} {QQ : State → Prop} {D : va_G} {ca : Nat → ClassId} {ad : Nat → Nat} {A : Nat → Prop} {N : Heap → Prop} {pa : Nat → Int32} {va : Nat → Int64} {sz : Nat → Int32} {fr : Nat → Int32} {tw : Nat → Int32} {ta : Nat → Int32} {wd : Nat → Int64} {wb : Nat → Int32} {wp : Nat → Int32} {ou : Nat → Int32} {o1 : Nat → Int32} {o2 : Nat → Int32} {pf : Nat → Int32} {pt : Nat → Int32} {ki : Nat → Int32} {bi : Nat → Int32} {ste : Nat → Int32} {hel : Nat → Int64} {low : Nat → Int32} {hgh : Nat → Int32} {su : Nat → Int64} {ro : Nat → Int32} {fe : Nat → Int32} {vs : Int32} {wn : Int32} {tp : Int32} {dp : Int32} {la : Int32} {rst : Int32} {hlf : Int32} {nd : Int32} {rt : Int32} {frd : Int32} {fa : Int32} {at_ : Int32} {end_ : Int32} {ab : Int32} {fo : Int64} {co : Int32} {ll : Int32} {lh : Int32} {hm : Int32}
set_option maxRecDepth 100000 in
set_option maxHeartbeats 4000000 in
theorem gt_tree (C : Cx p s m args c cX9_goThrough 7 RX9 D ca ad A N 24) (hAD : AD ad 24) (hN : NS D N) (hR : 2 ≤ R.frames ∧ 80 ≤ R.locals ∧ cells ≤ R.cells ∧ slots ≤ R.slots) {a b : Nat} (ha : a < 65536) (hb : b < 65536) (T : Term) (hT : isT T) : ∀ (k r f t c0 l0 h0 m0 : Nat) (o1 o2 pf pt : Nat → Int32), gdV (ki, bi, ste, hel, low, hgh) (T) → fitT (T) k → f ≤ t → t < 65536 → k ≤ 16 → r + k ≤ 16 → o1 r = nI (adr (T)) → pf r = nI f → pt r = nI t → c0 + nodT (T) ≤ 2000 → m0 + nodT (T) ≤ 2000 → l0 ≤ 70000 → h0 ≤ 70000 → (∀ (p1 p2 p3 p4 : Nat → Int32), rsR r o1 p1 o2 p2 pf p3 pt p4 → Wa p l e R s m args below meth c cells slots QQ D ca ad A 7 N ([(0, .ref 0), (1, .int (nI a)), (2, .int (nI b))], [], (mW pa va sz fr tw ta wd wb wp ou p1 p2 p3 p4 ki bi ste hel low hgh su ro fe vs wn tp dp la (nI r) hlf nd rt frd fa at_ end_ ab fo (nI (c0 + cntT (T) a b)) (nI (min l0 (llT (T) a b))) (nI (min h0 (lhT (T) f t a b))) (nI (m0 + hmT (T))))) 39) → Wa p l e R s m args below meth c cells slots QQ D ca ad A 7 N ([(0, .ref 0), (1, .int (nI a)), (2, .int (nI b))], [], (mW pa va sz fr tw ta wd wb wp ou o1 o2 pf pt ki bi ste hel low hgh su ro fe vs wn tp dp la (nI (r + 1)) hlf nd rt frd fa at_ end_ ab fo (nI (c0)) (nI (l0)) (nI (h0)) (nI (m0)))) 39 := by
  obtain ⟨hR1, hR2, hR3, hR4⟩ := hR
  refine tr_ind (P := fun T => ∀ (k r f t c0 l0 h0 m0 : Nat) (o1 o2 pf pt : Nat → Int32), gdV (ki, bi, ste, hel, low, hgh) (T) → fitT (T) k → f ≤ t → t < 65536 → k ≤ 16 → r + k ≤ 16 → o1 r = nI (adr (T)) → pf r = nI f → pt r = nI t → c0 + nodT (T) ≤ 2000 → m0 + nodT (T) ≤ 2000 → l0 ≤ 70000 → h0 ≤ 70000 → (∀ (p1 p2 p3 p4 : Nat → Int32), rsR r o1 p1 o2 p2 pf p3 pt p4 → Wa p l e R s m args below meth c cells slots QQ D ca ad A 7 N ([(0, .ref 0), (1, .int (nI a)), (2, .int (nI b))], [], (mW pa va sz fr tw ta wd wb wp ou p1 p2 p3 p4 ki bi ste hel low hgh su ro fe vs wn tp dp la (nI r) hlf nd rt frd fa at_ end_ ab fo (nI (c0 + cntT (T) a b)) (nI (min l0 (llT (T) a b))) (nI (min h0 (lhT (T) f t a b))) (nI (m0 + hmT (T))))) 39) → Wa p l e R s m args below meth c cells slots QQ D ca ad A 7 N ([(0, .ref 0), (1, .int (nI a)), (2, .int (nI b))], [], (mW pa va sz fr tw ta wd wb wp ou o1 o2 pf pt ki bi ste hel low hgh su ro fe vs wn tp dp la (nI (r + 1)) hlf nd rt frd fa at_ end_ ab fo (nI (c0)) (nI (l0)) (nI (h0)) (nI (m0)))) 39) ?_ ?_ ?_ ?_ T hT
  · intro q k r f t c0 l0 h0 m0 o1 o2 pf pt hgd hfit hft ht hk hrk ho1 hpf hpt hc0 hm0 hl0 hh0 hK
    have hq : q < 1600 := hgd.2.2 q (adr_ids (tE q) hgd.1)
    have hk1 : ki q = 3 := hgd.2.1
    have ho1 : o1 r = nI q := ho1
    have hcl : (nI r).toNatClampNeg = r := nI_clamp (by omega)
    have hcq : (nI q).toNatClampNeg = q := nI_clamp (by omega)
    have hp1 : nI (r + 1) - 1 = nI r := by rw [show (1 : Int32) = nI 1 from rfl, pk_sub (by omega)]; rfl
    refine sg0 C foX9 coX9 oX9_goThrough_39 rfl rfl rfl ?_
    refine b1_le (tgt := 315) C jX9_goThrough_43 (by decide) (fun h43 => ?_) (fun h43 => ?_)
    · exact absurd h43 (Int32.not_le.mpr (show nI 0 < nI (r + 1) from nI_lt (by omega) (by omega)))
    · refine sg C foX9 coX9 oX9_goThrough_46 rfl rfl rfl (by rw [hp1, hcl, ho1]; exact ⟨vp_in_nI (by omega) (by decide), vp_in_nI (by omega) (by decide), vp_in_nI (by omega) (by decide), vp_in_nI (by omega) (by decide), trivial⟩) ?_
      rw [hp1, hcl, ho1, hpf, hpt, hcq]
      refine b2_ne (tgt := 161) C jX9_goThrough_95 (by decide) (fun h95 => ?_) (fun h95 => ?_)
      · refine sg C foX9 coX9 oX9_goThrough_161 rfl rfl rfl ⟨vp_in_nI (by omega) (by decide), trivial⟩ ?_
        rw [hcq]
        refine b1_ne (tgt := 232) C jX9_goThrough_167 (by decide) (fun h167 => ?_) (fun h167 => ?_)
        · refine sg C foX9 coX9 oX9_goThrough_232 rfl rfl rfl ⟨vp_in_nI (by omega) (by decide), trivial⟩ ?_
          rw [hcq]
          refine b2_ne (tgt := 312) C jX9_goThrough_239 (by decide) (fun h239 => ?_) (fun h239 => ?_)
          · refine sg0 C foX9 coX9 oX9_goThrough_312 rfl rfl rfl ?_
            refine Wa.lvp [0, 1, 2] rfl ?_
            have h9 := hK o1 o2 pf pt rs_0
            rw [show c0 + cntT (tE q) a b = c0 from by (try simp only [cntT]); (try split) <;> omega, show min l0 (llT (tE q) a b) = l0 from by (try simp only [llT]); (try split) <;> omega, show min h0 (lhT (tE q) f t a b) = h0 from by (try simp only [lhT]); (try split) <;> omega, show m0 + hmT (tE q) = m0 from rfl] at h9
            exact h9
          · exact absurd (hk1.symm.trans h239) (by decide)
        · exact absurd (hk1.symm.trans h167) (by decide)
      · exact absurd (hk1.symm.trans h95) (by decide)
  · intro q d0 k r f t c0 l0 h0 m0 o1 o2 pf pt hgd hfit hft ht hk hrk ho1 hpf hpt hc0 hm0 hl0 hh0 hK
    have hq : q < 1600 := hgd.2.2 q (adr_ids (tH q d0) hgd.1)
    have hk1 : ki q = 0 := hgd.2.1.1
    have ho1 : o1 r = nI q := ho1
    have hcl : (nI r).toNatClampNeg = r := nI_clamp (by omega)
    have hcq : (nI q).toNatClampNeg = q := nI_clamp (by omega)
    have hp1 : nI (r + 1) - 1 = nI r := by rw [show (1 : Int32) = nI 1 from rfl, pk_sub (by omega)]; rfl
    refine sg0 C foX9 coX9 oX9_goThrough_39 rfl rfl rfl ?_
    refine b1_le (tgt := 315) C jX9_goThrough_43 (by decide) (fun h43 => ?_) (fun h43 => ?_)
    · exact absurd h43 (Int32.not_le.mpr (show nI 0 < nI (r + 1) from nI_lt (by omega) (by omega)))
    · refine sg C foX9 coX9 oX9_goThrough_46 rfl rfl rfl (by rw [hp1, hcl, ho1]; exact ⟨vp_in_nI (by omega) (by decide), vp_in_nI (by omega) (by decide), vp_in_nI (by omega) (by decide), vp_in_nI (by omega) (by decide), trivial⟩) ?_
      rw [hp1, hcl, ho1, hpf, hpt, hcq]
      refine b2_ne (tgt := 161) C jX9_goThrough_95 (by decide) (fun h95 => ?_) (fun h95 => ?_)
      · refine sg C foX9 coX9 oX9_goThrough_161 rfl rfl rfl ⟨vp_in_nI (by omega) (by decide), trivial⟩ ?_
        rw [hcq]
        refine b1_ne (tgt := 232) C jX9_goThrough_167 (by decide) (fun h167 => ?_) (fun h167 => ?_)
        · exact absurd hk1 h167
        · refine sg0 C foX9 coX9 oX9_goThrough_170 rfl rfl rfl ?_
          refine b2_le (tgt := 191) C jX9_goThrough_183 (by decide) (fun h183 => ?_) (fun h183 => ?_)
          · have e1 : f ≤ a := (nI_leI (by omega) (by omega)).mp h183
            refine sg0 C foX9 coX9 oX9_goThrough_191 rfl rfl rfl ?_
            refine sg0 C foX9 coX9 oX9_goThrough_192 rfl rfl rfl ?_
            refine b2_gt (tgt := 222) C jX9_goThrough_199 (by decide) (fun h199 => ?_) (fun h199 => ?_)
            · have e199 : t < a := (nI_ltI (by omega) (by omega)).mp h199
              refine sg0 C foX9 coX9 oX9_goThrough_222 rfl rfl rfl ?_
              refine sg0 C foX9 coX9 oX9_goThrough_226 rfl rfl rfl ?_
              refine sg0 C foX9 coX9 oX9_goThrough_312 rfl rfl rfl ?_
              rw [show nI m0 + 1 = nI (m0 + 1) from nI_1 _]
              refine Wa.lvp [0, 1, 2] rfl ?_
              have h9 := hK o1 o2 pf pt rs_0
              rw [show c0 + cntT (tH q d0) a b = c0 from by (try simp only [cntT]); (try split) <;> omega, show min l0 (llT (tH q d0) a b) = l0 from by (try simp only [llT]); (try split) <;> omega, show min h0 (lhT (tH q d0) f t a b) = h0 from by (try simp only [lhT]); (try split) <;> omega, show m0 + hmT (tH q d0) = m0 + 1 from rfl] at h9
              exact h9
            · have e199 : ¬ t < a := fun q9 => h199 (nI_lt q9 (by omega))
              refine sg0 C foX9 coX9 oX9_goThrough_202 rfl rfl rfl ?_
              refine b2_gt (tgt := 222) C jX9_goThrough_205 (by decide) (fun h205 => ?_) (fun h205 => ?_)
              · have e205 : b < a := (nI_ltI (by omega) (by omega)).mp h205
                refine sg0 C foX9 coX9 oX9_goThrough_222 rfl rfl rfl ?_
                refine sg0 C foX9 coX9 oX9_goThrough_226 rfl rfl rfl ?_
                refine sg0 C foX9 coX9 oX9_goThrough_312 rfl rfl rfl ?_
                rw [show nI m0 + 1 = nI (m0 + 1) from nI_1 _]
                refine Wa.lvp [0, 1, 2] rfl ?_
                have h9 := hK o1 o2 pf pt rs_0
                rw [show c0 + cntT (tH q d0) a b = c0 from by (try simp only [cntT]); (try split) <;> omega, show min l0 (llT (tH q d0) a b) = l0 from by (try simp only [llT]); (try split) <;> omega, show min h0 (lhT (tH q d0) f t a b) = h0 from by (try simp only [lhT]); (try split) <;> omega, show m0 + hmT (tH q d0) = m0 + 1 from rfl] at h9
                exact h9
              · have e205 : ¬ b < a := fun q9 => h205 (nI_lt q9 (by omega))
                refine sg0 C foX9 coX9 oX9_goThrough_208 rfl rfl rfl ?_
                refine b2_ge (tgt := 222) C jX9_goThrough_214 (by decide) (fun h214 => ?_) (fun h214 => ?_)
                · have e214 : h0 ≤ a := (nI_leI (by omega) (by omega)).mp h214
                  refine sg0 C foX9 coX9 oX9_goThrough_222 rfl rfl rfl ?_
                  refine sg0 C foX9 coX9 oX9_goThrough_226 rfl rfl rfl ?_
                  refine sg0 C foX9 coX9 oX9_goThrough_312 rfl rfl rfl ?_
                  rw [show nI m0 + 1 = nI (m0 + 1) from nI_1 _]
                  refine Wa.lvp [0, 1, 2] rfl ?_
                  have h9 := hK o1 o2 pf pt rs_0
                  rw [show c0 + cntT (tH q d0) a b = c0 from by (try simp only [cntT]); (try split) <;> omega, show min l0 (llT (tH q d0) a b) = l0 from by (try simp only [llT]); (try split) <;> omega, show min h0 (lhT (tH q d0) f t a b) = h0 from by (try simp only [lhT]); (try split) <;> omega, show m0 + hmT (tH q d0) = m0 + 1 from rfl] at h9
                  exact h9
                · have e214 : ¬ h0 ≤ a := fun q9 => h214 (nI_le q9 (by omega))
                  refine sg0 C foX9 coX9 oX9_goThrough_217 rfl rfl rfl ?_
                  refine sg0 C foX9 coX9 oX9_goThrough_226 rfl rfl rfl ?_
                  refine sg0 C foX9 coX9 oX9_goThrough_312 rfl rfl rfl ?_
                  rw [show nI m0 + 1 = nI (m0 + 1) from nI_1 _]
                  refine Wa.lvp [0, 1, 2] rfl ?_
                  have h9 := hK o1 o2 pf pt rs_0
                  rw [show c0 + cntT (tH q d0) a b = c0 from by (try simp only [cntT]); (try split) <;> omega, show min l0 (llT (tH q d0) a b) = l0 from by (try simp only [llT]); (try split) <;> omega, show min h0 (lhT (tH q d0) f t a b) = a from by (try simp only [lhT]); (try split) <;> omega, show m0 + hmT (tH q d0) = m0 + 1 from rfl] at h9
                  exact h9
          · have e1 : ¬ f ≤ a := fun q9 => h183 (nI_le q9 (by omega))
            refine sg0 C foX9 coX9 oX9_goThrough_186 rfl rfl rfl ?_
            refine sg0 C foX9 coX9 oX9_goThrough_192 rfl rfl rfl ?_
            refine b2_gt (tgt := 222) C jX9_goThrough_199 (by decide) (fun h199 => ?_) (fun h199 => ?_)
            · have e199 : t < f := (nI_ltI (by omega) (by omega)).mp h199
              refine sg0 C foX9 coX9 oX9_goThrough_222 rfl rfl rfl ?_
              refine sg0 C foX9 coX9 oX9_goThrough_226 rfl rfl rfl ?_
              refine sg0 C foX9 coX9 oX9_goThrough_312 rfl rfl rfl ?_
              rw [show nI m0 + 1 = nI (m0 + 1) from nI_1 _]
              refine Wa.lvp [0, 1, 2] rfl ?_
              have h9 := hK o1 o2 pf pt rs_0
              rw [show c0 + cntT (tH q d0) a b = c0 from by (try simp only [cntT]); (try split) <;> omega, show min l0 (llT (tH q d0) a b) = l0 from by (try simp only [llT]); (try split) <;> omega, show min h0 (lhT (tH q d0) f t a b) = h0 from by (try simp only [lhT]); (try split) <;> omega, show m0 + hmT (tH q d0) = m0 + 1 from rfl] at h9
              exact h9
            · have e199 : ¬ t < f := fun q9 => h199 (nI_lt q9 (by omega))
              refine sg0 C foX9 coX9 oX9_goThrough_202 rfl rfl rfl ?_
              refine b2_gt (tgt := 222) C jX9_goThrough_205 (by decide) (fun h205 => ?_) (fun h205 => ?_)
              · have e205 : b < f := (nI_ltI (by omega) (by omega)).mp h205
                refine sg0 C foX9 coX9 oX9_goThrough_222 rfl rfl rfl ?_
                refine sg0 C foX9 coX9 oX9_goThrough_226 rfl rfl rfl ?_
                refine sg0 C foX9 coX9 oX9_goThrough_312 rfl rfl rfl ?_
                rw [show nI m0 + 1 = nI (m0 + 1) from nI_1 _]
                refine Wa.lvp [0, 1, 2] rfl ?_
                have h9 := hK o1 o2 pf pt rs_0
                rw [show c0 + cntT (tH q d0) a b = c0 from by (try simp only [cntT]); (try split) <;> omega, show min l0 (llT (tH q d0) a b) = l0 from by (try simp only [llT]); (try split) <;> omega, show min h0 (lhT (tH q d0) f t a b) = h0 from by (try simp only [lhT]); (try split) <;> omega, show m0 + hmT (tH q d0) = m0 + 1 from rfl] at h9
                exact h9
              · have e205 : ¬ b < f := fun q9 => h205 (nI_lt q9 (by omega))
                refine sg0 C foX9 coX9 oX9_goThrough_208 rfl rfl rfl ?_
                refine b2_ge (tgt := 222) C jX9_goThrough_214 (by decide) (fun h214 => ?_) (fun h214 => ?_)
                · have e214 : h0 ≤ f := (nI_leI (by omega) (by omega)).mp h214
                  refine sg0 C foX9 coX9 oX9_goThrough_222 rfl rfl rfl ?_
                  refine sg0 C foX9 coX9 oX9_goThrough_226 rfl rfl rfl ?_
                  refine sg0 C foX9 coX9 oX9_goThrough_312 rfl rfl rfl ?_
                  rw [show nI m0 + 1 = nI (m0 + 1) from nI_1 _]
                  refine Wa.lvp [0, 1, 2] rfl ?_
                  have h9 := hK o1 o2 pf pt rs_0
                  rw [show c0 + cntT (tH q d0) a b = c0 from by (try simp only [cntT]); (try split) <;> omega, show min l0 (llT (tH q d0) a b) = l0 from by (try simp only [llT]); (try split) <;> omega, show min h0 (lhT (tH q d0) f t a b) = h0 from by (try simp only [lhT]); (try split) <;> omega, show m0 + hmT (tH q d0) = m0 + 1 from rfl] at h9
                  exact h9
                · have e214 : ¬ h0 ≤ f := fun q9 => h214 (nI_le q9 (by omega))
                  refine sg0 C foX9 coX9 oX9_goThrough_217 rfl rfl rfl ?_
                  refine sg0 C foX9 coX9 oX9_goThrough_226 rfl rfl rfl ?_
                  refine sg0 C foX9 coX9 oX9_goThrough_312 rfl rfl rfl ?_
                  rw [show nI m0 + 1 = nI (m0 + 1) from nI_1 _]
                  refine Wa.lvp [0, 1, 2] rfl ?_
                  have h9 := hK o1 o2 pf pt rs_0
                  rw [show c0 + cntT (tH q d0) a b = c0 from by (try simp only [cntT]); (try split) <;> omega, show min l0 (llT (tH q d0) a b) = l0 from by (try simp only [llT]); (try split) <;> omega, show min h0 (lhT (tH q d0) f t a b) = f from by (try simp only [lhT]); (try split) <;> omega, show m0 + hmT (tH q d0) = m0 + 1 from rfl] at h9
                  exact h9
      · exact absurd (hk1.symm.trans h95) (by decide)
  · intro q P v0 k r f t c0 l0 h0 m0 o1 o2 pf pt hgd hfit hft ht hk hrk ho1 hpf hpt hc0 hm0 hl0 hh0 hK
    have hq : q < 1600 := hgd.2.2 q (adr_ids (tL q P v0) hgd.1)
    have hk1 : ki q = 2 := hgd.2.1.1
    have ho1 : o1 r = nI q := ho1
    have hcl : (nI r).toNatClampNeg = r := nI_clamp (by omega)
    have hcq : (nI q).toNatClampNeg = q := nI_clamp (by omega)
    have hp1 : nI (r + 1) - 1 = nI r := by rw [show (1 : Int32) = nI 1 from rfl, pk_sub (by omega)]; rfl
    have hs1 : ste q = nI P := hgd.2.1.2.1
    have hpp : P < 65536 := hfit
    refine sg0 C foX9 coX9 oX9_goThrough_39 rfl rfl rfl ?_
    refine b1_le (tgt := 315) C jX9_goThrough_43 (by decide) (fun h43 => ?_) (fun h43 => ?_)
    · exact absurd h43 (Int32.not_le.mpr (show nI 0 < nI (r + 1) from nI_lt (by omega) (by omega)))
    · refine sg C foX9 coX9 oX9_goThrough_46 rfl rfl rfl (by rw [hp1, hcl, ho1]; exact ⟨vp_in_nI (by omega) (by decide), vp_in_nI (by omega) (by decide), vp_in_nI (by omega) (by decide), vp_in_nI (by omega) (by decide), trivial⟩) ?_
      rw [hp1, hcl, ho1, hpf, hpt, hcq]
      refine b2_ne (tgt := 161) C jX9_goThrough_95 (by decide) (fun h95 => ?_) (fun h95 => ?_)
      · exact absurd hk1 h95
      · refine sg C foX9 coX9 oX9_goThrough_98 rfl rfl rfl ⟨vp_in_nI (by omega) (by decide), trivial⟩ ?_
        rw [hcq, hs1]
        refine b2_lt (tgt := 161) C jX9_goThrough_105 (by decide) (fun h105 => ?_) (fun h105 => ?_)
        · have e1 : P < a := (nI_ltI (by omega) (by omega)).mp h105
          refine sg C foX9 coX9 oX9_goThrough_161 rfl rfl rfl ⟨vp_in_nI (by omega) (by decide), trivial⟩ ?_
          rw [hcq]
          refine b1_ne (tgt := 232) C jX9_goThrough_167 (by decide) (fun h167 => ?_) (fun h167 => ?_)
          · refine sg C foX9 coX9 oX9_goThrough_232 rfl rfl rfl ⟨vp_in_nI (by omega) (by decide), trivial⟩ ?_
            rw [hcq]
            refine b2_ne (tgt := 312) C jX9_goThrough_239 (by decide) (fun h239 => ?_) (fun h239 => ?_)
            · refine sg0 C foX9 coX9 oX9_goThrough_312 rfl rfl rfl ?_
              refine Wa.lvp [0, 1, 2] rfl ?_
              have h9 := hK o1 o2 pf pt rs_0
              rw [show c0 + cntT (tL q P v0) a b = c0 from by (try simp only [cntT]); (try split) <;> omega, show min l0 (llT (tL q P v0) a b) = l0 from by (try simp only [llT]); (try split) <;> omega, show min h0 (lhT (tL q P v0) f t a b) = h0 from by (try simp only [lhT]); (try split) <;> omega, show m0 + hmT (tL q P v0) = m0 from rfl] at h9
              exact h9
            · exact absurd (hk1.symm.trans h239) (by decide)
          · exact absurd (hk1.symm.trans h167) (by decide)
        · have e1 : ¬ P < a := fun q9 => h105 (nI_lt q9 (by omega))
          refine sg C foX9 coX9 oX9_goThrough_108 rfl rfl rfl ⟨vp_in_nI (by omega) (by decide), trivial⟩ ?_
          rw [hcq, hs1]
          refine b2_gt (tgt := 161) C jX9_goThrough_115 (by decide) (fun h115 => ?_) (fun h115 => ?_)
          · have e2 : b < P := (nI_ltI (by omega) (by omega)).mp h115
            refine sg C foX9 coX9 oX9_goThrough_161 rfl rfl rfl ⟨vp_in_nI (by omega) (by decide), trivial⟩ ?_
            rw [hcq]
            refine b1_ne (tgt := 232) C jX9_goThrough_167 (by decide) (fun h167 => ?_) (fun h167 => ?_)
            · refine sg C foX9 coX9 oX9_goThrough_232 rfl rfl rfl ⟨vp_in_nI (by omega) (by decide), trivial⟩ ?_
              rw [hcq]
              refine b2_ne (tgt := 312) C jX9_goThrough_239 (by decide) (fun h239 => ?_) (fun h239 => ?_)
              · refine sg0 C foX9 coX9 oX9_goThrough_312 rfl rfl rfl ?_
                refine Wa.lvp [0, 1, 2] rfl ?_
                have h9 := hK o1 o2 pf pt rs_0
                rw [show c0 + cntT (tL q P v0) a b = c0 from by (try simp only [cntT]); (try split) <;> omega, show min l0 (llT (tL q P v0) a b) = l0 from by (try simp only [llT]); (try split) <;> omega, show min h0 (lhT (tL q P v0) f t a b) = h0 from by (try simp only [lhT]); (try split) <;> omega, show m0 + hmT (tL q P v0) = m0 from rfl] at h9
                exact h9
              · exact absurd (hk1.symm.trans h239) (by decide)
            · exact absurd (hk1.symm.trans h167) (by decide)
          · have e2 : ¬ b < P := fun q9 => h115 (nI_lt q9 (by omega))
            refine sg C foX9 coX9 oX9_goThrough_118 rfl rfl rfl ⟨vp_in_nI (by omega) (by decide), trivial⟩ ?_
            rw [hcq, hs1]
            refine b2_ge (tgt := 151) C jX9_goThrough_139 (by decide) (fun h139 => ?_) (fun h139 => ?_)
            · have e3 : l0 ≤ P := (nI_leI (by omega) (by omega)).mp h139
              refine sg0 C foX9 coX9 oX9_goThrough_151 rfl rfl rfl ?_
              refine sg0 C foX9 coX9 oX9_goThrough_155 rfl rfl rfl ?_
              refine sg0 C foX9 coX9 oX9_goThrough_312 rfl rfl rfl ?_
              rw [show nI c0 + 1 = nI (c0 + 1) from nI_1 _]
              refine Wa.lvp [0, 1, 2] rfl ?_
              have h9 := hK o1 o2 pf pt rs_0
              rw [show c0 + cntT (tL q P v0) a b = c0 + 1 from by (try simp only [cntT]); (try split) <;> omega, show min l0 (llT (tL q P v0) a b) = l0 from by (try simp only [llT]); (try split) <;> omega, show min h0 (lhT (tL q P v0) f t a b) = h0 from by (try simp only [lhT]); (try split) <;> omega, show m0 + hmT (tL q P v0) = m0 from rfl] at h9
              exact h9
            · have e3 : ¬ l0 ≤ P := fun q9 => h139 (nI_le q9 (by omega))
              refine sg C foX9 coX9 oX9_goThrough_142 rfl rfl rfl ⟨vp_in_nI (by omega) (by decide), trivial⟩ ?_
              refine sg0 C foX9 coX9 oX9_goThrough_155 rfl rfl rfl ?_
              refine sg0 C foX9 coX9 oX9_goThrough_312 rfl rfl rfl ?_
              rw [show nI c0 + 1 = nI (c0 + 1) from nI_1 _, hcq, hs1]
              refine Wa.lvp [0, 1, 2] rfl ?_
              have h9 := hK o1 o2 pf pt rs_0
              rw [show c0 + cntT (tL q P v0) a b = c0 + 1 from by (try simp only [cntT]); (try split) <;> omega, show min l0 (llT (tL q P v0) a b) = P from by (try simp only [llT]); (try split) <;> omega, show min h0 (lhT (tL q P v0) f t a b) = h0 from by (try simp only [lhT]); (try split) <;> omega, show m0 + hmT (tL q P v0) = m0 from rfl] at h9
              exact h9
  · intro q B S x y t1 t2 i1 i2 k r f t c0 l0 h0 m0 o1 o2 pf pt hgd hfit hft ht hk hrk ho1 hpf hpt hc0 hm0 hl0 hh0 hK
    have hq : q < 1600 := hgd.2.2 q (adr_ids (tF q B S x y) hgd.1)
    have hk1 : ki q = 1 := hgd.2.1.1.1
    have ho1 : o1 r = nI q := ho1
    have hcl : (nI r).toNatClampNeg = r := nI_clamp (by omega)
    have hcq : (nI q).toNatClampNeg = q := nI_clamp (by omega)
    have hp1 : nI (r + 1) - 1 = nI r := by rw [show (1 : Int32) = nI 1 from rfl, pk_sub (by omega)]; rfl
    obtain ⟨⟨-, hb1, hs1, hlo, hhi⟩, g1, g2⟩ : (ki q = 1 ∧ bi q = nI B ∧ ste q = nI S ∧ low q = nI (adr x) ∧ hgh q = nI (adr y)) ∧ vtR (ki, bi, ste, hel, low, hgh) x ∧ vtR (ki, bi, ste, hel, low, hgh) y := hgd.2.1
    obtain ⟨⟨a1, a2, a3, a4⟩, a5, a6⟩ := fitF hfit
    have gx := gd_kids hgd x List.mem_cons_self
    have gy := gd_kids hgd y (List.mem_cons_of_mem _ List.mem_cons_self)
    have b2 := pw_s a1
    have hp2 := Nat.two_pow_pos (15 - B)
    have hnn : nodT (tF q B S x y) = 1 + nodT x + nodT y := rfl
    have cx := cn_le x t1 a b
    have mx := hm_le x t1
    refine sg0 C foX9 coX9 oX9_goThrough_39 rfl rfl rfl ?_
    refine b1_le (tgt := 315) C jX9_goThrough_43 (by decide) (fun h43 => ?_) (fun h43 => ?_)
    · exact absurd h43 (Int32.not_le.mpr (show nI 0 < nI (r + 1) from nI_lt (by omega) (by omega)))
    · refine sg C foX9 coX9 oX9_goThrough_46 rfl rfl rfl (by rw [hp1, hcl, ho1]; exact ⟨vp_in_nI (by omega) (by decide), vp_in_nI (by omega) (by decide), vp_in_nI (by omega) (by decide), vp_in_nI (by omega) (by decide), trivial⟩) ?_
      rw [hp1, hcl, ho1, hpf, hpt, hcq]
      refine b2_ne (tgt := 161) C jX9_goThrough_95 (by decide) (fun h95 => ?_) (fun h95 => ?_)
      · refine sg C foX9 coX9 oX9_goThrough_161 rfl rfl rfl ⟨vp_in_nI (by omega) (by decide), trivial⟩ ?_
        rw [hcq]
        refine b1_ne (tgt := 232) C jX9_goThrough_167 (by decide) (fun h167 => ?_) (fun h167 => ?_)
        · refine sg C foX9 coX9 oX9_goThrough_232 rfl rfl rfl ⟨vp_in_nI (by omega) (by decide), trivial⟩ ?_
          rw [hcq]
          refine b2_ne (tgt := 312) C jX9_goThrough_239 (by decide) (fun h239 => ?_) (fun h239 => ?_)
          · exact absurd hk1 h239
          · refine sg C foX9 coX9 oX9_goThrough_242 rfl rfl rfl ⟨vp_in_nI (by omega) (by decide), vp_in_nI (by omega) (by decide), vp_in_nI (by omega) (by decide), vp_in_nI (by omega) (by decide), trivial⟩ ?_
            rw [hcq, hb1, hs1, hhi, one_shl15 a1, nI_add, nI_add, show (1 : Int32) = nI 1 from rfl, pk_sub (show 1 ≤ S + 2 ^ (15 - B) + 2 ^ (15 - B) by omega)]
            refine cl_v C (kX9_rest hAD hN (r := r) (by omega) (nI (adr y)) 0 (nI (S + 2 ^ (15 - B))) (nI (S + 2 ^ (15 - B) + 2 ^ (15 - B) - 1))) (rcv (ci := 8) C.2.1 rfl rfl) cd_X9_rest in_X9 ml_X9_153 im_X9_rest se_X9_rest hd_X9_rest rfl rfl ⟨by show 0 + 1 ≤ R.frames; omega, by show 8 + (5 + 11) + 40 * 0 ≤ R.locals; omega⟩ ⟨by show cells + 0 ≤ R.cells; omega, by show slots + 0 ≤ R.slots; omega⟩ (Nat.le_of_ble_eq_true rfl) jX9_goThrough_288 (fun v ws' => Wa.and (fun hv => ?_))
            obtain ⟨rfl, rfl⟩ := hv
            refine sg C foX9 coX9 oX9_goThrough_291 rfl rfl rfl ⟨vp_in_nI (by omega) (by decide), vp_in_nI (by omega) (by decide), trivial⟩ ?_
            rw [hcq, hs1, hlo, show (1 : Int32) = nI 1 from rfl, pk_sub (show 1 ≤ S + 2 ^ (15 - B) by omega)]
            refine cl_v C (kX9_rest hAD hN (r := r + 1) (by omega) (nI (adr x)) 0 (nI S) (nI (S + 2 ^ (15 - B) - 1))) (rcv (ci := 8) C.2.1 rfl rfl) cd_X9_rest in_X9 ml_X9_153 im_X9_rest se_X9_rest hd_X9_rest rfl rfl ⟨by show 0 + 1 ≤ R.frames; omega, by show 8 + (5 + 11) + 40 * 0 ≤ R.locals; omega⟩ ⟨by show cells + 0 ≤ R.cells; omega, by show slots + 0 ≤ R.slots; omega⟩ (Nat.le_of_ble_eq_true rfl) jX9_goThrough_309 (fun v ws' => Wa.and (fun hv => ?_))
            obtain ⟨rfl, rfl⟩ := hv
            refine sg0 C foX9 coX9 oX9_goThrough_312 rfl rfl rfl ?_
            refine Wa.lvp [0, 1, 2] rfl ?_
            refine i1 (15 - B) (r + 1) S (S + 2 ^ (15 - B) - 1) c0 l0 h0 m0 _ _ _ _ gx a5 (by omega) (by omega) (by omega) (by omega) (if_pos rfl) (if_pos rfl) (if_pos rfl) (by omega) (by omega) hl0 hh0 (fun p1 p2 p3 p4 hrs => ?_)
            obtain ⟨y1, y2, y3, y4⟩ := rs_at hrs
            refine i2 (15 - B) r (S + 2 ^ (15 - B)) (S + 2 ^ (16 - B) - 1) _ _ _ _ p1 p2 p3 p4 gy a6 (by omega) (by omega) (by omega) (by omega) y1 y3 (by rw [y4]; congr 1; omega) (by omega) (by omega) (by omega) (by omega) (fun p1' p2' p3' p4' hrs2 => ?_)
            have h9 := hK p1' p2' p3' p4' (rs_2 hrs hrs2)
            rw [show c0 + cntT (tF q B S x y) a b = c0 + cntT x a b + cntT y a b from (Nat.add_assoc _ _ _).symm, show min l0 (llT (tF q B S x y) a b) = min (min l0 (llT x a b)) (llT y a b) from (Nat.min_assoc _ _ _).symm, show min h0 (lhT (tF q B S x y) f t a b) = min (min h0 (lhT x S (S + 2 ^ (15 - B) - 1) a b)) (lhT y (S + 2 ^ (15 - B)) (S + 2 ^ (16 - B) - 1) a b) from (Nat.min_assoc _ _ _).symm, show m0 + hmT (tF q B S x y) = m0 + hmT x + hmT y from (Nat.add_assoc _ _ _).symm] at h9
            exact h9
        · exact absurd (hk1.symm.trans h167) (by decide)
      · exact absurd (hk1.symm.trans h95) (by decide)
end
section
variable {l : Launch} {D : va_G} {ca : Nat → ClassId} {ad : Nat → Nat} {N : Heap → Prop} {pa : Nat → Int32} {va : Nat → Int64} {sz : Nat → Int32} {fr : Nat → Int32} {tw : Nat → Int32} {ta : Nat → Int32} {wd : Nat → Int64} {wb : Nat → Int32} {wp : Nat → Int32} {ou : Nat → Int32} {o1 : Nat → Int32} {o2 : Nat → Int32} {pf : Nat → Int32} {pt : Nat → Int32} {ki : Nat → Int32} {bi : Nat → Int32} {ste : Nat → Int32} {hel : Nat → Int64} {low : Nat → Int32} {hgh : Nat → Int32} {su : Nat → Int64} {ro : Nat → Int32} {fe : Nat → Int32} {vs : Int32} {wn : Int32} {tp : Int32} {dp : Int32} {la : Int32} {rst : Int32} {hlf : Int32} {nd : Int32} {rt : Int32} {frd : Int32} {fa : Int32} {at_ : Int32} {end_ : Int32} {ab : Int32} {fo : Int64} {co : Int32} {ll : Int32} {lh : Int32} {hm : Int32}
set_option maxRecDepth 100000 in
set_option maxHeartbeats 4000000 in
theorem kX9_goThrough (hAD : AD ad 24) (hN : NS D N) {U : Term} (hgd : gdV (ki, bi, ste, hel, low, hgh) U) (hfit : fitT U 16) (hn8 : nodT U ≤ 800) {a b : Nat} (ha : a < 65536) (hb : b < 65536) (hab : a ≤ b) : Ct l yX9_goThrough cX9_goThrough 7 none (rK 2 0 0) D ca ad (mW pa va sz fr tw ta wd wb wp ou o1 o2 pf pt ki bi ste hel low hgh su ro fe vs wn tp dp la rst hlf nd (nI (adr U)) frd fa at_ end_ ab fo co ll lh hm) 24 [.ref 0, .int (nI a), .int (nI b)] N (fun r ws2 H => ∃ (p1 p2 p3 p4 : Nat → Int32), (r = none ∧ ws2 = (mW pa va sz fr tw ta wd wb wp ou p1 p2 p3 p4 ki bi ste hel low hgh su ro fe vs wn tp dp la 0 hlf nd (nI (adr U)) frd fa at_ end_ ab fo (nI (cntT U a b)) (nI (llT U a b)) (nI (lhT U 0 65535 a b)) (nI (hmT U)))) ∧ N H) := by
  have hbU : adr U < 1600 := hgd.2.2 _ (adr_ids _ hgd.1)
  refine enter (lv := [(0, .ref 0), (1, .int (nI a)), (2, .int (nI b))]) (by decide +kernel) (Nat.le_of_ble_eq_true rfl) rfl hAD (fun U hK => ns_write hK hN) ?_
  intro p e s m below meth c A args hA C hr hlk hnm
  refine sg0 C foX9 coX9 oX9_goThrough_0 rfl rfl rfl ?_
  refine cl_v C (kX9_rest hAD hN (r := 0) (by decide) (nI (adr U)) 0 0 65535) (rcv (ci := 8) C.2.1 rfl rfl) cd_X9_rest in_X9 ml_X9_153 im_X9_rest se_X9_rest hd_X9_rest rfl rfl ⟨(Nat.le_of_ble_eq_true rfl), (Nat.le_of_ble_eq_true rfl)⟩ ⟨(Nat.le_of_ble_eq_true rfl), (Nat.le_of_ble_eq_true rfl)⟩ (Nat.le_of_ble_eq_true rfl) jX9_goThrough_36 (fun v ws' => Wa.and (fun hv => ?_))
  obtain ⟨rfl, rfl⟩ := hv
  refine gt_tree C hAD hN ⟨(Nat.le_of_ble_eq_true rfl), (Nat.le_of_ble_eq_true rfl), (Nat.le_of_ble_eq_true rfl), (Nat.le_of_ble_eq_true rfl)⟩ ha hb U hgd.1 16 0 0 65535 0 70000 70000 0 _ _ _ _ hgd hfit (by decide) (by decide) (by decide) (by decide) (if_pos rfl) (if_pos rfl) (if_pos rfl) (by omega) (by omega) (by decide) (by decide) (fun p1 p2 p3 p4 _ => ?_)
  rw [Nat.zero_add (cntT U a b), Nat.zero_add (hmT U), show min 70000 (llT U a b) = llT U a b by have := ll_le U hgd.1 (a := a) hb; omega, show min 70000 (lhT U 0 65535 a b) = lhT U 0 65535 a b by have := (lh_hid U hgd.1 hab hb 16 0 65535 hfit (by decide)).2; omega]
  refine sg0 C foX9 coX9 oX9_goThrough_39 rfl rfl rfl ?_
  refine b1_le (tgt := 315) C jX9_goThrough_43 (by decide) (fun h43 => ?_) (fun h43 => ?_)
  · exact rt_v C hr hlk jX9_goThrough_315 (fun H hH => ⟨p1, p2, p3, p4, ⟨rfl, rfl⟩, hH⟩)
  · exact absurd (by decide) h43
set_option maxRecDepth 100000 in
set_option maxHeartbeats 4000000 in
theorem kX9_count (hAD : AD ad 24) (hN : NS D N) {U : Term} (hgd : gdV (ki, bi, ste, hel, low, hgh) U) (hfit : fitT U 16) (hn8 : nodT U ≤ 800) {a b : Nat} (ha : a < 65536) (hb : b < 65536) (hab : a ≤ b) : Ct l yX9_count cX9_count 3 (some .int) (rK 3 0 0) D ca ad (mW pa va sz fr tw ta wd wb wp ou o1 o2 pf pt ki bi ste hel low hgh su ro fe vs wn tp dp la rst hlf nd (nI (adr U)) frd fa at_ end_ ab fo co ll lh hm) 24 [.ref 0, .int (nI a), .int (nI b)] N (fun r ws2 H => ∃ (p1 p2 p3 p4 : Nat → Int32), (r = some (.int (if hidT U 0 65535 a b = 0 then nI (cntT U a b) else -4)) ∧ ws2 = (mW pa va sz fr tw ta wd wb wp ou p1 p2 p3 p4 ki bi ste hel low hgh su ro fe vs wn tp dp la 0 hlf nd (nI (adr U)) frd fa at_ end_ ab fo (nI (cntT U a b)) (nI (llT U a b)) (nI (lhT U 0 65535 a b)) (nI (hmT U)))) ∧ N H) := by
  have hbU : adr U < 1600 := hgd.2.2 _ (adr_ids _ hgd.1)
  have hA1 : 0 ≤ nI a ∧ nI a ≤ 65535 := ⟨show nI 0 ≤ nI a from nI_le (by omega) (by omega), show nI a ≤ nI 65535 from nI_le (by omega) (by decide)⟩
  have hB1 : 0 ≤ nI b ∧ nI b ≤ 65535 := ⟨show nI 0 ≤ nI b from nI_le (by omega) (by omega), show nI b ≤ nI 65535 from nI_le (by omega) (by decide)⟩
  refine enter (lv := [(0, .ref 0), (1, .int (nI a)), (2, .int (nI b))]) (by decide +kernel) (Nat.le_of_ble_eq_true rfl) rfl hAD (fun U hK => ns_write hK hN) ?_
  intro p e s m below meth c A args hA C hr hlk hnm
  refine sg0 C foX9 coX9 oX9_count_0 rfl rfl rfl ?_
  refine cl_s C (kX9_isPath hAD rfl hN (nI a)) cd_X9_isPath in_X9 ml_X9_101 sm_X9_isPath hd_X9_isPath rfl rfl ⟨(Nat.le_of_ble_eq_true rfl), (Nat.le_of_ble_eq_true rfl)⟩ ⟨(Nat.le_of_ble_eq_true rfl), (Nat.le_of_ble_eq_true rfl)⟩ (Nat.le_of_ble_eq_true rfl) jX9_count_1 (fun v ws' => Wa.and (fun hv => ?_))
  obtain ⟨rfl, rfl⟩ := hv
  refine b1_eq (tgt := 19) C jX9_count_4 (by decide) (fun h4 => ?_) (fun h4 => ?_)
  · exact absurd h4 (by rw [if_pos hA1]; decide)
  · refine sg0 C foX9 coX9 oX9_count_7 rfl rfl rfl ?_
    refine cl_s C (kX9_isPath hAD rfl hN (nI b)) cd_X9_isPath in_X9 ml_X9_101 sm_X9_isPath hd_X9_isPath rfl rfl ⟨(Nat.le_of_ble_eq_true rfl), (Nat.le_of_ble_eq_true rfl)⟩ ⟨(Nat.le_of_ble_eq_true rfl), (Nat.le_of_ble_eq_true rfl)⟩ (Nat.le_of_ble_eq_true rfl) jX9_count_8 (fun v ws' => Wa.and (fun hv => ?_))
    obtain ⟨rfl, rfl⟩ := hv
    refine b1_eq (tgt := 19) C jX9_count_11 (by decide) (fun h11 => ?_) (fun h11 => ?_)
    · exact absurd h11 (by rw [if_pos hB1]; decide)
    · refine sg0 C foX9 coX9 oX9_count_14 rfl rfl rfl ?_
      refine b2_le (tgt := 21) C jX9_count_16 (by decide) (fun h16 => ?_) (fun h16 => ?_)
      · refine sg0 C foX9 coX9 oX9_count_21 rfl rfl rfl ?_
        refine b2_ne (tgt := 33) C jX9_count_27 (by decide) (fun h27 => ?_) (fun h27 => ?_)
        · refine sg0 C foX9 coX9 oX9_count_33 rfl rfl rfl ?_
          refine cl_v C (kX9_goThrough hAD hN hgd hfit hn8 ha hb hab) (rcv (ci := 8) C.2.1 rfl rfl) cd_X9_goThrough in_X9 ml_X9_233 im_X9_goThrough se_X9_goThrough hd_X9_goThrough rfl rfl ⟨(Nat.le_of_ble_eq_true rfl), (Nat.le_of_ble_eq_true rfl)⟩ ⟨(Nat.le_of_ble_eq_true rfl), (Nat.le_of_ble_eq_true rfl)⟩ (Nat.le_of_ble_eq_true rfl) jX9_count_36 (fun v ws' => Wa.ex (fun p1 => Wa.ex (fun p2 => Wa.ex (fun p3 => Wa.ex (fun p4 => Wa.and (fun hv => ?_))))))
          obtain ⟨rfl, rfl⟩ := hv
          refine sg0 C foX9 coX9 oX9_count_39 rfl rfl rfl ?_
          refine b2_ge (tgt := 53) C jX9_count_45 (by decide) (fun h45 => ?_) (fun h45 => ?_)
          · have e1 : hidT U 0 65535 a b = 0 := Nat.eq_zero_of_not_pos fun q9 => absurd h45 (show ¬ nI 70000 ≤ nI (lhT U 0 65535 a b) from nI_ge ((lh_hid U hgd.1 hab hb 16 0 65535 hfit (by decide)).1.mpr q9) (by decide))
            refine sg0 C foX9 coX9 oX9_count_53 rfl rfl rfl ?_
            exact rt_i C hr hlk jX9_count_57 (fun H hH => ⟨p1, p2, p3, p4, ⟨by rw [if_pos e1], rfl⟩, hH⟩)
          · have e1 : ¬ hidT U 0 65535 a b = 0 := fun q9 => h45 (show nI 70000 ≤ nI (lhT U 0 65535 a b) from nI_le (Nat.not_lt.mp fun q8 => absurd ((lh_hid U hgd.1 hab hb 16 0 65535 hfit (by decide)).1.mp q8) (by omega)) (by have := (lh_hid U hgd.1 hab hb 16 0 65535 hfit (by decide)).2; omega))
            refine sg0 C foX9 coX9 oX9_count_48 rfl rfl rfl ?_
            exact rt_i C hr hlk jX9_count_57 (fun H hH => ⟨p1, p2, p3, p4, ⟨by rw [if_neg e1], rfl⟩, hH⟩)
        · exact absurd h27 (nI_m2 (by omega))
      · exact absurd (nI_le hab (by omega)) h16
set_option maxRecDepth 100000 in
set_option maxHeartbeats 4000000 in
theorem kX9_count_none (hAD : AD ad 24) (hN : NS D N) {a b : Nat} (ha : a < 65536) (hb : b < 65536) (hab : a ≤ b) : Ct l yX9_count cX9_count 3 (some .int) (rK 1 0 0) D ca ad (mW pa va sz fr tw ta wd wb wp ou o1 o2 pf pt ki bi ste hel low hgh su ro fe vs wn tp dp la rst hlf nd (-2) frd fa at_ end_ ab fo co ll lh hm) 24 [.ref 0, .int (nI a), .int (nI b)] N (pG (mW pa va sz fr tw ta wd wb wp ou o1 o2 pf pt ki bi ste hel low hgh su ro fe vs wn tp dp la rst hlf nd (-2) frd fa at_ end_ ab fo co ll lh hm) N (some (.int (-2)))) := by
  have hA1 : 0 ≤ nI a ∧ nI a ≤ 65535 := ⟨show nI 0 ≤ nI a from nI_le (by omega) (by omega), show nI a ≤ nI 65535 from nI_le (by omega) (by decide)⟩
  have hB1 : 0 ≤ nI b ∧ nI b ≤ 65535 := ⟨show nI 0 ≤ nI b from nI_le (by omega) (by omega), show nI b ≤ nI 65535 from nI_le (by omega) (by decide)⟩
  refine enter (lv := [(0, .ref 0), (1, .int (nI a)), (2, .int (nI b))]) (by decide +kernel) (Nat.le_of_ble_eq_true rfl) rfl hAD (fun U hK => ns_write hK hN) ?_
  intro p e s m below meth c A args hA C hr hlk hnm
  refine sg0 C foX9 coX9 oX9_count_0 rfl rfl rfl ?_
  refine cl_s C (kX9_isPath hAD rfl hN (nI a)) cd_X9_isPath in_X9 ml_X9_101 sm_X9_isPath hd_X9_isPath rfl rfl ⟨(Nat.le_of_ble_eq_true rfl), (Nat.le_of_ble_eq_true rfl)⟩ ⟨(Nat.le_of_ble_eq_true rfl), (Nat.le_of_ble_eq_true rfl)⟩ (Nat.le_of_ble_eq_true rfl) jX9_count_1 (fun v ws' => Wa.and (fun hv => ?_))
  obtain ⟨rfl, rfl⟩ := hv
  refine b1_eq (tgt := 19) C jX9_count_4 (by decide) (fun h4 => ?_) (fun h4 => ?_)
  · exact absurd h4 (by rw [if_pos hA1]; decide)
  · refine sg0 C foX9 coX9 oX9_count_7 rfl rfl rfl ?_
    refine cl_s C (kX9_isPath hAD rfl hN (nI b)) cd_X9_isPath in_X9 ml_X9_101 sm_X9_isPath hd_X9_isPath rfl rfl ⟨(Nat.le_of_ble_eq_true rfl), (Nat.le_of_ble_eq_true rfl)⟩ ⟨(Nat.le_of_ble_eq_true rfl), (Nat.le_of_ble_eq_true rfl)⟩ (Nat.le_of_ble_eq_true rfl) jX9_count_8 (fun v ws' => Wa.and (fun hv => ?_))
    obtain ⟨rfl, rfl⟩ := hv
    refine b1_eq (tgt := 19) C jX9_count_11 (by decide) (fun h11 => ?_) (fun h11 => ?_)
    · exact absurd h11 (by rw [if_pos hB1]; decide)
    · refine sg0 C foX9 coX9 oX9_count_14 rfl rfl rfl ?_
      refine b2_le (tgt := 21) C jX9_count_16 (by decide) (fun h16 => ?_) (fun h16 => ?_)
      · refine sg0 C foX9 coX9 oX9_count_21 rfl rfl rfl ?_
        refine b2_ne (tgt := 33) C jX9_count_27 (by decide) (fun h27 => ?_) (fun h27 => ?_)
        · exact absurd rfl h27
        · refine sg0 C foX9 coX9 oX9_count_30 rfl rfl rfl ?_
          exact rt_i C hr hlk jX9_count_32 (fun H hN => ⟨⟨rfl, rfl⟩, hN⟩)
      · exact absurd (nI_le hab (by omega)) h16
set_option maxRecDepth 100000 in
set_option maxHeartbeats 4000000 in
theorem kX9_count_bad (hAD : AD ad 24) (hN : NS D N) (x y : Int32) (hx : ¬ ((0 ≤ x ∧ x ≤ 65535) ∧ (0 ≤ y ∧ y ≤ 65535) ∧ x ≤ y)) : Ct l yX9_count cX9_count 3 (some .int) (rK 1 0 0) D ca ad (mW pa va sz fr tw ta wd wb wp ou o1 o2 pf pt ki bi ste hel low hgh su ro fe vs wn tp dp la rst hlf nd rt frd fa at_ end_ ab fo co ll lh hm) 24 [.ref 0, .int x, .int y] N (pG (mW pa va sz fr tw ta wd wb wp ou o1 o2 pf pt ki bi ste hel low hgh su ro fe vs wn tp dp la rst hlf nd rt frd fa at_ end_ ab fo co ll lh hm) N (some (.int (-1)))) := by
  refine enter (lv := [(0, .ref 0), (1, .int x), (2, .int y)]) (by decide +kernel) (Nat.le_of_ble_eq_true rfl) rfl hAD (fun U hK => ns_write hK hN) ?_
  intro p e s m below meth c A args hA C hr hlk hnm
  refine sg0 C foX9 coX9 oX9_count_0 rfl rfl rfl ?_
  refine cl_s C (kX9_isPath hAD rfl hN x) cd_X9_isPath in_X9 ml_X9_101 sm_X9_isPath hd_X9_isPath rfl rfl ⟨(Nat.le_of_ble_eq_true rfl), (Nat.le_of_ble_eq_true rfl)⟩ ⟨(Nat.le_of_ble_eq_true rfl), (Nat.le_of_ble_eq_true rfl)⟩ (Nat.le_of_ble_eq_true rfl) jX9_count_1 (fun v ws' => Wa.and (fun hv => ?_))
  obtain ⟨rfl, rfl⟩ := hv
  refine b1_eq (tgt := 19) C jX9_count_4 (by decide) (fun h4 => ?_) (fun h4 => ?_)
  · refine sg0 C foX9 coX9 oX9_count_19 rfl rfl rfl ?_
    exact rt_i C hr hlk jX9_count_20 (fun H hN => ⟨⟨rfl, rfl⟩, hN⟩)
  · have e1 : (0 ≤ x ∧ x ≤ 65535) := Decidable.byContradiction fun e9 => h4 (if_neg e9)
    refine sg0 C foX9 coX9 oX9_count_7 rfl rfl rfl ?_
    refine cl_s C (kX9_isPath hAD rfl hN y) cd_X9_isPath in_X9 ml_X9_101 sm_X9_isPath hd_X9_isPath rfl rfl ⟨(Nat.le_of_ble_eq_true rfl), (Nat.le_of_ble_eq_true rfl)⟩ ⟨(Nat.le_of_ble_eq_true rfl), (Nat.le_of_ble_eq_true rfl)⟩ (Nat.le_of_ble_eq_true rfl) jX9_count_8 (fun v ws' => Wa.and (fun hv => ?_))
    obtain ⟨rfl, rfl⟩ := hv
    refine b1_eq (tgt := 19) C jX9_count_11 (by decide) (fun h11 => ?_) (fun h11 => ?_)
    · refine sg0 C foX9 coX9 oX9_count_19 rfl rfl rfl ?_
      exact rt_i C hr hlk jX9_count_20 (fun H hN => ⟨⟨rfl, rfl⟩, hN⟩)
    · have e2 : (0 ≤ y ∧ y ≤ 65535) := Decidable.byContradiction fun e9 => h11 (if_neg e9)
      refine sg0 C foX9 coX9 oX9_count_14 rfl rfl rfl ?_
      refine b2_le (tgt := 21) C jX9_count_16 (by decide) (fun h16 => ?_) (fun h16 => ?_)
      · exact absurd ⟨e1, e2, h16⟩ hx
      · refine sg0 C foX9 coX9 oX9_count_19 rfl rfl rfl ?_
        exact rt_i C hr hlk jX9_count_20 (fun H hN => ⟨⟨rfl, rfl⟩, hN⟩)
set_option maxRecDepth 100000 in
set_option maxHeartbeats 4000000 in
theorem kX9_next (hAD : AD ad 24) (hN : NS D N) {U : Term} (hgd : gdV (ki, bi, ste, hel, low, hgh) U) (hfit : fitT U 16) (hn8 : nodT U ≤ 800) (hok : okW U) {a : Nat} (ha : a < 65536) : Ct l yX9_next cX9_next 2 (some .int) (rK 3 0 0) D ca ad (mW pa va sz fr tw ta wd wb wp ou o1 o2 pf pt ki bi ste hel low hgh su ro fe vs wn tp dp la rst hlf nd (nI (adr U)) frd fa at_ end_ ab fo co ll lh hm) 24 [.ref 0, .int (nI a)] N (fun r ws2 H => ∃ (p1 p2 p3 p4 : Nat → Int32), (r = some (.int (lstT U 65535 a)) ∧ ws2 = (mW pa va sz fr tw ta wd wb wp ou p1 p2 p3 p4 ki bi ste hel low hgh su ro fe vs wn tp dp la 0 hlf nd (nI (adr U)) frd fa at_ end_ ab fo (nI (cntT U a 65535)) (nI (llT U a 65535)) (nI (lhT U 0 65535 a 65535)) (nI (hmT U)))) ∧ N H) := by
  have hbU : adr U < 1600 := hgd.2.2 _ (adr_ids _ hgd.1)
  have hA1 : 0 ≤ nI a ∧ nI a ≤ 65535 := ⟨show nI 0 ≤ nI a from nI_le (by omega) (by omega), show nI a ≤ nI 65535 from nI_le (by omega) (by decide)⟩
  obtain ⟨hc1, hc2, hcase⟩ : (llT U a 65535 ≤ 70000) ∧ (lhT U 0 65535 a 65535 ≤ 70000) ∧ ((lstT U 65535 a = -2 ∧ llT U a 65535 = 70000 ∧ lhT U 0 65535 a 65535 = 70000) ∨ (lstT U 65535 a = -4 ∧ lhT U 0 65535 a 65535 < llT U a 65535) ∨ (lstT U 65535 a = nI (llT U a 65535) ∧ llT U a 65535 < 65536 ∧ llT U a 65535 < lhT U 0 65535 a 65535)) := by
    refine ⟨ll_le U hgd.1 (by decide), (lh_hid U hgd.1 (show a ≤ 65535 by omega) (by decide) 16 0 65535 hfit (by decide)).2, ?_⟩
    rcases hok with h | h
    · rcases shp U hgd.1 with ⟨q, rfl⟩ | ⟨q, d, rfl⟩ | ⟨q, p, v, rfl⟩ | ⟨q, B, S, x, y, rfl⟩
      · exact Or.inl ⟨rfl, rfl, rfl⟩
      · exact absurd h (by simp [strp])
      · exact absurd h (by simp [strp])
      · exact absurd h (by simp [strp])
    · exact (nxt U hgd.1 ha 0 16 h (by decide)).2.2
  refine enter (lv := [(0, .ref 0), (1, .int (nI a))]) (by decide +kernel) (Nat.le_of_ble_eq_true rfl) rfl hAD (fun U hK => ns_write hK hN) ?_
  intro p e s m below meth c A args hA C hr hlk hnm
  refine sg0 C foX9 coX9 oX9_next_0 rfl rfl rfl ?_
  refine cl_s C (kX9_isPath hAD rfl hN (nI a)) cd_X9_isPath in_X9 ml_X9_101 sm_X9_isPath hd_X9_isPath rfl rfl ⟨(Nat.le_of_ble_eq_true rfl), (Nat.le_of_ble_eq_true rfl)⟩ ⟨(Nat.le_of_ble_eq_true rfl), (Nat.le_of_ble_eq_true rfl)⟩ (Nat.le_of_ble_eq_true rfl) jX9_next_1 (fun v ws' => Wa.and (fun hv => ?_))
  obtain ⟨rfl, rfl⟩ := hv
  refine b1_eq (tgt := 16) C jX9_next_4 (by decide) (fun h4 => ?_) (fun h4 => ?_)
  · exact absurd h4 (by rw [if_pos hA1]; decide)
  · refine sg0 C foX9 coX9 oX9_next_7 rfl rfl rfl ?_
    refine b2_ne (tgt := 30) C jX9_next_13 (by decide) (fun h13 => ?_) (fun h13 => ?_)
    · refine sg0 C foX9 coX9 oX9_next_30 rfl rfl rfl ?_
      refine cl_v C (kX9_goThrough hAD hN hgd hfit hn8 ha (b := 65535) (by decide) (by omega)) (rcv (ci := 8) C.2.1 rfl rfl) cd_X9_goThrough in_X9 ml_X9_233 im_X9_goThrough se_X9_goThrough hd_X9_goThrough rfl rfl ⟨(Nat.le_of_ble_eq_true rfl), (Nat.le_of_ble_eq_true rfl)⟩ ⟨(Nat.le_of_ble_eq_true rfl), (Nat.le_of_ble_eq_true rfl)⟩ (Nat.le_of_ble_eq_true rfl) jX9_next_34 (fun v ws' => Wa.ex (fun p1 => Wa.ex (fun p2 => Wa.ex (fun p3 => Wa.ex (fun p4 => Wa.and (fun hv => ?_))))))
      obtain ⟨rfl, rfl⟩ := hv
      refine sg0 C foX9 coX9 oX9_next_37 rfl rfl rfl ?_
      refine b2_ge (tgt := 53) C jX9_next_45 (by decide) (fun h45 => ?_) (fun h45 => ?_)
      · have e1 : llT U a 65535 ≤ lhT U 0 65535 a 65535 := (nI_leI (by omega) (by omega)).mp h45
        refine sg0 C foX9 coX9 oX9_next_53 rfl rfl rfl ?_
        refine b2_ge (tgt := 69) C jX9_next_59 (by decide) (fun h59 => ?_) (fun h59 => ?_)
        · have e2 : 70000 ≤ llT U a 65535 := (nI_leI (by decide) (by omega)).mp (show nI 70000 ≤ _ from h59)
          refine sg0 C foX9 coX9 oX9_next_69 rfl rfl rfl ?_
          exact rt_i C hr hlk jX9_next_71 (fun H hH => ⟨p1, p2, p3, p4, ⟨by rw [show lstT U 65535 a = -2 from by rcases hcase with ⟨z1, z2, z3⟩ | ⟨z1, z2⟩ | ⟨z1, z2, z3⟩ <;> first | exact z1 | omega], rfl⟩, hH⟩)
        · have e2 : ¬ 70000 ≤ llT U a 65535 := fun q9 => h59 (show nI 70000 ≤ _ from nI_le q9 (by omega))
          refine sg0 C foX9 coX9 oX9_next_62 rfl rfl rfl ?_
          exact rt_i C hr hlk jX9_next_71 (fun H hH => ⟨p1, p2, p3, p4, ⟨by rw [show lstT U 65535 a = nI (llT U a 65535) from by rcases hcase with ⟨z1, z2, z3⟩ | ⟨z1, z2⟩ | ⟨z1, z2, z3⟩ <;> first | exact z1 | omega], rfl⟩, hH⟩)
      · have e1 : ¬ llT U a 65535 ≤ lhT U 0 65535 a 65535 := fun q9 => h45 (nI_le q9 (by omega))
        refine sg0 C foX9 coX9 oX9_next_48 rfl rfl rfl ?_
        exact rt_i C hr hlk jX9_next_71 (fun H hH => ⟨p1, p2, p3, p4, ⟨by rw [show lstT U 65535 a = -4 from by rcases hcase with ⟨z1, z2, z3⟩ | ⟨z1, z2⟩ | ⟨z1, z2, z3⟩ <;> first | exact z1 | omega], rfl⟩, hH⟩)
    · exact absurd h13 (nI_m2 (by omega))
end
