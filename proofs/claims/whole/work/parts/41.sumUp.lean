/-! the model: the sum of a view -/
theorem vt_nF {V : VA} {T : Term} (h : gdV V T) (hF : ¬ isF T = true) : ¬ V.1 (adr T) = 1 ∧ kids T = [] := by
  obtain ⟨h1, h2, -⟩ := h
  rcases shp T h1 with ⟨q, rfl⟩ | ⟨q, d, rfl⟩ | ⟨q, p, v, rfl⟩ | ⟨q, B, S, x, y, rfl⟩
  · exact ⟨fun h => k13 (h.symm.trans h2), rfl⟩
  · exact ⟨fun h => k01 (h2.1.symm.trans h), rfl⟩
  · exact ⟨fun h => k12 (h.symm.trans h2.1), rfl⟩
  · exact absurd rfl hF
theorem vt_F {T : Term} (hT : isT T) (hF : isF T = true) : ∃ q B S x y, T = tF q B S x y := by
  rcases shp T hT with ⟨q, rfl⟩ | ⟨q, d, rfl⟩ | ⟨q, p, v, rfl⟩ | ⟨q, B, S, x, y, rfl⟩
  · cases hF
  · cases hF
  · cases hF
  · exact ⟨q, B, S, x, y, rfl⟩
def roR (ro : Nat → Int32) (L : List Term) : Prop := ∀ j T, L[j]? = some T → ro j = nI (adr T)
theorem roR_two {ro : Nat → Int32} {A C : List Term} {T x y : Term} {n : Nat} (h : roR ro (A ++ T :: C)) (hn : n = (A ++ T :: C).length) (hk : kids T = [x, y]) : roR (upd (upd ro n (nI (adr x))) (n + 1) (nI (adr y))) (A ++ [T] ++ (C ++ kids T)) := by
  intro j Z hj
  rw [hk, show A ++ [T] ++ (C ++ [x, y]) = (A ++ T :: C) ++ [x, y] by simp] at hj
  by_cases h1 : j < n
  · rw [List.getElem?_append_left (by omega)] at hj
    have := h j Z hj
    simp only [upd, if_neg (show ¬ j = n + 1 by omega), if_neg (show ¬ j = n by omega)]
    exact this
  · rw [List.getElem?_append_right (by omega)] at hj
    by_cases h2 : j = n
    · subst h2
      rw [show j - (A ++ T :: C).length = 0 by omega] at hj
      have hj : x = Z := Option.some.inj hj
      subst hj
      simp only [upd, if_neg (show ¬ j = j + 1 by omega), if_pos]
    · by_cases h3 : j = n + 1
      · subst h3
        rw [show n + 1 - (A ++ T :: C).length = 1 by omega] at hj
        have hj : y = Z := Option.some.inj hj
        subst hj
        simp only [upd, if_pos]
      · rw [List.getElem?_eq_none (by show 2 ≤ j - (A ++ T :: C).length; omega)] at hj
        cases hj
section
variable {p : Program} {l : Launch} {e : Env} {R : Room} {s : State} {m : MethodId} {args : Array Value} {below : List Frame} {meth : Method} {c : Code} {cells slots : Nat} {QQ : State → Prop} {D : va_G} {ca : Nat → ClassId} {ad : Nat → Nat} {A : Nat → Prop} {N : Heap → Prop} {pa : Nat → Int32} {va : Nat → Int64} {sz : Nat → Int32} {fr : Nat → Int32} {tw : Nat → Int32} {ta : Nat → Int32} {wd : Nat → Int64} {wb : Nat → Int32} {wp : Nat → Int32} {ou : Nat → Int32} {o1 : Nat → Int32} {o2 : Nat → Int32} {pf : Nat → Int32} {pt : Nat → Int32} {ki : Nat → Int32} {bi : Nat → Int32} {ste : Nat → Int32} {hel : Nat → Int64} {low : Nat → Int32} {hgh : Nat → Int32} {su : Nat → Int64} {ro : Nat → Int32} {fe : Nat → Int32} {vs : Int32} {wn : Int32} {tp : Int32} {dp : Int32} {la : Int32} {rst : Int32} {hlf : Int32} {nd : Int32} {rt : Int32} {frd : Int32} {fa : Int32} {at_ : Int32} {end_ : Int32} {ab : Int32} {fo : Int64} {co : Int32} {ll : Int32} {lh : Int32} {hm : Int32}
set_option maxRecDepth 100000 in
set_option maxHeartbeats 4000000 in
theorem su_1 (C : Cx p s m args c cX9_sumUp 5 RX9 D ca ad A N 24) {U : Term} (hn : nodT U ≤ 800) (hK : ∀ (ro : Nat → Int32) (L : List Term), roR ro L → (∀ T ∈ L, gdV (ki, bi, ste, hel, low, hgh) T) → clo L [] → L.length ≤ 800 → U ∈ L → Wa p l e R s m args below meth c cells slots QQ D ca ad A 5 N ([(0, .ref 0), (1, .int (nI (adr U))), (2, .int (nI L.length)), (3, .int (nI L.length - 1))], [], (mW pa va sz fr tw ta wd wb wp ou o1 o2 pf pt ki bi ste hel low hgh su ro fe vs wn tp dp la rst hlf nd rt frd fa at_ end_ ab fo co ll lh hm)) 76) : ∀ (z0 : Nat) (done pend : List Term) (ro : Nat → Int32), sumN pend = z0 → done.length + z0 = nodT U → roR ro (done ++ pend) → (∀ T ∈ done ++ pend, gdV (ki, bi, ste, hel, low, hgh) T) → clo done pend → U ∈ done ++ pend → Wa p l e R s m args below meth c cells slots QQ D ca ad A 5 N ([(0, .ref 0), (1, .int (nI (adr U))), (2, .int (nI (done ++ pend).length)), (3, .int (nI done.length))], [], (mW pa va sz fr tw ta wd wb wp ou o1 o2 pf pt ki bi ste hel low hgh su ro fe vs wn tp dp la rst hlf nd rt frd fa at_ end_ ab fo co ll lh hm)) 11 := by
  intro z0
  induction z0 with
  | zero =>
    intro done pend ro hm hs hR hG hc hU
    have hp : pend = [] := List.eq_nil_of_length_eq_zero (by have := sumN_len pend; omega)
    subst hp
    rw [List.append_nil] at hR hG hU ⊢
    refine sg0 C foX9 coX9 oX9_sumUp_11 rfl rfl rfl ?_
    refine b2_ge (tgt := 72) C jX9_sumUp_13 (by decide) (fun h13 => ?_) (fun h13 => ?_)
    · refine sg0 C foX9 coX9 oX9_sumUp_72 rfl rfl rfl ?_
      exact hK ro done hR hG hc (by omega) hU
    · exact absurd (Int32.le_refl _) h13
  | succ z0 ih =>
    intro done pend ro hm hs hR hG hc hU
    cases pend with
    | nil => exact absurd hm (by simp only [sumN]; omega)
    | cons T rest =>
      have hgd : gdV (ki, bi, ste, hel, low, hgh) T := hG T (by simp)
      have hsl := sumN_len (T :: rest)
      have hsk := sumN_kids T hgd.1
      have hsa := sumN_app rest (kids T)
      have hst : nodT T + sumN rest = z0 + 1 := hm
      have hln : (done ++ T :: rest).length = done.length + (rest.length + 1) := by simp
      have hl2 : (T :: rest).length = rest.length + 1 := rfl
      have hdl : (done ++ [T]).length = done.length + 1 := by simp
      have hro : ro done.length = nI (adr T) := hR _ T (by simp)
      have hb : adr T < 1600 := hgd.2.2 _ (adr_ids T hgd.1)
      have hcl : (nI done.length).toNatClampNeg = done.length := nI_clamp (by omega)
      have hcl2 : (nI (adr T)).toNatClampNeg = adr T := nI_clamp (by omega)
      by_cases hF : isF T = true
      rotate_left
      · obtain ⟨hk, hkd⟩ := vt_nF hgd hF
        have hk : ¬ ki (adr T) = 1 := hk
        refine sg0 C foX9 coX9 oX9_sumUp_11 rfl rfl rfl ?_
        refine b2_ge (tgt := 72) C jX9_sumUp_13 (by decide) (fun h13 => ?_) (fun h13 => ?_)
        · exact absurd h13 (nI_ge (by omega) (by omega))
        · refine sg C foX9 coX9 oX9_sumUp_16 rfl rfl rfl (by rw [hcl, hro]; exact ⟨vp_in_nI (by omega) (by decide), vp_in_nI (by omega) (by decide), trivial⟩) ?_
          rw [hcl, hro, hcl2]
          refine b2_ne (tgt := 66) C jX9_sumUp_32 (by decide) (fun h32 => ?_) (fun h32 => ?_)
          · refine sg0 C foX9 coX9 oX9_sumUp_66 rfl rfl rfl ?_
            refine Wa.lvp [0, 1, 2, 3] rfl ?_
            rw [nI_1]
            have h9 := ih (done ++ [T]) (rest ++ kids T) ro (by omega) (by omega) (by rw [hkd, List.append_nil, List.append_assoc]; exact hR) (by rw [hkd, List.append_nil, List.append_assoc]; exact hG) (clo_step hc) (by rw [hkd, List.append_nil, List.append_assoc]; exact hU)
            rw [hkd, List.append_nil, List.append_assoc, show (done ++ [T]).length = done.length + 1 by simp] at h9
            exact h9
          · exact absurd h32 hk
      · obtain ⟨q, B, S, x, y, hTe⟩ := vt_F hgd.1 hF
        have hkd : kids T = [x, y] := by rw [hTe]; rfl
        obtain ⟨hk, -, -, hlo, hhi⟩ : ki (adr T) = 1 ∧ bi (adr T) = nI B ∧ ste (adr T) = nI S ∧ low (adr T) = nI (adr x) ∧ hgh (adr T) = nI (adr y) := by have := hgd.2.1; rw [hTe] at this ⊢; exact this.1
        have hk2 : sumN (kids T) = nodT x + (nodT y + 0) := by rw [hkd]; rfl
        have := nod_pos x
        have := nod_pos y
        obtain ⟨n, hnl⟩ : ∃ n, n = (done ++ T :: rest).length := ⟨_, rfl⟩
        have hcl3 : (nI n).toNatClampNeg = n := nI_clamp (by omega)
        have hcl4 : (nI (n + 1)).toNatClampNeg = n + 1 := nI_clamp (by omega)
        rw [← hnl]
        refine sg0 C foX9 coX9 oX9_sumUp_11 rfl rfl rfl ?_
        refine b2_ge (tgt := 72) C jX9_sumUp_13 (by decide) (fun h13 => ?_) (fun h13 => ?_)
        · exact absurd h13 (nI_ge (by omega) (by omega))
        · refine sg C foX9 coX9 oX9_sumUp_16 rfl rfl rfl (by rw [hcl, hro]; exact ⟨vp_in_nI (by omega) (by decide), vp_in_nI (by omega) (by decide), trivial⟩) ?_
          rw [hcl, hro, hcl2]
          refine b2_ne (tgt := 66) C jX9_sumUp_32 (by decide) (fun h32 => ?_) (fun h32 => ?_)
          · exact absurd hk h32
          · refine sg C foX9 coX9 oX9_sumUp_35 rfl rfl rfl (by rw [nI_1]; exact ⟨vp_in_nI (by omega) (by decide), vp_in_nI (by omega) (by decide), vp_in_nI (by omega) (by decide), vp_in_nI (by omega) (by decide), trivial⟩) ?_
            refine sg0 C foX9 coX9 oX9_sumUp_66 rfl rfl rfl ?_
            refine Wa.lvp [0, 1, 2, 3] rfl ?_
            rw [nI_1, nI_1, hcl3, hcl4, hcl2, hlo, hhi, show (2 : Int32) = nI 2 from rfl, nI_add]
            have h9 := ih (done ++ [T]) (rest ++ kids T) _ (by omega) (by omega) (roR_two hR hnl hkd) (fun z hz => ?_) (clo_step hc) (by rw [List.append_assoc]; simp only [List.mem_append] at hU ⊢; simp only [List.mem_cons, List.mem_singleton] at hU ⊢; rcases hU with h | h | h <;> simp [h])
            rotate_left
            · simp only [List.mem_append, List.mem_singleton] at hz
              rcases hz with (h | h) | (h | h)
              · exact hG z (by simp [h])
              · exact hG z (by simp [h])
              · exact hG z (by simp [h])
              · exact gd_kids hgd z h
            rw [show (done ++ [T]).length = done.length + 1 by simp, show (done ++ [T] ++ (rest ++ kids T)).length = n + 2 by rw [hnl]; rw [hkd]; simp; omega] at h9
            exact h9
set_option maxRecDepth 100000 in
set_option maxHeartbeats 4000000 in
theorem su_2 (C : Cx p s m args c cX9_sumUp 5 RX9 D ca ad A N 24) (hAD : AD ad 24) (hN : NS D N) (hR : 3 ≤ R.frames ∧ 120 ≤ R.locals ∧ cells ≤ R.cells ∧ slots ≤ R.slots) {U : Term} {L : List Term} (hL : roR ro L) (hG : ∀ T ∈ L, gdV (ki, bi, ste, hel, low, hgh) T) (hc : clo L []) (hl8 : L.length ≤ 800) (hK : ∀ su : Nat → Int64, (∀ T ∈ L, su (adr T) = dig T) → Wa p l e R s m args below meth c cells slots QQ D ca ad A 5 N ([(0, .ref 0), (1, .int (nI (adr U))), (2, .int (nI L.length)), (3, .int (-1))], [], (mW pa va sz fr tw ta wd wb wp ou o1 o2 pf pt ki bi ste hel low hgh su ro fe vs wn tp dp la rst hlf nd rt frd fa at_ end_ ab fo co ll lh hm)) 76) : ∀ (n : Nat) (A1 B1 : List Term) (su : Nat → Int64), A1.length = n → L = A1 ++ B1 → (∀ T ∈ B1, su (adr T) = dig T) → Wa p l e R s m args below meth c cells slots QQ D ca ad A 5 N ([(0, .ref 0), (1, .int (nI (adr U))), (2, .int (nI L.length)), (3, .int (nI n - 1))], [], (mW pa va sz fr tw ta wd wb wp ou o1 o2 pf pt ki bi ste hel low hgh su ro fe vs wn tp dp la rst hlf nd rt frd fa at_ end_ ab fo co ll lh hm)) 76 := by
  obtain ⟨hR1, hR2, hR3, hR4⟩ := hR
  intro n
  induction n with
  | zero =>
    intro A1 B1 su hA he hB
    have hA : A1 = [] := List.eq_nil_of_length_eq_zero hA
    subst hA
    have he : L = B1 := he
    subst he
    exact hK su hB
  | succ n ih =>
    intro A1 B1 su hA he hB
    rcases List.eq_nil_or_concat A1 with rfl | ⟨A1, T, rfl⟩
    · cases hA
    · rw [List.length_concat] at hA
      have he : L = A1 ++ T :: B1 := by rw [he]; simp
      have hgd : gdV (ki, bi, ste, hel, low, hgh) T := hG T (by rw [he]; simp)
      have hlen : L.length = A1.length + (B1.length + 1) := by rw [he]; simp
      have hro : ro n = nI (adr T) := hL n T (by rw [he, show n = A1.length by omega]; simp)
      have hb : adr T < 1600 := hgd.2.2 _ (adr_ids T hgd.1)
      have hcl : (nI n).toNatClampNeg = n := nI_clamp (by omega)
      have hcl2 : (nI (adr T)).toNatClampNeg = adr T := nI_clamp (by omega)
      have hp1 : nI (n + 1) - 1 = nI n := by rw [show (1 : Int32) = nI 1 from rfl, pk_sub (by omega)]; rfl
      have hB2 : ∀ z ∈ T :: B1, vp_updL su (adr T) (dig T) (adr z) = dig z := fun z hz => by
        by_cases h : adr z = adr T
        · have hz' : gdV (ki, bi, ste, hel, low, hgh) z := hG z (by rw [he]; simp at hz ⊢; rcases hz with h | h <;> simp [h])
          rw [h]
          exact (if_pos rfl).trans (vt_dig T hgd.1 z hz'.1 hgd.2.2 hz'.2.2 hgd.2.1 hz'.2.1 h.symm)
        · rcases List.mem_cons.mp hz with rfl | hz
          · exact absurd rfl h
          · exact (if_neg h).trans (hB z hz)
      have hIH := ih A1 (T :: B1) (vp_updL su (adr T) (dig T)) (by omega) he hB2
      have hkb := clo_at (A := A1) (T := T) (C := B1) (by rw [← he]; exact hc)
      rw [hp1]
      obtain ⟨gT, gv, gi⟩ := hgd
      rcases shp T gT with ⟨q, rfl⟩ | ⟨q, d, rfl⟩ | ⟨q, p, v, rfl⟩ | ⟨q, B0, S0, x, y, rfl⟩
      · have hk : ki (adr (tE q)) = 3 := gv
        refine sg0 C foX9 coX9 oX9_sumUp_76 rfl rfl rfl ?_
        refine b1_lt (tgt := 214) C jX9_sumUp_77 (by decide) (fun h77 => ?_) (fun h77 => ?_)
        · exact absurd h77 (Int32.not_lt.mpr (show nI 0 ≤ nI n from nI_le (by omega) (by omega)))
        · refine sg C foX9 coX9 oX9_sumUp_80 rfl rfl rfl (by rw [hcl, hro]; exact ⟨vp_in_nI (by omega) (by decide), vp_in_nI (by omega) (by decide), trivial⟩) ?_
          rw [hcl, hro, hcl2]
          refine b1_ne (tgt := 114) C jX9_sumUp_101 (by decide) (fun h101 => ?_) (fun h101 => ?_)
          · refine sg C foX9 coX9 oX9_sumUp_114 rfl rfl rfl ⟨vp_in_nI (by omega) (by decide), trivial⟩ ?_
            rw [hcl2]
            refine b2_ne (tgt := 145) C jX9_sumUp_122 (by decide) (fun h122 => ?_) (fun h122 => ?_)
            · refine sg C foX9 coX9 oX9_sumUp_145 rfl rfl rfl ⟨vp_in_nI (by omega) (by decide), trivial⟩ ?_
              rw [hcl2]
              refine b2_ne (tgt := 166) C jX9_sumUp_153 (by decide) (fun h153 => ?_) (fun h153 => ?_)
              · exact absurd hk h153
              · refine sg0 C foX9 coX9 oX9_sumUp_156 rfl rfl rfl ?_
                refine cl_s C (kX9_mix hAD rfl hN 0 3) cd_X9_mix in_X9 ml_X9_92 sm_X9_mix hd_X9_mix rfl rfl ⟨by show 0 + 1 ≤ R.frames; omega, by show 8 + (6 + 11) + 40 * 0 ≤ R.locals; omega⟩ ⟨by show cells + 0 ≤ R.cells; omega, by show slots + 0 ≤ R.slots; omega⟩ (Nat.le_of_ble_eq_true rfl) jX9_sumUp_160 (fun v ws' => Wa.and (fun hv => ?_))
                obtain ⟨rfl, rfl⟩ := hv
                refine sg0 C foX9 coX9 oX9_sumUp_163 rfl rfl rfl ?_
                refine sg C foX9 coX9 oX9_sumUp_207 rfl rfl rfl ⟨vp_in_nI (by omega) (by decide), trivial⟩ ?_
                refine Wa.lvp [0, 1, 2, 3] rfl ?_
                rw [sub_m1, hcl2]
                exact hIH
            · exact absurd (hk.symm.trans h122) (by decide)
          · exact absurd (hk.symm.trans h101) (by decide)
      · have hk : hel (adr (tH q d)) = d := gv.2
        refine sg0 C foX9 coX9 oX9_sumUp_76 rfl rfl rfl ?_
        refine b1_lt (tgt := 214) C jX9_sumUp_77 (by decide) (fun h77 => ?_) (fun h77 => ?_)
        · exact absurd h77 (Int32.not_lt.mpr (show nI 0 ≤ nI n from nI_le (by omega) (by omega)))
        · refine sg C foX9 coX9 oX9_sumUp_80 rfl rfl rfl (by rw [hcl, hro]; exact ⟨vp_in_nI (by omega) (by decide), vp_in_nI (by omega) (by decide), trivial⟩) ?_
          rw [hcl, hro, hcl2]
          refine b1_ne (tgt := 114) C jX9_sumUp_101 (by decide) (fun h101 => ?_) (fun h101 => ?_)
          · exact absurd gv.1 h101
          · refine sg C foX9 coX9 oX9_sumUp_104 rfl rfl rfl ⟨vp_in_nI (by omega) (by decide), trivial⟩ ?_
            rw [hcl2, hk]
            refine sg C foX9 coX9 oX9_sumUp_207 rfl rfl rfl ⟨vp_in_nI (by omega) (by decide), trivial⟩ ?_
            refine Wa.lvp [0, 1, 2, 3] rfl ?_
            rw [sub_m1, hcl2]
            exact hIH
      · have hk : ki (adr (tL q p v)) = 2 := gv.1
        have hs : ste (adr (tL q p v)) = nI p := gv.2.1
        have hh : hel (adr (tL q p v)) = v := gv.2.2
        refine sg0 C foX9 coX9 oX9_sumUp_76 rfl rfl rfl ?_
        refine b1_lt (tgt := 214) C jX9_sumUp_77 (by decide) (fun h77 => ?_) (fun h77 => ?_)
        · exact absurd h77 (Int32.not_lt.mpr (show nI 0 ≤ nI n from nI_le (by omega) (by omega)))
        · refine sg C foX9 coX9 oX9_sumUp_80 rfl rfl rfl (by rw [hcl, hro]; exact ⟨vp_in_nI (by omega) (by decide), vp_in_nI (by omega) (by decide), trivial⟩) ?_
          rw [hcl, hro, hcl2]
          refine b1_ne (tgt := 114) C jX9_sumUp_101 (by decide) (fun h101 => ?_) (fun h101 => ?_)
          · refine sg C foX9 coX9 oX9_sumUp_114 rfl rfl rfl ⟨vp_in_nI (by omega) (by decide), trivial⟩ ?_
            rw [hcl2]
            refine b2_ne (tgt := 145) C jX9_sumUp_122 (by decide) (fun h122 => ?_) (fun h122 => ?_)
            · exact absurd hk h122
            · refine sg C foX9 coX9 oX9_sumUp_125 rfl rfl rfl ⟨vp_in_nI (by omega) (by decide), vp_in_nI (by omega) (by decide), trivial⟩ ?_
              rw [hcl2, hs, hh]
              refine cl_s C (kX9_leafDigest hAD rfl hN p v) cd_X9_leafDigest in_X9 ml_X9_125 sm_X9_leafDigest hd_X9_leafDigest rfl rfl ⟨by show 1 + 1 ≤ R.frames; omega, by show 8 + (3 + 11) + 40 * 1 ≤ R.locals; omega⟩ ⟨by show cells + 0 ≤ R.cells; omega, by show slots + 0 ≤ R.slots; omega⟩ (Nat.le_of_ble_eq_true rfl) jX9_sumUp_139 (fun v ws' => Wa.and (fun hv => ?_))
              obtain ⟨rfl, rfl⟩ := hv
              refine sg0 C foX9 coX9 oX9_sumUp_142 rfl rfl rfl ?_
              refine sg C foX9 coX9 oX9_sumUp_207 rfl rfl rfl ⟨vp_in_nI (by omega) (by decide), trivial⟩ ?_
              refine Wa.lvp [0, 1, 2, 3] rfl ?_
              rw [sub_m1, hcl2]
              exact hIH
          · exact absurd (hk.symm.trans h101) (by decide)
      · obtain ⟨⟨hk, hb1, hs1, hlo, hhi⟩, g1, g2⟩ : (ki (adr (tF q B0 S0 x y)) = 1 ∧ bi (adr (tF q B0 S0 x y)) = nI B0 ∧ ste (adr (tF q B0 S0 x y)) = nI S0 ∧ low (adr (tF q B0 S0 x y)) = nI (adr x) ∧ hgh (adr (tF q B0 S0 x y)) = nI (adr y)) ∧ vtR (ki, bi, ste, hel, low, hgh) x ∧ vtR (ki, bi, ste, hel, low, hgh) y := gv
        have hx := hB x (hkb x List.mem_cons_self)
        have hy := hB y (hkb y (List.mem_cons_of_mem _ List.mem_cons_self))
        have bx : adr x < 1600 := gi _ (List.mem_cons_of_mem _ (List.mem_append_left _ (adr_ids x gT.1)))
        have by' : adr y < 1600 := gi _ (List.mem_cons_of_mem _ (List.mem_append_right _ (adr_ids y gT.2)))
        have hclx : (nI (adr x)).toNatClampNeg = adr x := nI_clamp (by omega)
        have hcly : (nI (adr y)).toNatClampNeg = adr y := nI_clamp (by omega)
        refine sg0 C foX9 coX9 oX9_sumUp_76 rfl rfl rfl ?_
        refine b1_lt (tgt := 214) C jX9_sumUp_77 (by decide) (fun h77 => ?_) (fun h77 => ?_)
        · exact absurd h77 (Int32.not_lt.mpr (show nI 0 ≤ nI n from nI_le (by omega) (by omega)))
        · refine sg C foX9 coX9 oX9_sumUp_80 rfl rfl rfl (by rw [hcl, hro]; exact ⟨vp_in_nI (by omega) (by decide), vp_in_nI (by omega) (by decide), trivial⟩) ?_
          rw [hcl, hro, hcl2]
          refine b1_ne (tgt := 114) C jX9_sumUp_101 (by decide) (fun h101 => ?_) (fun h101 => ?_)
          · refine sg C foX9 coX9 oX9_sumUp_114 rfl rfl rfl ⟨vp_in_nI (by omega) (by decide), trivial⟩ ?_
            rw [hcl2]
            refine b2_ne (tgt := 145) C jX9_sumUp_122 (by decide) (fun h122 => ?_) (fun h122 => ?_)
            · refine sg C foX9 coX9 oX9_sumUp_145 rfl rfl rfl ⟨vp_in_nI (by omega) (by decide), trivial⟩ ?_
              rw [hcl2]
              refine b2_ne (tgt := 166) C jX9_sumUp_153 (by decide) (fun h153 => ?_) (fun h153 => ?_)
              · refine sg C foX9 coX9 oX9_sumUp_166 rfl rfl rfl (by rw [hcl2, hlo, hhi]; exact ⟨vp_in_nI (by omega) (by decide), vp_in_nI (by omega) (by decide), vp_in_nI (by omega) (by decide), vp_in_nI (by omega) (by decide), vp_in_nI (by omega) (by decide), vp_in_nI (by omega) (by decide), trivial⟩) ?_
                rw [hcl2, hb1, hs1, hlo, hhi, hclx, hcly, hx, hy]
                refine cl_s C (kX9_forkDigest hAD rfl hN B0 S0 (dig x) (dig y)) cd_X9_forkDigest in_X9 ml_X9_121 sm_X9_forkDigest hd_X9_forkDigest rfl rfl ⟨by show 1 + 1 ≤ R.frames; omega, by show 8 + (6 + 11) + 40 * 1 ≤ R.locals; omega⟩ ⟨by show cells + 0 ≤ R.cells; omega, by show slots + 0 ≤ R.slots; omega⟩ (Nat.le_of_ble_eq_true rfl) jX9_sumUp_204 (fun v ws' => Wa.and (fun hv => ?_))
                obtain ⟨rfl, rfl⟩ := hv
                refine sg C foX9 coX9 oX9_sumUp_207 rfl rfl rfl ⟨vp_in_nI (by omega) (by decide), trivial⟩ ?_
                refine Wa.lvp [0, 1, 2, 3] rfl ?_
                rw [sub_m1, hcl2]
                exact hIH
              · exact absurd (hk.symm.trans h153) (by decide)
            · exact absurd (hk.symm.trans h122) (by decide)
          · exact absurd (hk.symm.trans h101) (by decide)
end
section
variable {l : Launch} {D : va_G} {ca : Nat → ClassId} {ad : Nat → Nat} {N : Heap → Prop} {pa : Nat → Int32} {va : Nat → Int64} {sz : Nat → Int32} {fr : Nat → Int32} {tw : Nat → Int32} {ta : Nat → Int32} {wd : Nat → Int64} {wb : Nat → Int32} {wp : Nat → Int32} {ou : Nat → Int32} {o1 : Nat → Int32} {o2 : Nat → Int32} {pf : Nat → Int32} {pt : Nat → Int32} {ki : Nat → Int32} {bi : Nat → Int32} {ste : Nat → Int32} {hel : Nat → Int64} {low : Nat → Int32} {hgh : Nat → Int32} {su : Nat → Int64} {ro : Nat → Int32} {fe : Nat → Int32} {vs : Int32} {wn : Int32} {tp : Int32} {dp : Int32} {la : Int32} {rst : Int32} {hlf : Int32} {nd : Int32} {rt : Int32} {frd : Int32} {fa : Int32} {at_ : Int32} {end_ : Int32} {ab : Int32} {fo : Int64} {co : Int32} {ll : Int32} {lh : Int32} {hm : Int32}
set_option maxRecDepth 100000 in
set_option maxHeartbeats 4000000 in
theorem kX9_sumUp (hAD : AD ad 24) (hN : NS D N) {U : Term} (hgd : gdV (ki, bi, ste, hel, low, hgh) U) (hn : nodT U ≤ 800) : Ct l yX9_sumUp cX9_sumUp 5 (some .long) (rK 3 0 0) D ca ad (mW pa va sz fr tw ta wd wb wp ou o1 o2 pf pt ki bi ste hel low hgh su ro fe vs wn tp dp la rst hlf nd rt frd fa at_ end_ ab fo co ll lh hm) 24 [.ref 0, .int (nI (adr U))] N (fun r ws2 H => ∃ (su2 : Nat → Int64) (ro2 : Nat → Int32), (r = some (.long (dig U)) ∧ ws2 = (mW pa va sz fr tw ta wd wb wp ou o1 o2 pf pt ki bi ste hel low hgh su2 ro2 fe vs wn tp dp la rst hlf nd rt frd fa at_ end_ ab fo co ll lh hm) ∧ smR su2 U) ∧ N H) := by
  have hb : adr U < 1600 := hgd.2.2 _ (adr_ids U hgd.1)
  refine enter (lv := [(0, .ref 0), (1, .int (nI (adr U)))]) (by decide +kernel) (Nat.le_of_ble_eq_true rfl) rfl hAD (fun U hK => ns_write hK hN) ?_
  intro p e s m below meth c A args hA C hr hlk hnm
  refine sg C foX9 coX9 oX9_sumUp_0 rfl rfl rfl ⟨(show vp_in (nI 0) 1600 from vp_in_nI (by decide) (by decide)), trivial⟩ ?_
  refine su_1 C hn (fun ro2 L hL hG hc hl8 hU => ?_) (nodT U) [] [U] _ (by simp [sumN]) (by simp) (fun j T hj => ?_) (fun T hT => by rcases List.mem_singleton.mp hT with rfl; exact hgd) trivial (by simp)
  rotate_left
  · cases j with
    | zero => have hj : U = T := Option.some.inj hj; subst hj; exact if_pos rfl
    | succ j => cases hj
  refine su_2 C hAD hN ⟨(Nat.le_of_ble_eq_true rfl), (Nat.le_of_ble_eq_true rfl), (Nat.le_of_ble_eq_true rfl), (Nat.le_of_ble_eq_true rfl)⟩ hL hG hc hl8 (fun su2 hS => ?_) L.length L [] su rfl (by simp) (fun T hT => absurd hT List.not_mem_nil)
  refine sg0 C foX9 coX9 oX9_sumUp_76 rfl rfl rfl ?_
  refine b1_lt (tgt := 214) C jX9_sumUp_77 (by decide) (fun h77 => ?_) (fun h77 => ?_)
  · refine sg C foX9 coX9 oX9_sumUp_214 rfl rfl rfl ⟨vp_in_nI (by omega) (by decide), trivial⟩ ?_
    rw [nI_clamp (show adr U < 2 ^ 31 by omega), hS U hU]
    exact rt_l C hr hlk jX9_sumUp_220 (fun H hH => ⟨su2, ro2, ⟨rfl, rfl, sm_of hS (clo_all hc) U hgd.1 hU⟩, hH⟩)
  · exact absurd (by decide) h77
end
