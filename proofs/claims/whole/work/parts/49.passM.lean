/-! the model: pass, told -/
section
variable {p : Program} {l : Launch} {e : Env} {R : Room} {s : State} {m : MethodId} {args : Array Value} {below : List Frame} {meth : Method} {c : Code} {cells slots : Nat} {QQ : State → Prop} {D : va_G} {ca : Nat → ClassId} {ad : Nat → Nat} {A : Nat → Prop} {N : Heap → Prop} {pa : Nat → Int32} {va : Nat → Int64} {sz : Nat → Int32} {fr : Nat → Int32} {tw : Nat → Int32} {ta : Nat → Int32} {wd : Nat → Int64} {wb : Nat → Int32} {wp : Nat → Int32} {ou : Nat → Int32} {o1 : Nat → Int32} {o2 : Nat → Int32} {pf : Nat → Int32} {pt : Nat → Int32} {ki : Nat → Int32} {bi : Nat → Int32} {ste : Nat → Int32} {hel : Nat → Int64} {low : Nat → Int32} {hgh : Nat → Int32} {su : Nat → Int64} {ro : Nat → Int32} {fe : Nat → Int32} {vs : Int32} {wn : Int32} {tp : Int32} {dp : Int32} {la : Int32} {rst : Int32} {hlf : Int32} {nd : Int32} {rt : Int32} {frd : Int32} {fa : Int32} {at_ : Int32} {end_ : Int32} {ab : Int32} {fo : Int64} {co : Int32} {ll : Int32} {lh : Int32} {hm : Int32}
set_option maxRecDepth 100000 in
set_option maxHeartbeats 4000000 in
theorem ps_tree (C : Cx p s m args c cX9_pass 6 RX9 D ca ad A N 24) (hAD : AD ad 24) (hN : NS D N) (hR : 2 ≤ R.frames ∧ 80 ≤ R.locals ∧ cells ≤ R.cells ∧ slots ≤ R.slots) {w0 : Int64} {Rg : List (Nat × Nat)} (hRg : rgR fr tw Rg) (T : Term) (hT : isT T) : ∀ (k r f t : Nat) (o1 o2 pf pt ou : Nat → Int32) (S0 : List Int32), gdV (ki, bi, ste, hel, low, hgh) (T) → smR su (T) → fitT (T) k → f < 65536 → t < 65536 → k ≤ 16 → r + k ≤ 16 → o1 r = nI (adr (T)) → pf r = nI f → pt r = nI t → tpR ou S0 → S0.length + 15 * 2 ^ (k + 1) ≤ 2 ^ 30 → (∀ (p1 p2 p3 p4 ou2 : Nat → Int32), rsR r o1 p1 o2 p2 pf p3 pt p4 → tpR ou2 (S0 ++ shwT Rg (T) f t) → Wa p l e R s m args below meth c cells slots QQ D ca ad A 6 N ([(0, .ref 0), (1, .long w0)], [], (mW pa va sz fr tw ta wd wb wp ou2 p1 p2 p3 p4 ki bi ste hel low hgh su ro fe vs (nI Rg.length) tp dp (nI (S0 ++ shwT Rg (T) f t).length) (nI r) hlf nd rt frd fa at_ end_ ab fo co ll lh hm)) 43) → Wa p l e R s m args below meth c cells slots QQ D ca ad A 6 N ([(0, .ref 0), (1, .long w0)], [], (mW pa va sz fr tw ta wd wb wp ou o1 o2 pf pt ki bi ste hel low hgh su ro fe vs (nI Rg.length) tp dp (nI S0.length) (nI (r + 1)) hlf nd rt frd fa at_ end_ ab fo co ll lh hm)) 43 := by
  obtain ⟨hR1, hR2, hR3, hR4⟩ := hR
  refine tr_ind (P := fun T => ∀ (k r f t : Nat) (o1 o2 pf pt ou : Nat → Int32) (S0 : List Int32), gdV (ki, bi, ste, hel, low, hgh) (T) → smR su (T) → fitT (T) k → f < 65536 → t < 65536 → k ≤ 16 → r + k ≤ 16 → o1 r = nI (adr (T)) → pf r = nI f → pt r = nI t → tpR ou S0 → S0.length + 15 * 2 ^ (k + 1) ≤ 2 ^ 30 → (∀ (p1 p2 p3 p4 ou2 : Nat → Int32), rsR r o1 p1 o2 p2 pf p3 pt p4 → tpR ou2 (S0 ++ shwT Rg (T) f t) → Wa p l e R s m args below meth c cells slots QQ D ca ad A 6 N ([(0, .ref 0), (1, .long w0)], [], (mW pa va sz fr tw ta wd wb wp ou2 p1 p2 p3 p4 ki bi ste hel low hgh su ro fe vs (nI Rg.length) tp dp (nI (S0 ++ shwT Rg (T) f t).length) (nI r) hlf nd rt frd fa at_ end_ ab fo co ll lh hm)) 43) → Wa p l e R s m args below meth c cells slots QQ D ca ad A 6 N ([(0, .ref 0), (1, .long w0)], [], (mW pa va sz fr tw ta wd wb wp ou o1 o2 pf pt ki bi ste hel low hgh su ro fe vs (nI Rg.length) tp dp (nI S0.length) (nI (r + 1)) hlf nd rt frd fa at_ end_ ab fo co ll lh hm)) 43) ?_ ?_ ?_ ?_ T hT
  · intro q k r f t o1 o2 pf pt ou S0 hgd hsm hfit hf0 ht0 hk hrk ho1 hpf hpt hS hlen hK
    have hq : q < 1600 := hgd.2.2 q (adr_ids (tE q) hgd.1)
    have hk1 : ki q = 3 := hgd.2.1
    have hsu : su q = dig (tE q) := sm_top hgd.1 hsm
    have ho1 : o1 r = nI q := ho1
    have hp0 : 2 ≤ 2 ^ (k + 1) := by have := Nat.two_pow_pos k; rw [Nat.pow_succ]; omega
    have hcl : (nI r).toNatClampNeg = r := nI_clamp (by omega)
    have hcq : (nI q).toNatClampNeg = q := nI_clamp (by omega)
    have hp1 : nI (r + 1) - 1 = nI r := by rw [show (1 : Int32) = nI 1 from rfl, pk_sub (by omega)]; rfl
    refine sg0 C foX9 coX9 oX9_pass_43 rfl rfl rfl ?_
    refine b1_le (tgt := 288) C jX9_pass_47 (by decide) (fun h47 => ?_) (fun h47 => ?_)
    · exact absurd h47 (Int32.not_le.mpr (show nI 0 < nI (r + 1) from nI_lt (by omega) (by omega)))
    · refine sg C foX9 coX9 oX9_pass_50 rfl rfl rfl (by rw [hp1]; exact ⟨vp_in_nI (by omega) (by decide), vp_in_nI (by omega) (by decide), vp_in_nI (by omega) (by decide), trivial⟩) ?_
      rw [hp1, hcl, ho1, hpf, hpt]
      refine cl_v C (kX9_isWanted hAD hN hRg hf0 ht0) (rcv (ci := 8) C.2.1 rfl rfl) cd_X9_isWanted in_X9 ml_X9_157 im_X9_isWanted se_X9_isWanted hd_X9_isWanted rfl rfl ⟨by show 0 + 1 ≤ R.frames; omega, by show 8 + (5 + 11) + 40 * 0 ≤ R.locals; omega⟩ ⟨by show cells + 0 ≤ R.cells; omega, by show slots + 0 ≤ R.slots; omega⟩ (Nat.le_of_ble_eq_true rfl) jX9_pass_89 (fun v ws' => Wa.and (fun hv => ?_))
      obtain ⟨rfl, rfl⟩ := hv
      by_cases hm : meR Rg f t = true
      · rw [if_pos hm]
        refine sg0 C foX9 coX9 oX9_pass_92 rfl rfl rfl ?_
        refine b1_eq (tgt := 110) C jX9_pass_97 (by decide) (fun h97 => ?_) (fun h97 => ?_)
        · exact absurd h97 (by decide)
        · refine sg C foX9 coX9 oX9_pass_100 rfl rfl rfl ⟨vp_in_nI (by omega) (by decide), trivial⟩ ?_
          refine sg0 C foX9 coX9 oX9_pass_111 rfl rfl rfl ?_
          rw [hcq, hk1, show (3 : Int32).toInt64 = 3 by decide]
          refine cl_v C (kX9_lay hAD hN (S := S0) hS 1 (by decide) (by (try simp only [List.length_append, octs_len]); omega) (3)) (rcv (ci := 8) C.2.1 rfl rfl) cd_X9_lay in_X9 ml_X9_161 im_X9_lay se_X9_lay hd_X9_lay rfl rfl ⟨by show 0 + 1 ≤ R.frames; omega, by show 8 + (5 + 11) + 40 * 0 ≤ R.locals; omega⟩ ⟨by show cells + 0 ≤ R.cells; omega, by show slots + 0 ≤ R.slots; omega⟩ (Nat.le_of_ble_eq_true rfl) jX9_pass_112 (fun v ws' => Wa.ex (fun s1 => Wa.and (fun hv => ?_)))
          obtain ⟨rfl, rfl, hs1⟩ := hv
          refine sg0 C foX9 coX9 oX9_pass_115 rfl rfl rfl ?_
          refine b1_eq (tgt := 129) C jX9_pass_117 (by decide) (fun h117 => ?_) (fun h117 => ?_)
          · exact absurd h117 (by decide)
          · refine sg C foX9 coX9 oX9_pass_120 rfl rfl rfl ⟨vp_in_nI (by omega) (by decide), trivial⟩ ?_
            rw [hcq]
            refine b1_ne (tgt := 144) C jX9_pass_126 (by decide) (fun h126 => ?_) (fun h126 => ?_)
            · refine sg C foX9 coX9 oX9_pass_144 rfl rfl rfl ⟨vp_in_nI (by omega) (by decide), trivial⟩ ?_
              rw [hcq]
              refine b2_ne (tgt := 181) C jX9_pass_151 (by decide) (fun h151 => ?_) (fun h151 => ?_)
              · refine sg C foX9 coX9 oX9_pass_181 rfl rfl rfl ⟨vp_in_nI (by omega) (by decide), trivial⟩ ?_
                rw [hcq]
                refine b2_ne (tgt := 285) C jX9_pass_188 (by decide) (fun h188 => ?_) (fun h188 => ?_)
                · refine sg0 C foX9 coX9 oX9_pass_285 rfl rfl rfl ?_
                  refine Wa.lvp [0, 1] rfl ?_
                  have h9 := hK o1 o2 pf pt s1 rs_0 (by rw [show shwT Rg (tE q) f t = octs 1 3 from by simp only [shwT]; rw [if_pos hm]]; simpa only [List.append_assoc] using hs1)
                  rw [show shwT Rg (tE q) f t = octs 1 3 from by simp only [shwT]; rw [if_pos hm]] at h9
                  (try simp only [← List.append_assoc] at h9)
                  (try simp only [← List.append_assoc])
                  exact h9
                · exact absurd (hk1.symm.trans h188) (by decide)
              · exact absurd (hk1.symm.trans h151) (by decide)
            · exact absurd (hk1.symm.trans h126) (by decide)
      · rw [if_neg hm]
        refine sg0 C foX9 coX9 oX9_pass_92 rfl rfl rfl ?_
        refine b1_eq (tgt := 110) C jX9_pass_97 (by decide) (fun h97 => ?_) (fun h97 => ?_)
        · refine sg0 C foX9 coX9 oX9_pass_110 rfl rfl rfl ?_
          refine sg0 C foX9 coX9 oX9_pass_111 rfl rfl rfl ?_
          refine cl_v C (kX9_lay hAD hN (S := S0) hS 1 (by decide) (by (try simp only [List.length_append, octs_len]); omega) (0)) (rcv (ci := 8) C.2.1 rfl rfl) cd_X9_lay in_X9 ml_X9_161 im_X9_lay se_X9_lay hd_X9_lay rfl rfl ⟨by show 0 + 1 ≤ R.frames; omega, by show 8 + (5 + 11) + 40 * 0 ≤ R.locals; omega⟩ ⟨by show cells + 0 ≤ R.cells; omega, by show slots + 0 ≤ R.slots; omega⟩ (Nat.le_of_ble_eq_true rfl) jX9_pass_112 (fun v ws' => Wa.ex (fun s1 => Wa.and (fun hv => ?_)))
          obtain ⟨rfl, rfl, hs1⟩ := hv
          refine sg0 C foX9 coX9 oX9_pass_115 rfl rfl rfl ?_
          refine b1_eq (tgt := 129) C jX9_pass_117 (by decide) (fun h117 => ?_) (fun h117 => ?_)
          · refine sg C foX9 coX9 oX9_pass_129 rfl rfl rfl ⟨vp_in_nI (by omega) (by decide), trivial⟩ ?_
            rw [hcq, hsu]
            refine cl_v C (kX9_lay hAD hN (S := S0 ++ octs 1 0) hs1 8 (by decide) (by (try simp only [List.length_append, octs_len]); omega) (dig (tE q))) (rcv (ci := 8) C.2.1 rfl rfl) cd_X9_lay in_X9 ml_X9_161 im_X9_lay se_X9_lay hd_X9_lay rfl rfl ⟨by show 0 + 1 ≤ R.frames; omega, by show 8 + (5 + 11) + 40 * 0 ≤ R.locals; omega⟩ ⟨by show cells + 0 ≤ R.cells; omega, by show slots + 0 ≤ R.slots; omega⟩ (Nat.le_of_ble_eq_true rfl) jX9_pass_138 (fun v ws' => Wa.ex (fun s2 => Wa.and (fun hv => ?_)))
            obtain ⟨rfl, rfl, hs2⟩ := hv
            refine sg0 C foX9 coX9 oX9_pass_141 rfl rfl rfl ?_
            refine sg0 C foX9 coX9 oX9_pass_285 rfl rfl rfl ?_
            refine Wa.lvp [0, 1] rfl ?_
            have h9 := hK o1 o2 pf pt s2 rs_0 (by rw [shw_no Rg (tE q) hgd.1 hm]; simpa only [List.append_assoc] using hs2)
            rw [shw_no Rg (tE q) hgd.1 hm] at h9
            (try simp only [← List.append_assoc] at h9)
            (try simp only [← List.append_assoc])
            exact h9
          · exact absurd rfl h117
        · exact absurd rfl h97 --end
  · intro q d0 k r f t o1 o2 pf pt ou S0 hgd hsm hfit hf0 ht0 hk hrk ho1 hpf hpt hS hlen hK
    have hq : q < 1600 := hgd.2.2 q (adr_ids (tH q d0) hgd.1)
    have hk1 : ki q = 0 := hgd.2.1.1
    have hsu : su q = dig (tH q d0) := sm_top hgd.1 hsm
    have ho1 : o1 r = nI q := ho1
    have hp0 : 2 ≤ 2 ^ (k + 1) := by have := Nat.two_pow_pos k; rw [Nat.pow_succ]; omega
    have hcl : (nI r).toNatClampNeg = r := nI_clamp (by omega)
    have hcq : (nI q).toNatClampNeg = q := nI_clamp (by omega)
    have hp1 : nI (r + 1) - 1 = nI r := by rw [show (1 : Int32) = nI 1 from rfl, pk_sub (by omega)]; rfl
    refine sg0 C foX9 coX9 oX9_pass_43 rfl rfl rfl ?_
    refine b1_le (tgt := 288) C jX9_pass_47 (by decide) (fun h47 => ?_) (fun h47 => ?_)
    · exact absurd h47 (Int32.not_le.mpr (show nI 0 < nI (r + 1) from nI_lt (by omega) (by omega)))
    · refine sg C foX9 coX9 oX9_pass_50 rfl rfl rfl (by rw [hp1]; exact ⟨vp_in_nI (by omega) (by decide), vp_in_nI (by omega) (by decide), vp_in_nI (by omega) (by decide), trivial⟩) ?_
      rw [hp1, hcl, ho1, hpf, hpt]
      refine cl_v C (kX9_isWanted hAD hN hRg hf0 ht0) (rcv (ci := 8) C.2.1 rfl rfl) cd_X9_isWanted in_X9 ml_X9_157 im_X9_isWanted se_X9_isWanted hd_X9_isWanted rfl rfl ⟨by show 0 + 1 ≤ R.frames; omega, by show 8 + (5 + 11) + 40 * 0 ≤ R.locals; omega⟩ ⟨by show cells + 0 ≤ R.cells; omega, by show slots + 0 ≤ R.slots; omega⟩ (Nat.le_of_ble_eq_true rfl) jX9_pass_89 (fun v ws' => Wa.and (fun hv => ?_))
      obtain ⟨rfl, rfl⟩ := hv
      by_cases hm : meR Rg f t = true
      · rw [if_pos hm]
        refine sg0 C foX9 coX9 oX9_pass_92 rfl rfl rfl ?_
        refine b1_eq (tgt := 110) C jX9_pass_97 (by decide) (fun h97 => ?_) (fun h97 => ?_)
        · exact absurd h97 (by decide)
        · refine sg C foX9 coX9 oX9_pass_100 rfl rfl rfl ⟨vp_in_nI (by omega) (by decide), trivial⟩ ?_
          refine sg0 C foX9 coX9 oX9_pass_111 rfl rfl rfl ?_
          rw [hcq, hk1, show (0 : Int32).toInt64 = 0 by decide]
          refine cl_v C (kX9_lay hAD hN (S := S0) hS 1 (by decide) (by (try simp only [List.length_append, octs_len]); omega) (0)) (rcv (ci := 8) C.2.1 rfl rfl) cd_X9_lay in_X9 ml_X9_161 im_X9_lay se_X9_lay hd_X9_lay rfl rfl ⟨by show 0 + 1 ≤ R.frames; omega, by show 8 + (5 + 11) + 40 * 0 ≤ R.locals; omega⟩ ⟨by show cells + 0 ≤ R.cells; omega, by show slots + 0 ≤ R.slots; omega⟩ (Nat.le_of_ble_eq_true rfl) jX9_pass_112 (fun v ws' => Wa.ex (fun s1 => Wa.and (fun hv => ?_)))
          obtain ⟨rfl, rfl, hs1⟩ := hv
          refine sg0 C foX9 coX9 oX9_pass_115 rfl rfl rfl ?_
          refine b1_eq (tgt := 129) C jX9_pass_117 (by decide) (fun h117 => ?_) (fun h117 => ?_)
          · exact absurd h117 (by decide)
          · refine sg C foX9 coX9 oX9_pass_120 rfl rfl rfl ⟨vp_in_nI (by omega) (by decide), trivial⟩ ?_
            rw [hcq]
            refine b1_ne (tgt := 144) C jX9_pass_126 (by decide) (fun h126 => ?_) (fun h126 => ?_)
            · exact absurd hk1 h126
            · refine sg C foX9 coX9 oX9_pass_129 rfl rfl rfl ⟨vp_in_nI (by omega) (by decide), trivial⟩ ?_
              rw [hcq, hsu]
              refine cl_v C (kX9_lay hAD hN (S := S0 ++ octs 1 0) hs1 8 (by decide) (by (try simp only [List.length_append, octs_len]); omega) (d0)) (rcv (ci := 8) C.2.1 rfl rfl) cd_X9_lay in_X9 ml_X9_161 im_X9_lay se_X9_lay hd_X9_lay rfl rfl ⟨by show 0 + 1 ≤ R.frames; omega, by show 8 + (5 + 11) + 40 * 0 ≤ R.locals; omega⟩ ⟨by show cells + 0 ≤ R.cells; omega, by show slots + 0 ≤ R.slots; omega⟩ (Nat.le_of_ble_eq_true rfl) jX9_pass_138 (fun v ws' => Wa.ex (fun s2 => Wa.and (fun hv => ?_)))
              obtain ⟨rfl, rfl, hs2⟩ := hv
              refine sg0 C foX9 coX9 oX9_pass_141 rfl rfl rfl ?_
              refine sg0 C foX9 coX9 oX9_pass_285 rfl rfl rfl ?_
              refine Wa.lvp [0, 1] rfl ?_
              have h9 := hK o1 o2 pf pt s2 rs_0 (by rw [show shwT Rg (tH q d0) f t = octs 1 0 ++ octs 8 d0 from rfl]; simpa only [List.append_assoc] using hs2)
              rw [show shwT Rg (tH q d0) f t = octs 1 0 ++ octs 8 d0 from rfl] at h9
              (try simp only [← List.append_assoc] at h9)
              (try simp only [← List.append_assoc])
              exact h9
      · rw [if_neg hm]
        refine sg0 C foX9 coX9 oX9_pass_92 rfl rfl rfl ?_
        refine b1_eq (tgt := 110) C jX9_pass_97 (by decide) (fun h97 => ?_) (fun h97 => ?_)
        · refine sg0 C foX9 coX9 oX9_pass_110 rfl rfl rfl ?_
          refine sg0 C foX9 coX9 oX9_pass_111 rfl rfl rfl ?_
          refine cl_v C (kX9_lay hAD hN (S := S0) hS 1 (by decide) (by (try simp only [List.length_append, octs_len]); omega) (0)) (rcv (ci := 8) C.2.1 rfl rfl) cd_X9_lay in_X9 ml_X9_161 im_X9_lay se_X9_lay hd_X9_lay rfl rfl ⟨by show 0 + 1 ≤ R.frames; omega, by show 8 + (5 + 11) + 40 * 0 ≤ R.locals; omega⟩ ⟨by show cells + 0 ≤ R.cells; omega, by show slots + 0 ≤ R.slots; omega⟩ (Nat.le_of_ble_eq_true rfl) jX9_pass_112 (fun v ws' => Wa.ex (fun s1 => Wa.and (fun hv => ?_)))
          obtain ⟨rfl, rfl, hs1⟩ := hv
          refine sg0 C foX9 coX9 oX9_pass_115 rfl rfl rfl ?_
          refine b1_eq (tgt := 129) C jX9_pass_117 (by decide) (fun h117 => ?_) (fun h117 => ?_)
          · refine sg C foX9 coX9 oX9_pass_129 rfl rfl rfl ⟨vp_in_nI (by omega) (by decide), trivial⟩ ?_
            rw [hcq, hsu]
            refine cl_v C (kX9_lay hAD hN (S := S0 ++ octs 1 0) hs1 8 (by decide) (by (try simp only [List.length_append, octs_len]); omega) (dig (tH q d0))) (rcv (ci := 8) C.2.1 rfl rfl) cd_X9_lay in_X9 ml_X9_161 im_X9_lay se_X9_lay hd_X9_lay rfl rfl ⟨by show 0 + 1 ≤ R.frames; omega, by show 8 + (5 + 11) + 40 * 0 ≤ R.locals; omega⟩ ⟨by show cells + 0 ≤ R.cells; omega, by show slots + 0 ≤ R.slots; omega⟩ (Nat.le_of_ble_eq_true rfl) jX9_pass_138 (fun v ws' => Wa.ex (fun s2 => Wa.and (fun hv => ?_)))
            obtain ⟨rfl, rfl, hs2⟩ := hv
            refine sg0 C foX9 coX9 oX9_pass_141 rfl rfl rfl ?_
            refine sg0 C foX9 coX9 oX9_pass_285 rfl rfl rfl ?_
            refine Wa.lvp [0, 1] rfl ?_
            have h9 := hK o1 o2 pf pt s2 rs_0 (by rw [shw_no Rg (tH q d0) hgd.1 hm]; simpa only [List.append_assoc] using hs2)
            rw [shw_no Rg (tH q d0) hgd.1 hm] at h9
            (try simp only [← List.append_assoc] at h9)
            (try simp only [← List.append_assoc])
            exact h9
          · exact absurd rfl h117
        · exact absurd rfl h97 --end
  · intro q P v0 k r f t o1 o2 pf pt ou S0 hgd hsm hfit hf0 ht0 hk hrk ho1 hpf hpt hS hlen hK
    have hq : q < 1600 := hgd.2.2 q (adr_ids (tL q P v0) hgd.1)
    have hk1 : ki q = 2 := hgd.2.1.1
    have hsu : su q = dig (tL q P v0) := sm_top hgd.1 hsm
    have ho1 : o1 r = nI q := ho1
    have hp0 : 2 ≤ 2 ^ (k + 1) := by have := Nat.two_pow_pos k; rw [Nat.pow_succ]; omega
    have hcl : (nI r).toNatClampNeg = r := nI_clamp (by omega)
    have hcq : (nI q).toNatClampNeg = q := nI_clamp (by omega)
    have hp1 : nI (r + 1) - 1 = nI r := by rw [show (1 : Int32) = nI 1 from rfl, pk_sub (by omega)]; rfl
    have hs1 : ste q = nI P := hgd.2.1.2.1
    have hh1 : hel q = v0 := hgd.2.1.2.2
    refine sg0 C foX9 coX9 oX9_pass_43 rfl rfl rfl ?_
    refine b1_le (tgt := 288) C jX9_pass_47 (by decide) (fun h47 => ?_) (fun h47 => ?_)
    · exact absurd h47 (Int32.not_le.mpr (show nI 0 < nI (r + 1) from nI_lt (by omega) (by omega)))
    · refine sg C foX9 coX9 oX9_pass_50 rfl rfl rfl (by rw [hp1]; exact ⟨vp_in_nI (by omega) (by decide), vp_in_nI (by omega) (by decide), vp_in_nI (by omega) (by decide), trivial⟩) ?_
      rw [hp1, hcl, ho1, hpf, hpt]
      refine cl_v C (kX9_isWanted hAD hN hRg hf0 ht0) (rcv (ci := 8) C.2.1 rfl rfl) cd_X9_isWanted in_X9 ml_X9_157 im_X9_isWanted se_X9_isWanted hd_X9_isWanted rfl rfl ⟨by show 0 + 1 ≤ R.frames; omega, by show 8 + (5 + 11) + 40 * 0 ≤ R.locals; omega⟩ ⟨by show cells + 0 ≤ R.cells; omega, by show slots + 0 ≤ R.slots; omega⟩ (Nat.le_of_ble_eq_true rfl) jX9_pass_89 (fun v ws' => Wa.and (fun hv => ?_))
      obtain ⟨rfl, rfl⟩ := hv
      by_cases hm : meR Rg f t = true
      · rw [if_pos hm]
        refine sg0 C foX9 coX9 oX9_pass_92 rfl rfl rfl ?_
        refine b1_eq (tgt := 110) C jX9_pass_97 (by decide) (fun h97 => ?_) (fun h97 => ?_)
        · exact absurd h97 (by decide)
        · refine sg C foX9 coX9 oX9_pass_100 rfl rfl rfl ⟨vp_in_nI (by omega) (by decide), trivial⟩ ?_
          refine sg0 C foX9 coX9 oX9_pass_111 rfl rfl rfl ?_
          rw [hcq, hk1, show (2 : Int32).toInt64 = 2 by decide]
          refine cl_v C (kX9_lay hAD hN (S := S0) hS 1 (by decide) (by (try simp only [List.length_append, octs_len]); omega) (2)) (rcv (ci := 8) C.2.1 rfl rfl) cd_X9_lay in_X9 ml_X9_161 im_X9_lay se_X9_lay hd_X9_lay rfl rfl ⟨by show 0 + 1 ≤ R.frames; omega, by show 8 + (5 + 11) + 40 * 0 ≤ R.locals; omega⟩ ⟨by show cells + 0 ≤ R.cells; omega, by show slots + 0 ≤ R.slots; omega⟩ (Nat.le_of_ble_eq_true rfl) jX9_pass_112 (fun v ws' => Wa.ex (fun s1 => Wa.and (fun hv => ?_)))
          obtain ⟨rfl, rfl, hr1⟩ := hv
          refine sg0 C foX9 coX9 oX9_pass_115 rfl rfl rfl ?_
          refine b1_eq (tgt := 129) C jX9_pass_117 (by decide) (fun h117 => ?_) (fun h117 => ?_)
          · exact absurd h117 (by decide)
          · refine sg C foX9 coX9 oX9_pass_120 rfl rfl rfl ⟨vp_in_nI (by omega) (by decide), trivial⟩ ?_
            rw [hcq]
            refine b1_ne (tgt := 144) C jX9_pass_126 (by decide) (fun h126 => ?_) (fun h126 => ?_)
            · refine sg C foX9 coX9 oX9_pass_144 rfl rfl rfl ⟨vp_in_nI (by omega) (by decide), trivial⟩ ?_
              rw [hcq]
              refine b2_ne (tgt := 181) C jX9_pass_151 (by decide) (fun h151 => ?_) (fun h151 => ?_)
              · exact absurd hk1 h151
              · refine sg C foX9 coX9 oX9_pass_154 rfl rfl rfl ⟨vp_in_nI (by omega) (by decide), trivial⟩ ?_
                rw [hcq, hs1]
                refine cl_v C (kX9_lay hAD hN (S := S0 ++ octs 1 2) hr1 2 (by decide) (by (try simp only [List.length_append, octs_len]); omega) ((nI P).toInt64)) (rcv (ci := 8) C.2.1 rfl rfl) cd_X9_lay in_X9 ml_X9_161 im_X9_lay se_X9_lay hd_X9_lay rfl rfl ⟨by show 0 + 1 ≤ R.frames; omega, by show 8 + (5 + 11) + 40 * 0 ≤ R.locals; omega⟩ ⟨by show cells + 0 ≤ R.cells; omega, by show slots + 0 ≤ R.slots; omega⟩ (Nat.le_of_ble_eq_true rfl) jX9_pass_163 (fun v ws' => Wa.ex (fun s2 => Wa.and (fun hv => ?_)))
                obtain ⟨rfl, rfl, hs2⟩ := hv
                refine sg C foX9 coX9 oX9_pass_166 rfl rfl rfl ⟨vp_in_nI (by omega) (by decide), trivial⟩ ?_
                rw [hcq, hh1]
                refine cl_v C (kX9_lay hAD hN (S := S0 ++ octs 1 2 ++ octs 2 (nI P).toInt64) hs2 8 (by decide) (by (try simp only [List.length_append, octs_len]); omega) (v0)) (rcv (ci := 8) C.2.1 rfl rfl) cd_X9_lay in_X9 ml_X9_161 im_X9_lay se_X9_lay hd_X9_lay rfl rfl ⟨by show 0 + 1 ≤ R.frames; omega, by show 8 + (5 + 11) + 40 * 0 ≤ R.locals; omega⟩ ⟨by show cells + 0 ≤ R.cells; omega, by show slots + 0 ≤ R.slots; omega⟩ (Nat.le_of_ble_eq_true rfl) jX9_pass_175 (fun v ws' => Wa.ex (fun s3 => Wa.and (fun hv => ?_)))
                obtain ⟨rfl, rfl, hs3⟩ := hv
                refine sg0 C foX9 coX9 oX9_pass_178 rfl rfl rfl ?_
                refine sg0 C foX9 coX9 oX9_pass_285 rfl rfl rfl ?_
                refine Wa.lvp [0, 1] rfl ?_
                have h9 := hK o1 o2 pf pt s3 rs_0 (by rw [show shwT Rg (tL q P v0) f t = octs 1 2 ++ (octs 2 (nI P).toInt64 ++ octs 8 v0) from by simp only [shwT]; rw [if_pos hm]]; simpa only [List.append_assoc] using hs3)
                rw [show shwT Rg (tL q P v0) f t = octs 1 2 ++ (octs 2 (nI P).toInt64 ++ octs 8 v0) from by simp only [shwT]; rw [if_pos hm]] at h9
                (try simp only [← List.append_assoc] at h9)
                (try simp only [← List.append_assoc])
                exact h9
            · exact absurd (hk1.symm.trans h126) (by decide)
      · rw [if_neg hm]
        refine sg0 C foX9 coX9 oX9_pass_92 rfl rfl rfl ?_
        refine b1_eq (tgt := 110) C jX9_pass_97 (by decide) (fun h97 => ?_) (fun h97 => ?_)
        · refine sg0 C foX9 coX9 oX9_pass_110 rfl rfl rfl ?_
          refine sg0 C foX9 coX9 oX9_pass_111 rfl rfl rfl ?_
          refine cl_v C (kX9_lay hAD hN (S := S0) hS 1 (by decide) (by (try simp only [List.length_append, octs_len]); omega) (0)) (rcv (ci := 8) C.2.1 rfl rfl) cd_X9_lay in_X9 ml_X9_161 im_X9_lay se_X9_lay hd_X9_lay rfl rfl ⟨by show 0 + 1 ≤ R.frames; omega, by show 8 + (5 + 11) + 40 * 0 ≤ R.locals; omega⟩ ⟨by show cells + 0 ≤ R.cells; omega, by show slots + 0 ≤ R.slots; omega⟩ (Nat.le_of_ble_eq_true rfl) jX9_pass_112 (fun v ws' => Wa.ex (fun s1 => Wa.and (fun hv => ?_)))
          obtain ⟨rfl, rfl, hs1⟩ := hv
          refine sg0 C foX9 coX9 oX9_pass_115 rfl rfl rfl ?_
          refine b1_eq (tgt := 129) C jX9_pass_117 (by decide) (fun h117 => ?_) (fun h117 => ?_)
          · refine sg C foX9 coX9 oX9_pass_129 rfl rfl rfl ⟨vp_in_nI (by omega) (by decide), trivial⟩ ?_
            rw [hcq, hsu]
            refine cl_v C (kX9_lay hAD hN (S := S0 ++ octs 1 0) hs1 8 (by decide) (by (try simp only [List.length_append, octs_len]); omega) (dig (tL q P v0))) (rcv (ci := 8) C.2.1 rfl rfl) cd_X9_lay in_X9 ml_X9_161 im_X9_lay se_X9_lay hd_X9_lay rfl rfl ⟨by show 0 + 1 ≤ R.frames; omega, by show 8 + (5 + 11) + 40 * 0 ≤ R.locals; omega⟩ ⟨by show cells + 0 ≤ R.cells; omega, by show slots + 0 ≤ R.slots; omega⟩ (Nat.le_of_ble_eq_true rfl) jX9_pass_138 (fun v ws' => Wa.ex (fun s2 => Wa.and (fun hv => ?_)))
            obtain ⟨rfl, rfl, hs2⟩ := hv
            refine sg0 C foX9 coX9 oX9_pass_141 rfl rfl rfl ?_
            refine sg0 C foX9 coX9 oX9_pass_285 rfl rfl rfl ?_
            refine Wa.lvp [0, 1] rfl ?_
            have h9 := hK o1 o2 pf pt s2 rs_0 (by rw [shw_no Rg (tL q P v0) hgd.1 hm]; simpa only [List.append_assoc] using hs2)
            rw [shw_no Rg (tL q P v0) hgd.1 hm] at h9
            (try simp only [← List.append_assoc] at h9)
            (try simp only [← List.append_assoc])
            exact h9
          · exact absurd rfl h117
        · exact absurd rfl h97 --end
  · intro q B S x y t1 t2 i1 i2 k r f t o1 o2 pf pt ou S0 hgd hsm hfit hf0 ht0 hk hrk ho1 hpf hpt hS hlen hK
    have hq : q < 1600 := hgd.2.2 q (adr_ids (tF q B S x y) hgd.1)
    have hk1 : ki q = 1 := hgd.2.1.1.1
    have hsu : su q = dig (tF q B S x y) := sm_top hgd.1 hsm
    have ho1 : o1 r = nI q := ho1
    have hp0 : 2 ≤ 2 ^ (k + 1) := by have := Nat.two_pow_pos k; rw [Nat.pow_succ]; omega
    have hcl : (nI r).toNatClampNeg = r := nI_clamp (by omega)
    have hcq : (nI q).toNatClampNeg = q := nI_clamp (by omega)
    have hp1 : nI (r + 1) - 1 = nI r := by rw [show (1 : Int32) = nI 1 from rfl, pk_sub (by omega)]; rfl
    obtain ⟨⟨-, hb1, hs1, hlo, hhi⟩, g1, g2⟩ : (ki q = 1 ∧ bi q = nI B ∧ ste q = nI S ∧ low q = nI (adr x) ∧ hgh q = nI (adr y)) ∧ vtR (ki, bi, ste, hel, low, hgh) x ∧ vtR (ki, bi, ste, hel, low, hgh) y := hgd.2.1
    obtain ⟨⟨a1, a2, a3, a4⟩, a5, a6⟩ := fitF hfit
    have gx := gd_kids hgd x List.mem_cons_self
    have gy := gd_kids hgd y (List.mem_cons_of_mem _ List.mem_cons_self)
    have b2 := pw_s a1
    have hp2 := Nat.two_pow_pos (15 - B)
    have a3k : 2 ^ (15 - B + 1) * 2 ≤ 2 ^ (k + 1) := by rw [← Nat.pow_succ]; exact Nat.pow_le_pow_right (by decide) (by omega)
    have l1 := shw_len Rg x t1 S (S + 2 ^ (15 - B) - 1) (15 - B) a5
    have l2 := shw_len Rg y t2 (S + 2 ^ (15 - B)) (S + 2 ^ (16 - B) - 1) (15 - B) a6
    refine sg0 C foX9 coX9 oX9_pass_43 rfl rfl rfl ?_
    refine b1_le (tgt := 288) C jX9_pass_47 (by decide) (fun h47 => ?_) (fun h47 => ?_)
    · exact absurd h47 (Int32.not_le.mpr (show nI 0 < nI (r + 1) from nI_lt (by omega) (by omega)))
    · refine sg C foX9 coX9 oX9_pass_50 rfl rfl rfl (by rw [hp1]; exact ⟨vp_in_nI (by omega) (by decide), vp_in_nI (by omega) (by decide), vp_in_nI (by omega) (by decide), trivial⟩) ?_
      rw [hp1, hcl, ho1, hpf, hpt]
      refine cl_v C (kX9_isWanted hAD hN hRg hf0 ht0) (rcv (ci := 8) C.2.1 rfl rfl) cd_X9_isWanted in_X9 ml_X9_157 im_X9_isWanted se_X9_isWanted hd_X9_isWanted rfl rfl ⟨by show 0 + 1 ≤ R.frames; omega, by show 8 + (5 + 11) + 40 * 0 ≤ R.locals; omega⟩ ⟨by show cells + 0 ≤ R.cells; omega, by show slots + 0 ≤ R.slots; omega⟩ (Nat.le_of_ble_eq_true rfl) jX9_pass_89 (fun v ws' => Wa.and (fun hv => ?_))
      obtain ⟨rfl, rfl⟩ := hv
      by_cases hm : meR Rg f t = true
      · rw [if_pos hm]
        refine sg0 C foX9 coX9 oX9_pass_92 rfl rfl rfl ?_
        refine b1_eq (tgt := 110) C jX9_pass_97 (by decide) (fun h97 => ?_) (fun h97 => ?_)
        · exact absurd h97 (by decide)
        · refine sg C foX9 coX9 oX9_pass_100 rfl rfl rfl ⟨vp_in_nI (by omega) (by decide), trivial⟩ ?_
          refine sg0 C foX9 coX9 oX9_pass_111 rfl rfl rfl ?_
          rw [hcq, hk1, show (1 : Int32).toInt64 = 1 by decide]
          refine cl_v C (kX9_lay hAD hN (S := S0) hS 1 (by decide) (by (try simp only [List.length_append, octs_len]); omega) (1)) (rcv (ci := 8) C.2.1 rfl rfl) cd_X9_lay in_X9 ml_X9_161 im_X9_lay se_X9_lay hd_X9_lay rfl rfl ⟨by show 0 + 1 ≤ R.frames; omega, by show 8 + (5 + 11) + 40 * 0 ≤ R.locals; omega⟩ ⟨by show cells + 0 ≤ R.cells; omega, by show slots + 0 ≤ R.slots; omega⟩ (Nat.le_of_ble_eq_true rfl) jX9_pass_112 (fun v ws' => Wa.ex (fun s1 => Wa.and (fun hv => ?_)))
          obtain ⟨rfl, rfl, hr1⟩ := hv
          refine sg0 C foX9 coX9 oX9_pass_115 rfl rfl rfl ?_
          refine b1_eq (tgt := 129) C jX9_pass_117 (by decide) (fun h117 => ?_) (fun h117 => ?_)
          · exact absurd h117 (by decide)
          · refine sg C foX9 coX9 oX9_pass_120 rfl rfl rfl ⟨vp_in_nI (by omega) (by decide), trivial⟩ ?_
            rw [hcq]
            refine b1_ne (tgt := 144) C jX9_pass_126 (by decide) (fun h126 => ?_) (fun h126 => ?_)
            · refine sg C foX9 coX9 oX9_pass_144 rfl rfl rfl ⟨vp_in_nI (by omega) (by decide), trivial⟩ ?_
              rw [hcq]
              refine b2_ne (tgt := 181) C jX9_pass_151 (by decide) (fun h151 => ?_) (fun h151 => ?_)
              · refine sg C foX9 coX9 oX9_pass_181 rfl rfl rfl ⟨vp_in_nI (by omega) (by decide), trivial⟩ ?_
                rw [hcq]
                refine b2_ne (tgt := 285) C jX9_pass_188 (by decide) (fun h188 => ?_) (fun h188 => ?_)
                · exact absurd hk1 h188
                · refine sg C foX9 coX9 oX9_pass_191 rfl rfl rfl ⟨vp_in_nI (by omega) (by decide), vp_in_nI (by omega) (by decide), vp_in_nI (by omega) (by decide), trivial⟩ ?_
                  rw [hcq, hb1, hs1, one_shl15 a1, nI_add]
                  refine cl_v C (kX9_lay hAD hN (S := S0 ++ octs 1 1) hr1 1 (by decide) (by (try simp only [List.length_append, octs_len]); omega) ((nI B).toInt64)) (rcv (ci := 8) C.2.1 rfl rfl) cd_X9_lay in_X9 ml_X9_161 im_X9_lay se_X9_lay hd_X9_lay rfl rfl ⟨by show 0 + 1 ≤ R.frames; omega, by show 8 + (5 + 11) + 40 * 0 ≤ R.locals; omega⟩ ⟨by show cells + 0 ≤ R.cells; omega, by show slots + 0 ≤ R.slots; omega⟩ (Nat.le_of_ble_eq_true rfl) jX9_pass_220 (fun v ws' => Wa.ex (fun s2 => Wa.and (fun hv => ?_)))
                  obtain ⟨rfl, rfl, hs2⟩ := hv
                  refine sg C foX9 coX9 oX9_pass_223 rfl rfl rfl ⟨vp_in_nI (by omega) (by decide), trivial⟩ ?_
                  rw [hcq, hs1]
                  refine cl_v C (kX9_lay hAD hN (S := S0 ++ octs 1 1 ++ octs 1 (nI B).toInt64) hs2 2 (by decide) (by (try simp only [List.length_append, octs_len]); omega) ((nI S).toInt64)) (rcv (ci := 8) C.2.1 rfl rfl) cd_X9_lay in_X9 ml_X9_161 im_X9_lay se_X9_lay hd_X9_lay rfl rfl ⟨by show 0 + 1 ≤ R.frames; omega, by show 8 + (5 + 11) + 40 * 0 ≤ R.locals; omega⟩ ⟨by show cells + 0 ≤ R.cells; omega, by show slots + 0 ≤ R.slots; omega⟩ (Nat.le_of_ble_eq_true rfl) jX9_pass_232 (fun v ws' => Wa.ex (fun s3 => Wa.and (fun hv => ?_)))
                  obtain ⟨rfl, rfl, hs3⟩ := hv
                  refine sg C foX9 coX9 oX9_pass_235 rfl rfl rfl ⟨vp_in_nI (by omega) (by decide), vp_in_nI (by omega) (by decide), trivial⟩ ?_
                  rw [hcq, hb1, hhi, one_shl15 a1, nI_add, show (1 : Int32) = nI 1 from rfl, pk_sub (show 1 ≤ S + 2 ^ (15 - B) + 2 ^ (15 - B) by omega)]
                  refine cl_v C (kX9_rest hAD hN (r := r) (by omega) (nI (adr y)) 0 (nI (S + 2 ^ (15 - B))) (nI (S + 2 ^ (15 - B) + 2 ^ (15 - B) - 1))) (rcv (ci := 8) C.2.1 rfl rfl) cd_X9_rest in_X9 ml_X9_153 im_X9_rest se_X9_rest hd_X9_rest rfl rfl ⟨by show 0 + 1 ≤ R.frames; omega, by show 8 + (5 + 11) + 40 * 0 ≤ R.locals; omega⟩ ⟨by show cells + 0 ≤ R.cells; omega, by show slots + 0 ≤ R.slots; omega⟩ (Nat.le_of_ble_eq_true rfl) jX9_pass_261 (fun v ws' => Wa.and (fun hv => ?_))
                  obtain ⟨rfl, rfl⟩ := hv
                  refine sg C foX9 coX9 oX9_pass_264 rfl rfl rfl ⟨vp_in_nI (by omega) (by decide), vp_in_nI (by omega) (by decide), trivial⟩ ?_
                  rw [hcq, hs1, hlo, show (1 : Int32) = nI 1 from rfl, pk_sub (show 1 ≤ S + 2 ^ (15 - B) by omega)]
                  refine cl_v C (kX9_rest hAD hN (r := r + 1) (by omega) (nI (adr x)) 0 (nI S) (nI (S + 2 ^ (15 - B) - 1))) (rcv (ci := 8) C.2.1 rfl rfl) cd_X9_rest in_X9 ml_X9_153 im_X9_rest se_X9_rest hd_X9_rest rfl rfl ⟨by show 0 + 1 ≤ R.frames; omega, by show 8 + (5 + 11) + 40 * 0 ≤ R.locals; omega⟩ ⟨by show cells + 0 ≤ R.cells; omega, by show slots + 0 ≤ R.slots; omega⟩ (Nat.le_of_ble_eq_true rfl) jX9_pass_282 (fun v ws' => Wa.and (fun hv => ?_))
                  obtain ⟨rfl, rfl⟩ := hv
                  refine sg0 C foX9 coX9 oX9_pass_285 rfl rfl rfl ?_
                  refine Wa.lvp [0, 1] rfl ?_
                  refine i1 (15 - B) (r + 1) S (S + 2 ^ (15 - B) - 1) _ _ _ _ s3 (S0 ++ octs 1 1 ++ octs 1 (nI B).toInt64 ++ octs 2 (nI S).toInt64) gx hsm.2.1 a5 (by omega) (by omega) (by omega) (by omega) (if_pos rfl) (if_pos rfl) (if_pos rfl) hs3 (by (try simp only [List.length_append, octs_len]); omega) (fun p1 p2 p3 p4 s4 hr4 hs4 => ?_)
                  obtain ⟨y1, y2, y3, y4⟩ := rs_at hr4
                  refine i2 (15 - B) r (S + 2 ^ (15 - B)) (S + 2 ^ (16 - B) - 1) p1 p2 p3 p4 s4 _ gy hsm.2.2 a6 (by omega) (by omega) (by omega) (by omega) y1 y3 (by rw [y4]; congr 1; omega) hs4 (by (try simp only [List.length_append, octs_len]); omega) (fun p1' p2' p3' p4' s5 hr5 hs5 => ?_)
                  have hsh : shwT Rg (tF q B S x y) f t = octs 1 1 ++ (octs 1 (nI B).toInt64 ++ (octs 2 (nI S).toInt64 ++ (shwT Rg x S (S + 2 ^ (15 - B) - 1) ++ shwT Rg y (S + 2 ^ (15 - B)) (S + 2 ^ (16 - B) - 1)))) := by simp only [shwT]; rw [if_pos hm]
                  have h9 := hK p1' p2' p3' p4' s5 (rs_2 hr4 hr5) (by rw [hsh]; simpa only [List.append_assoc] using hs5)
                  rw [hsh] at h9
                  simp only [← List.append_assoc] at h9
                  exact h9
              · exact absurd (hk1.symm.trans h151) (by decide)
            · exact absurd (hk1.symm.trans h126) (by decide)
      · rw [if_neg hm]
        refine sg0 C foX9 coX9 oX9_pass_92 rfl rfl rfl ?_
        refine b1_eq (tgt := 110) C jX9_pass_97 (by decide) (fun h97 => ?_) (fun h97 => ?_)
        · refine sg0 C foX9 coX9 oX9_pass_110 rfl rfl rfl ?_
          refine sg0 C foX9 coX9 oX9_pass_111 rfl rfl rfl ?_
          refine cl_v C (kX9_lay hAD hN (S := S0) hS 1 (by decide) (by (try simp only [List.length_append, octs_len]); omega) (0)) (rcv (ci := 8) C.2.1 rfl rfl) cd_X9_lay in_X9 ml_X9_161 im_X9_lay se_X9_lay hd_X9_lay rfl rfl ⟨by show 0 + 1 ≤ R.frames; omega, by show 8 + (5 + 11) + 40 * 0 ≤ R.locals; omega⟩ ⟨by show cells + 0 ≤ R.cells; omega, by show slots + 0 ≤ R.slots; omega⟩ (Nat.le_of_ble_eq_true rfl) jX9_pass_112 (fun v ws' => Wa.ex (fun s1 => Wa.and (fun hv => ?_)))
          obtain ⟨rfl, rfl, hs1⟩ := hv
          refine sg0 C foX9 coX9 oX9_pass_115 rfl rfl rfl ?_
          refine b1_eq (tgt := 129) C jX9_pass_117 (by decide) (fun h117 => ?_) (fun h117 => ?_)
          · refine sg C foX9 coX9 oX9_pass_129 rfl rfl rfl ⟨vp_in_nI (by omega) (by decide), trivial⟩ ?_
            rw [hcq, hsu]
            refine cl_v C (kX9_lay hAD hN (S := S0 ++ octs 1 0) hs1 8 (by decide) (by (try simp only [List.length_append, octs_len]); omega) (dig (tF q B S x y))) (rcv (ci := 8) C.2.1 rfl rfl) cd_X9_lay in_X9 ml_X9_161 im_X9_lay se_X9_lay hd_X9_lay rfl rfl ⟨by show 0 + 1 ≤ R.frames; omega, by show 8 + (5 + 11) + 40 * 0 ≤ R.locals; omega⟩ ⟨by show cells + 0 ≤ R.cells; omega, by show slots + 0 ≤ R.slots; omega⟩ (Nat.le_of_ble_eq_true rfl) jX9_pass_138 (fun v ws' => Wa.ex (fun s2 => Wa.and (fun hv => ?_)))
            obtain ⟨rfl, rfl, hs2⟩ := hv
            refine sg0 C foX9 coX9 oX9_pass_141 rfl rfl rfl ?_
            refine sg0 C foX9 coX9 oX9_pass_285 rfl rfl rfl ?_
            refine Wa.lvp [0, 1] rfl ?_
            have h9 := hK o1 o2 pf pt s2 rs_0 (by rw [shw_no Rg (tF q B S x y) hgd.1 hm]; simpa only [List.append_assoc] using hs2)
            rw [shw_no Rg (tF q B S x y) hgd.1 hm] at h9
            (try simp only [← List.append_assoc] at h9)
            (try simp only [← List.append_assoc])
            exact h9
          · exact absurd rfl h117
        · exact absurd rfl h97 --end
end
section
variable {l : Launch} {D : va_G} {ca : Nat → ClassId} {ad : Nat → Nat} {N : Heap → Prop} {pa : Nat → Int32} {va : Nat → Int64} {sz : Nat → Int32} {fr : Nat → Int32} {tw : Nat → Int32} {ta : Nat → Int32} {wd : Nat → Int64} {wb : Nat → Int32} {wp : Nat → Int32} {ou : Nat → Int32} {o1 : Nat → Int32} {o2 : Nat → Int32} {pf : Nat → Int32} {pt : Nat → Int32} {ki : Nat → Int32} {bi : Nat → Int32} {ste : Nat → Int32} {hel : Nat → Int64} {low : Nat → Int32} {hgh : Nat → Int32} {su : Nat → Int64} {ro : Nat → Int32} {fe : Nat → Int32} {vs : Int32} {wn : Int32} {tp : Int32} {dp : Int32} {la : Int32} {rst : Int32} {hlf : Int32} {nd : Int32} {rt : Int32} {frd : Int32} {fa : Int32} {at_ : Int32} {end_ : Int32} {ab : Int32} {fo : Int64} {co : Int32} {ll : Int32} {lh : Int32} {hm : Int32}
set_option maxRecDepth 100000 in
set_option maxHeartbeats 4000000 in
theorem kX9_pass (hAD : AD ad 24) (hN : NS D N) {U : Term} (hgd : gdV (ki, bi, ste, hel, low, hgh) U) (hfit : fitT U 16) (hn8 : nodT U ≤ 800) {Rg : List (Nat × Nat)} (hRg : rgR fr tw Rg) : Ct l yX9_pass cX9_pass 6 (some .int) (rK 4 0 0) D ca ad (mW pa va sz fr tw ta wd wb wp ou o1 o2 pf pt ki bi ste hel low hgh su ro fe vs (nI Rg.length) tp dp la rst hlf nd (nI (adr U)) frd fa at_ end_ ab fo co ll lh hm) 24 [.ref 0] N (fun r ws2 H => ∃ (p1 p2 p3 p4 ou2 : Nat → Int32) (su2 : Nat → Int64) (ro2 : Nat → Int32) (ls2 rs2 : Int32), ((4000 < (shwT Rg U 0 65535).length ∧ r = some (.int (-3)) ∧ ws2 = (mW pa va sz fr tw ta wd wb wp ou2 p1 p2 p3 p4 ki bi ste hel low hgh su2 ro2 fe vs (nI Rg.length) tp dp ls2 rs2 hlf nd (nI (adr U)) frd fa at_ end_ ab fo co ll lh hm)) ∨ ∃ ta2 : Nat → Int32, (shwT Rg U 0 65535).length ≤ 4000 ∧ r = some (.int (nI (shwT Rg U 0 65535).length)) ∧ ws2 = (mW pa va sz fr tw ta2 wd wb wp ou2 p1 p2 p3 p4 ki bi ste hel low hgh su2 ro2 fe vs (nI Rg.length) (nI (shwT Rg U 0 65535).length) dp ls2 rs2 hlf nd (nI (adr U)) frd fa at_ end_ ab fo co ll lh hm) ∧ tpR ta2 (shwT Rg U 0 65535)) ∧ N H) := by
  have hbU : adr U < 1600 := hgd.2.2 _ (adr_ids _ hgd.1)
  refine enter (lv := [(0, .ref 0)]) (by decide +kernel) (Nat.le_of_ble_eq_true rfl) rfl hAD (fun U hK => ns_write hK hN) ?_
  intro p e s m below meth c A args hA C hr hlk hnm
  refine sg0 C foX9 coX9 oX9_pass_0 rfl rfl rfl ?_
  refine b2_ne (tgt := 12) C jX9_pass_6 (by decide) (fun h6 => ?_) (fun h6 => ?_)
  · refine sg0 C foX9 coX9 oX9_pass_12 rfl rfl rfl ?_
    refine cl_v C (kX9_sumUp hAD hN hgd hn8) (rcv (ci := 8) C.2.1 rfl rfl) cd_X9_sumUp in_X9 ml_X9_183 im_X9_sumUp se_X9_sumUp hd_X9_sumUp rfl rfl ⟨(Nat.le_of_ble_eq_true rfl), (Nat.le_of_ble_eq_true rfl)⟩ ⟨(Nat.le_of_ble_eq_true rfl), (Nat.le_of_ble_eq_true rfl)⟩ (Nat.le_of_ble_eq_true rfl) jX9_pass_17 (fun v ws' => Wa.ex (fun su2 => Wa.ex (fun ro2 => Wa.and (fun hv => ?_))))
    obtain ⟨rfl, rfl, hsm⟩ := hv
    refine sg0 C foX9 coX9 oX9_pass_20 rfl rfl rfl ?_
    refine cl_v C (kX9_rest hAD hN (r := 0) (by decide) (nI (adr U)) 0 0 65535) (rcv (ci := 8) C.2.1 rfl rfl) cd_X9_rest in_X9 ml_X9_153 im_X9_rest se_X9_rest hd_X9_rest rfl rfl ⟨(Nat.le_of_ble_eq_true rfl), (Nat.le_of_ble_eq_true rfl)⟩ ⟨(Nat.le_of_ble_eq_true rfl), (Nat.le_of_ble_eq_true rfl)⟩ (Nat.le_of_ble_eq_true rfl) jX9_pass_40 (fun v ws' => Wa.and (fun hv => ?_))
    obtain ⟨rfl, rfl⟩ := hv
    have hlw := shw_len Rg U hgd.1 0 65535 16 hfit
    refine ps_tree C hAD hN ⟨(Nat.le_of_ble_eq_true rfl), (Nat.le_of_ble_eq_true rfl), (Nat.le_of_ble_eq_true rfl), (Nat.le_of_ble_eq_true rfl)⟩ hRg U hgd.1 16 0 0 65535 _ _ _ _ ou [] hgd hsm hfit (by decide) (by decide) (by decide) (by decide) (if_pos rfl) (if_pos rfl) (if_pos rfl) (fun j _ h9 => absurd h9 (Nat.not_lt_zero _)) (by decide) (fun p1 p2 p3 p4 ou2 _ hsw => ?_)
    rw [List.nil_append] at hsw ⊢
    refine sg0 C foX9 coX9 oX9_pass_43 rfl rfl rfl ?_
    refine b1_le (tgt := 288) C jX9_pass_47 (by decide) (fun h47 => ?_) (fun h47 => ?_)
    · refine sg0 C foX9 coX9 oX9_pass_288 rfl rfl rfl ?_
      refine cl_v C (kX9_laidOut hAD hN hsw (by omega)) (rcv (ci := 8) C.2.1 rfl rfl) cd_X9_laidOut in_X9 ml_X9_165 im_X9_laidOut se_X9_laidOut hd_X9_laidOut rfl rfl ⟨(Nat.le_of_ble_eq_true rfl), (Nat.le_of_ble_eq_true rfl)⟩ ⟨(Nat.le_of_ble_eq_true rfl), (Nat.le_of_ble_eq_true rfl)⟩ (Nat.le_of_ble_eq_true rfl) jX9_pass_289 (fun v ws' => Wa.and (fun hv => ?_))
      rcases hv with ⟨hq, rfl, rfl⟩ | ⟨ta2, hq, rfl, rfl, hq2⟩
      · exact rt_i C hr hlk jX9_pass_292 (fun H hH => ⟨p1, p2, p3, p4, ou2, su2, ro2, _, _, Or.inl ⟨hq, rfl, rfl⟩, hH⟩)
      · exact rt_i C hr hlk jX9_pass_292 (fun H hH => ⟨p1, p2, p3, p4, ou2, su2, ro2, _, _, Or.inr ⟨ta2, hq, rfl, rfl, hq2⟩, hH⟩)
    · exact absurd (by decide) h47
  · exact absurd h6 (nI_m2 (by omega))
set_option maxRecDepth 100000 in
set_option maxHeartbeats 4000000 in
theorem kX9_pass_none (hAD : AD ad 24) (hN : NS D N)  : Ct l yX9_pass cX9_pass 6 (some .int) (rK 0 0 0) D ca ad (mW pa va sz fr tw ta wd wb wp ou o1 o2 pf pt ki bi ste hel low hgh su ro fe vs wn tp dp la rst hlf nd (-2) frd fa at_ end_ ab fo co ll lh hm) 24 [.ref 0] N (pG (mW pa va sz fr tw ta wd wb wp ou o1 o2 pf pt ki bi ste hel low hgh su ro fe vs wn tp dp la rst hlf nd (-2) frd fa at_ end_ ab fo co ll lh hm) N (some (.int (-2)))) := by
  refine enter (lv := [(0, .ref 0)]) (by decide +kernel) (Nat.le_of_ble_eq_true rfl) rfl hAD (fun U hK => ns_write hK hN) ?_
  intro p e s m below meth c A args hA C hr hlk hnm
  refine sg0 C foX9 coX9 oX9_pass_0 rfl rfl rfl ?_
  refine b2_ne (tgt := 12) C jX9_pass_6 (by decide) (fun h6 => ?_) (fun h6 => ?_)
  · exact absurd rfl h6
  · refine sg0 C foX9 coX9 oX9_pass_9 rfl rfl rfl ?_
    exact rt_i C hr hlk jX9_pass_11 (fun H hN => ⟨⟨rfl, rfl⟩, hN⟩)
set_option maxRecDepth 100000 in
set_option maxHeartbeats 4000000 in
theorem kX9_told0 (hAD : AD ad 24) (hN : NS D N)  : Ct l yX9_told cX9_told 4 (some .int) (rK 0 0 0) D ca ad (mW pa va sz fr tw ta wd wb wp ou o1 o2 pf pt ki bi ste hel low hgh su ro fe vs wn tp dp la rst hlf nd rt frd fa at_ end_ ab fo co ll lh hm) 24 [.ref 0, .int 0] N (pG (mW pa va sz fr tw ta wd wb wp ou o1 o2 pf pt ki bi ste hel low hgh su ro fe vs wn tp dp la rst hlf nd rt frd fa at_ end_ ab fo co ll lh hm) N (some (.int tp))) := by
  refine enter (lv := [(0, .ref 0), (1, .int 0)]) (by decide +kernel) (Nat.le_of_ble_eq_true rfl) rfl hAD (fun U hK => ns_write hK hN) ?_
  intro p e s m below meth c A args hA C hr hlk hnm
  refine sg0 C foX9 coX9 oX9_told_0 rfl rfl rfl ?_
  refine b1_lt (tgt := 9) C jX9_told_1 (by decide) (fun h1 => ?_) (fun h1 => ?_)
  · exact absurd h1 (by decide)
  · refine sg0 C foX9 coX9 oX9_told_4 rfl rfl rfl ?_
    refine b2_le (tgt := 11) C jX9_told_6 (by decide) (fun h6 => ?_) (fun h6 => ?_)
    · refine sg0 C foX9 coX9 oX9_told_11 rfl rfl rfl ?_
      refine b2_ne (tgt := 32) C jX9_told_13 (by decide) (fun h13 => ?_) (fun h13 => ?_)
      · refine sg0 C foX9 coX9 oX9_told_32 rfl rfl rfl ?_
        refine b2_ne (tgt := 58) C jX9_told_34 (by decide) (fun h34 => ?_) (fun h34 => ?_)
        · refine sg0 C foX9 coX9 oX9_told_58 rfl rfl rfl ?_
          refine sg0 C foX9 coX9 oX9_told_59 rfl rfl rfl ?_
          refine b1_ne (tgt := 71) C jX9_told_61 (by decide) (fun h61 => ?_) (fun h61 => ?_)
          · exact absurd rfl h61
          · refine sg0 C foX9 coX9 oX9_told_64 rfl rfl rfl ?_
            exact rt_i C hr hlk jX9_told_149 (fun H hN => ⟨⟨rfl, rfl⟩, hN⟩)
        · exact absurd h34 (by decide)
      · exact absurd h13 (by decide)
    · exact absurd (by decide) h6
set_option maxRecDepth 100000 in
set_option maxHeartbeats 4000000 in
theorem kX9_told1 (hAD : AD ad 24) (hN : NS D N)  : Ct l yX9_told cX9_told 4 (some .int) (rK 0 0 0) D ca ad (mW pa va sz fr tw ta wd wb wp ou o1 o2 pf pt ki bi ste hel low hgh su ro fe vs wn tp dp la rst hlf nd rt frd fa at_ end_ ab fo co ll lh hm) 24 [.ref 0, .int 1] N (pG (mW pa va sz fr tw ta wd wb wp ou o1 o2 pf pt ki bi ste hel low hgh su ro fe vs wn tp dp la rst hlf nd rt frd fa at_ end_ ab fo co ll lh hm) N (some (.int wn))) := by
  refine enter (lv := [(0, .ref 0), (1, .int 1)]) (by decide +kernel) (Nat.le_of_ble_eq_true rfl) rfl hAD (fun U hK => ns_write hK hN) ?_
  intro p e s m below meth c A args hA C hr hlk hnm
  refine sg0 C foX9 coX9 oX9_told_0 rfl rfl rfl ?_
  refine b1_lt (tgt := 9) C jX9_told_1 (by decide) (fun h1 => ?_) (fun h1 => ?_)
  · exact absurd h1 (by decide)
  · refine sg0 C foX9 coX9 oX9_told_4 rfl rfl rfl ?_
    refine b2_le (tgt := 11) C jX9_told_6 (by decide) (fun h6 => ?_) (fun h6 => ?_)
    · refine sg0 C foX9 coX9 oX9_told_11 rfl rfl rfl ?_
      refine b2_ne (tgt := 32) C jX9_told_13 (by decide) (fun h13 => ?_) (fun h13 => ?_)
      · refine sg0 C foX9 coX9 oX9_told_32 rfl rfl rfl ?_
        refine b2_ne (tgt := 58) C jX9_told_34 (by decide) (fun h34 => ?_) (fun h34 => ?_)
        · refine sg0 C foX9 coX9 oX9_told_58 rfl rfl rfl ?_
          refine sg0 C foX9 coX9 oX9_told_59 rfl rfl rfl ?_
          refine b1_ne (tgt := 71) C jX9_told_61 (by decide) (fun h61 => ?_) (fun h61 => ?_)
          · refine sg0 C foX9 coX9 oX9_told_71 rfl rfl rfl ?_
            refine b2_ne (tgt := 83) C jX9_told_73 (by decide) (fun h73 => ?_) (fun h73 => ?_)
            · exact absurd rfl h73
            · refine sg0 C foX9 coX9 oX9_told_76 rfl rfl rfl ?_
              exact rt_i C hr hlk jX9_told_149 (fun H hN => ⟨⟨rfl, rfl⟩, hN⟩)
          · exact absurd h61 (by decide)
        · exact absurd h34 (by decide)
      · exact absurd h13 (by decide)
    · exact absurd (by decide) h6
set_option maxRecDepth 100000 in
set_option maxHeartbeats 4000000 in
theorem kX9_told2 (hAD : AD ad 24) (hN : NS D N)  : Ct l yX9_told cX9_told 4 (some .int) (rK 0 0 0) D ca ad (mW pa va sz fr tw ta wd wb wp ou o1 o2 pf pt ki bi ste hel low hgh su ro fe vs wn tp dp la rst hlf nd rt frd fa at_ end_ ab fo co ll lh hm) 24 [.ref 0, .int 2] N (pG (mW pa va sz fr tw ta wd wb wp ou o1 o2 pf pt ki bi ste hel low hgh su ro fe vs wn tp dp la rst hlf nd rt frd fa at_ end_ ab fo co ll lh hm) N (some (.int vs))) := by
  refine enter (lv := [(0, .ref 0), (1, .int 2)]) (by decide +kernel) (Nat.le_of_ble_eq_true rfl) rfl hAD (fun U hK => ns_write hK hN) ?_
  intro p e s m below meth c A args hA C hr hlk hnm
  refine sg0 C foX9 coX9 oX9_told_0 rfl rfl rfl ?_
  refine b1_lt (tgt := 9) C jX9_told_1 (by decide) (fun h1 => ?_) (fun h1 => ?_)
  · exact absurd h1 (by decide)
  · refine sg0 C foX9 coX9 oX9_told_4 rfl rfl rfl ?_
    refine b2_le (tgt := 11) C jX9_told_6 (by decide) (fun h6 => ?_) (fun h6 => ?_)
    · refine sg0 C foX9 coX9 oX9_told_11 rfl rfl rfl ?_
      refine b2_ne (tgt := 32) C jX9_told_13 (by decide) (fun h13 => ?_) (fun h13 => ?_)
      · refine sg0 C foX9 coX9 oX9_told_32 rfl rfl rfl ?_
        refine b2_ne (tgt := 58) C jX9_told_34 (by decide) (fun h34 => ?_) (fun h34 => ?_)
        · refine sg0 C foX9 coX9 oX9_told_58 rfl rfl rfl ?_
          refine sg0 C foX9 coX9 oX9_told_59 rfl rfl rfl ?_
          refine b1_ne (tgt := 71) C jX9_told_61 (by decide) (fun h61 => ?_) (fun h61 => ?_)
          · refine sg0 C foX9 coX9 oX9_told_71 rfl rfl rfl ?_
            refine b2_ne (tgt := 83) C jX9_told_73 (by decide) (fun h73 => ?_) (fun h73 => ?_)
            · refine sg0 C foX9 coX9 oX9_told_83 rfl rfl rfl ?_
              refine b2_ne (tgt := 95) C jX9_told_85 (by decide) (fun h85 => ?_) (fun h85 => ?_)
              · exact absurd rfl h85
              · refine sg0 C foX9 coX9 oX9_told_88 rfl rfl rfl ?_
                exact rt_i C hr hlk jX9_told_149 (fun H hN => ⟨⟨rfl, rfl⟩, hN⟩)
            · exact absurd h73 (by decide)
          · exact absurd h61 (by decide)
        · exact absurd h34 (by decide)
      · exact absurd h13 (by decide)
    · exact absurd (by decide) h6
set_option maxRecDepth 100000 in
set_option maxHeartbeats 4000000 in
theorem kX9_told3_none (hAD : AD ad 24) (hN : NS D N)  : Ct l yX9_told cX9_told 4 (some .int) (rK 0 0 0) D ca ad (mW pa va sz fr tw ta wd wb wp ou o1 o2 pf pt ki bi ste hel low hgh su ro fe vs wn tp dp la rst hlf nd (-2) frd fa at_ end_ ab fo co ll lh hm) 24 [.ref 0, .int 3] N (pG (mW pa va sz fr tw ta wd wb wp ou o1 o2 pf pt ki bi ste hel low hgh su ro fe vs wn tp dp la rst hlf nd (-2) frd fa at_ end_ ab fo co ll lh hm) N (some (.int 0))) := by
  refine enter (lv := [(0, .ref 0), (1, .int 3)]) (by decide +kernel) (Nat.le_of_ble_eq_true rfl) rfl hAD (fun U hK => ns_write hK hN) ?_
  intro p e s m below meth c A args hA C hr hlk hnm
  refine sg0 C foX9 coX9 oX9_told_0 rfl rfl rfl ?_
  refine b1_lt (tgt := 9) C jX9_told_1 (by decide) (fun h1 => ?_) (fun h1 => ?_)
  · exact absurd h1 (by decide)
  · refine sg0 C foX9 coX9 oX9_told_4 rfl rfl rfl ?_
    refine b2_le (tgt := 11) C jX9_told_6 (by decide) (fun h6 => ?_) (fun h6 => ?_)
    · refine sg0 C foX9 coX9 oX9_told_11 rfl rfl rfl ?_
      refine b2_ne (tgt := 32) C jX9_told_13 (by decide) (fun h13 => ?_) (fun h13 => ?_)
      · refine sg0 C foX9 coX9 oX9_told_32 rfl rfl rfl ?_
        refine b2_ne (tgt := 58) C jX9_told_34 (by decide) (fun h34 => ?_) (fun h34 => ?_)
        · refine sg0 C foX9 coX9 oX9_told_58 rfl rfl rfl ?_
          refine sg0 C foX9 coX9 oX9_told_59 rfl rfl rfl ?_
          refine b1_ne (tgt := 71) C jX9_told_61 (by decide) (fun h61 => ?_) (fun h61 => ?_)
          · refine sg0 C foX9 coX9 oX9_told_71 rfl rfl rfl ?_
            refine b2_ne (tgt := 83) C jX9_told_73 (by decide) (fun h73 => ?_) (fun h73 => ?_)
            · refine sg0 C foX9 coX9 oX9_told_83 rfl rfl rfl ?_
              refine b2_ne (tgt := 95) C jX9_told_85 (by decide) (fun h85 => ?_) (fun h85 => ?_)
              · refine sg0 C foX9 coX9 oX9_told_95 rfl rfl rfl ?_
                refine b2_ne (tgt := 120) C jX9_told_97 (by decide) (fun h97 => ?_) (fun h97 => ?_)
                · exact absurd rfl h97
                · refine sg0 C foX9 coX9 oX9_told_100 rfl rfl rfl ?_
                  refine b2_ne (tgt := 113) C jX9_told_106 (by decide) (fun h106 => ?_) (fun h106 => ?_)
                  · exact absurd rfl h106
                  · refine sg0 C foX9 coX9 oX9_told_109 rfl rfl rfl ?_
                    exact rt_i C hr hlk jX9_told_149 (fun H hN => ⟨⟨rfl, rfl⟩, hN⟩)
              · exact absurd h85 (by decide)
            · exact absurd h73 (by decide)
          · exact absurd h61 (by decide)
        · exact absurd h34 (by decide)
      · exact absurd h13 (by decide)
    · exact absurd (by decide) h6
set_option maxRecDepth 100000 in
set_option maxHeartbeats 4000000 in
theorem kX9_told4_none (hAD : AD ad 24) (hN : NS D N)  : Ct l yX9_told cX9_told 4 (some .int) (rK 0 0 0) D ca ad (mW pa va sz fr tw ta wd wb wp ou o1 o2 pf pt ki bi ste hel low hgh su ro fe vs wn tp dp la rst hlf nd (-2) frd fa at_ end_ ab fo co ll lh hm) 24 [.ref 0, .int 4] N (pG (mW pa va sz fr tw ta wd wb wp ou o1 o2 pf pt ki bi ste hel low hgh su ro fe vs wn tp dp la rst hlf nd (-2) frd fa at_ end_ ab fo co ll lh hm) N (some (.int 0))) := by
  refine enter (lv := [(0, .ref 0), (1, .int 4)]) (by decide +kernel) (Nat.le_of_ble_eq_true rfl) rfl hAD (fun U hK => ns_write hK hN) ?_
  intro p e s m below meth c A args hA C hr hlk hnm
  refine sg0 C foX9 coX9 oX9_told_0 rfl rfl rfl ?_
  refine b1_lt (tgt := 9) C jX9_told_1 (by decide) (fun h1 => ?_) (fun h1 => ?_)
  · exact absurd h1 (by decide)
  · refine sg0 C foX9 coX9 oX9_told_4 rfl rfl rfl ?_
    refine b2_le (tgt := 11) C jX9_told_6 (by decide) (fun h6 => ?_) (fun h6 => ?_)
    · refine sg0 C foX9 coX9 oX9_told_11 rfl rfl rfl ?_
      refine b2_ne (tgt := 32) C jX9_told_13 (by decide) (fun h13 => ?_) (fun h13 => ?_)
      · exact absurd rfl h13
      · refine sg0 C foX9 coX9 oX9_told_16 rfl rfl rfl ?_
        refine b2_eq (tgt := 32) C jX9_told_22 (by decide) (fun h22 => ?_) (fun h22 => ?_)
        · refine sg0 C foX9 coX9 oX9_told_32 rfl rfl rfl ?_
          refine b2_ne (tgt := 58) C jX9_told_34 (by decide) (fun h34 => ?_) (fun h34 => ?_)
          · refine sg0 C foX9 coX9 oX9_told_58 rfl rfl rfl ?_
            refine sg0 C foX9 coX9 oX9_told_59 rfl rfl rfl ?_
            refine b1_ne (tgt := 71) C jX9_told_61 (by decide) (fun h61 => ?_) (fun h61 => ?_)
            · refine sg0 C foX9 coX9 oX9_told_71 rfl rfl rfl ?_
              refine b2_ne (tgt := 83) C jX9_told_73 (by decide) (fun h73 => ?_) (fun h73 => ?_)
              · refine sg0 C foX9 coX9 oX9_told_83 rfl rfl rfl ?_
                refine b2_ne (tgt := 95) C jX9_told_85 (by decide) (fun h85 => ?_) (fun h85 => ?_)
                · refine sg0 C foX9 coX9 oX9_told_95 rfl rfl rfl ?_
                  refine b2_ne (tgt := 120) C jX9_told_97 (by decide) (fun h97 => ?_) (fun h97 => ?_)
                  · refine sg0 C foX9 coX9 oX9_told_120 rfl rfl rfl ?_
                    refine b2_ne (tgt := 145) C jX9_told_122 (by decide) (fun h122 => ?_) (fun h122 => ?_)
                    · exact absurd rfl h122
                    · refine sg0 C foX9 coX9 oX9_told_125 rfl rfl rfl ?_
                      refine b2_ne (tgt := 138) C jX9_told_131 (by decide) (fun h131 => ?_) (fun h131 => ?_)
                      · exact absurd rfl h131
                      · refine sg0 C foX9 coX9 oX9_told_134 rfl rfl rfl ?_
                        exact rt_i C hr hlk jX9_told_149 (fun H hN => ⟨⟨rfl, rfl⟩, hN⟩)
                  · exact absurd h97 (by decide)
                · exact absurd h85 (by decide)
              · exact absurd h73 (by decide)
            · exact absurd h61 (by decide)
          · exact absurd h34 (by decide)
        · exact absurd rfl h22
    · exact absurd (by decide) h6
set_option maxRecDepth 100000 in
set_option maxHeartbeats 4000000 in
theorem kX9_told3 (hAD : AD ad 24) (hN : NS D N) {U : Term} (hgd : gdV (ki, bi, ste, hel, low, hgh) U) : Ct l yX9_told cX9_told 4 (some .int) (rK 0 0 0) D ca ad (mW pa va sz fr tw ta wd wb wp ou o1 o2 pf pt ki bi ste hel low hgh su ro fe vs wn tp dp la rst hlf nd (nI (adr U)) frd fa at_ end_ ab fo co ll lh hm) 24 [.ref 0, .int 3] N (pG (mW pa va sz fr tw ta wd wb wp ou o1 o2 pf pt ki bi ste hel low hgh su ro fe vs wn tp dp la rst hlf nd (nI (adr U)) frd fa at_ end_ ab fo co ll lh hm) N (some (.int nd))) := by
  have hbU : adr U < 1600 := hgd.2.2 _ (adr_ids _ hgd.1)
  refine enter (lv := [(0, .ref 0), (1, .int 3)]) (by decide +kernel) (Nat.le_of_ble_eq_true rfl) rfl hAD (fun U hK => ns_write hK hN) ?_
  intro p e s m below meth c A args hA C hr hlk hnm
  refine sg0 C foX9 coX9 oX9_told_0 rfl rfl rfl ?_
  refine b1_lt (tgt := 9) C jX9_told_1 (by decide) (fun h1 => ?_) (fun h1 => ?_)
  · exact absurd h1 (by decide)
  · refine sg0 C foX9 coX9 oX9_told_4 rfl rfl rfl ?_
    refine b2_le (tgt := 11) C jX9_told_6 (by decide) (fun h6 => ?_) (fun h6 => ?_)
    · refine sg0 C foX9 coX9 oX9_told_11 rfl rfl rfl ?_
      refine b2_ne (tgt := 32) C jX9_told_13 (by decide) (fun h13 => ?_) (fun h13 => ?_)
      · refine sg0 C foX9 coX9 oX9_told_32 rfl rfl rfl ?_
        refine b2_ne (tgt := 58) C jX9_told_34 (by decide) (fun h34 => ?_) (fun h34 => ?_)
        · refine sg0 C foX9 coX9 oX9_told_58 rfl rfl rfl ?_
          refine sg0 C foX9 coX9 oX9_told_59 rfl rfl rfl ?_
          refine b1_ne (tgt := 71) C jX9_told_61 (by decide) (fun h61 => ?_) (fun h61 => ?_)
          · refine sg0 C foX9 coX9 oX9_told_71 rfl rfl rfl ?_
            refine b2_ne (tgt := 83) C jX9_told_73 (by decide) (fun h73 => ?_) (fun h73 => ?_)
            · refine sg0 C foX9 coX9 oX9_told_83 rfl rfl rfl ?_
              refine b2_ne (tgt := 95) C jX9_told_85 (by decide) (fun h85 => ?_) (fun h85 => ?_)
              · refine sg0 C foX9 coX9 oX9_told_95 rfl rfl rfl ?_
                refine b2_ne (tgt := 120) C jX9_told_97 (by decide) (fun h97 => ?_) (fun h97 => ?_)
                · exact absurd rfl h97
                · refine sg0 C foX9 coX9 oX9_told_100 rfl rfl rfl ?_
                  refine b2_ne (tgt := 113) C jX9_told_106 (by decide) (fun h106 => ?_) (fun h106 => ?_)
                  · refine sg0 C foX9 coX9 oX9_told_113 rfl rfl rfl ?_
                    exact rt_i C hr hlk jX9_told_149 (fun H hN => ⟨⟨rfl, rfl⟩, hN⟩)
                  · exact absurd h106 (nI_m2 (by omega))
              · exact absurd h85 (by decide)
            · exact absurd h73 (by decide)
          · exact absurd h61 (by decide)
        · exact absurd h34 (by decide)
      · exact absurd h13 (by decide)
    · exact absurd (by decide) h6
set_option maxRecDepth 100000 in
set_option maxHeartbeats 4000000 in
theorem kX9_told4 (hAD : AD ad 24) (hN : NS D N) {U : Term} (hgd : gdV (ki, bi, ste, hel, low, hgh) U) (hfit : fitT U 16) (hn8 : nodT U ≤ 800) : Ct l yX9_told cX9_told 4 (some .int) (rK 3 0 0) D ca ad (mW pa va sz fr tw ta wd wb wp ou o1 o2 pf pt ki bi ste hel low hgh su ro fe vs wn tp dp la rst hlf nd (nI (adr U)) frd fa at_ end_ ab fo co ll lh hm) 24 [.ref 0, .int 4] N (fun r ws2 H => ∃ (p1 p2 p3 p4 : Nat → Int32), (r = some (.int (nI (hidT U 0 65535 0 65535))) ∧ ws2 = (mW pa va sz fr tw ta wd wb wp ou p1 p2 p3 p4 ki bi ste hel low hgh su ro fe vs wn tp dp la 0 hlf nd (nI (adr U)) frd fa at_ end_ ab fo (nI (cntT U 0 65535)) (nI (llT U 0 65535)) (nI (lhT U 0 65535 0 65535)) (nI (hmT U)))) ∧ N H) := by
  have hbU : adr U < 1600 := hgd.2.2 _ (adr_ids _ hgd.1)
  refine enter (lv := [(0, .ref 0), (1, .int 4)]) (by decide +kernel) (Nat.le_of_ble_eq_true rfl) rfl hAD (fun U hK => ns_write hK hN) ?_
  intro p e s m below meth c A args hA C hr hlk hnm
  refine sg0 C foX9 coX9 oX9_told_0 rfl rfl rfl ?_
  refine b1_lt (tgt := 9) C jX9_told_1 (by decide) (fun h1 => ?_) (fun h1 => ?_)
  · exact absurd h1 (by decide)
  · refine sg0 C foX9 coX9 oX9_told_4 rfl rfl rfl ?_
    refine b2_le (tgt := 11) C jX9_told_6 (by decide) (fun h6 => ?_) (fun h6 => ?_)
    · refine sg0 C foX9 coX9 oX9_told_11 rfl rfl rfl ?_
      refine b2_ne (tgt := 32) C jX9_told_13 (by decide) (fun h13 => ?_) (fun h13 => ?_)
      · exact absurd rfl h13
      · refine sg0 C foX9 coX9 oX9_told_16 rfl rfl rfl ?_
        refine b2_eq (tgt := 32) C jX9_told_22 (by decide) (fun h22 => ?_) (fun h22 => ?_)
        · exact absurd h22 (nI_m2 (by omega))
        · refine sg0 C foX9 coX9 oX9_told_25 rfl rfl rfl ?_
          refine cl_v C (kX9_goThrough hAD hN hgd hfit hn8 (a := 0) (b := 65535) (by decide) (by decide) (by decide)) (rcv (ci := 8) C.2.1 rfl rfl) cd_X9_goThrough in_X9 ml_X9_233 im_X9_goThrough se_X9_goThrough hd_X9_goThrough rfl rfl ⟨(Nat.le_of_ble_eq_true rfl), (Nat.le_of_ble_eq_true rfl)⟩ ⟨(Nat.le_of_ble_eq_true rfl), (Nat.le_of_ble_eq_true rfl)⟩ (Nat.le_of_ble_eq_true rfl) jX9_told_29 (fun v ws' => Wa.ex (fun p1 => Wa.ex (fun p2 => Wa.ex (fun p3 => Wa.ex (fun p4 => Wa.and (fun hv => ?_))))))
          obtain ⟨rfl, rfl⟩ := hv
          refine sg0 C foX9 coX9 oX9_told_32 rfl rfl rfl ?_
          refine b2_ne (tgt := 58) C jX9_told_34 (by decide) (fun h34 => ?_) (fun h34 => ?_)
          · refine sg0 C foX9 coX9 oX9_told_58 rfl rfl rfl ?_
            refine sg0 C foX9 coX9 oX9_told_59 rfl rfl rfl ?_
            refine b1_ne (tgt := 71) C jX9_told_61 (by decide) (fun h61 => ?_) (fun h61 => ?_)
            · refine sg0 C foX9 coX9 oX9_told_71 rfl rfl rfl ?_
              refine b2_ne (tgt := 83) C jX9_told_73 (by decide) (fun h73 => ?_) (fun h73 => ?_)
              · refine sg0 C foX9 coX9 oX9_told_83 rfl rfl rfl ?_
                refine b2_ne (tgt := 95) C jX9_told_85 (by decide) (fun h85 => ?_) (fun h85 => ?_)
                · refine sg0 C foX9 coX9 oX9_told_95 rfl rfl rfl ?_
                  refine b2_ne (tgt := 120) C jX9_told_97 (by decide) (fun h97 => ?_) (fun h97 => ?_)
                  · refine sg0 C foX9 coX9 oX9_told_120 rfl rfl rfl ?_
                    refine b2_ne (tgt := 145) C jX9_told_122 (by decide) (fun h122 => ?_) (fun h122 => ?_)
                    · exact absurd rfl h122
                    · refine sg0 C foX9 coX9 oX9_told_125 rfl rfl rfl ?_
                      refine b2_ne (tgt := 138) C jX9_told_131 (by decide) (fun h131 => ?_) (fun h131 => ?_)
                      · refine sg0 C foX9 coX9 oX9_told_138 rfl rfl rfl ?_
                        exact rt_i C hr hlk jX9_told_149 (fun H hH => ⟨p1, p2, p3, p4, ⟨by rw [hm_hid U hgd.1 16 0 65535 hfit (by decide)], rfl⟩, hH⟩)
                      · exact absurd h131 (nI_m2 (by omega))
                  · exact absurd h97 (by decide)
                · exact absurd h85 (by decide)
              · exact absurd h73 (by decide)
            · exact absurd h61 (by decide)
          · exact absurd h34 (by decide)
    · exact absurd (by decide) h6
set_option maxRecDepth 100000 in
set_option maxHeartbeats 4000000 in
theorem kX9_told5 (hAD : AD ad 24) (hN : NS D N) {T : Term} (hT : isT T) (hok : okM T) (hxs : lsR pa va 2400 (lvs T)) (hsz : sz 8 = nI (lvs T).length) (hlen : (lvs T).length ≤ 300) : Ct l yX9_told cX9_told 4 (some .int) (rK 3 0 0) D ca ad (mW pa va sz fr tw ta wd wb wp ou o1 o2 pf pt ki bi ste hel low hgh su ro fe vs wn tp dp la rst hlf nd rt frd fa at_ end_ ab fo co ll lh hm) 24 [.ref 0, .int 5] N (fun r ws2 H => ∃ (wd2 : Nat → Int64) (wb2 wp2 : Nat → Int32), (r = some (.int (nI (frkT T))) ∧ ws2 = (mW pa va sz fr tw ta wd2 wb2 wp2 ou o1 o2 pf pt ki bi ste hel low hgh su ro fe vs wn tp (nI (frkT T)) la rst hlf nd rt frd fa at_ end_ ab fo co ll lh hm)) ∧ N H) := by
  refine enter (lv := [(0, .ref 0), (1, .int 5)]) (by decide +kernel) (Nat.le_of_ble_eq_true rfl) rfl hAD (fun U hK => ns_write hK hN) ?_
  intro p e s m below meth c A args hA C hr hlk hnm
  refine sg0 C foX9 coX9 oX9_told_0 rfl rfl rfl ?_
  refine b1_lt (tgt := 9) C jX9_told_1 (by decide) (fun h1 => ?_) (fun h1 => ?_)
  · exact absurd h1 (by decide)
  · refine sg0 C foX9 coX9 oX9_told_4 rfl rfl rfl ?_
    refine b2_le (tgt := 11) C jX9_told_6 (by decide) (fun h6 => ?_) (fun h6 => ?_)
    · refine sg0 C foX9 coX9 oX9_told_11 rfl rfl rfl ?_
      refine b2_ne (tgt := 32) C jX9_told_13 (by decide) (fun h13 => ?_) (fun h13 => ?_)
      · refine sg0 C foX9 coX9 oX9_told_32 rfl rfl rfl ?_
        refine b2_ne (tgt := 58) C jX9_told_34 (by decide) (fun h34 => ?_) (fun h34 => ?_)
        · exact absurd rfl h34
        · refine sg C foX9 coX9 oX9_told_37 rfl rfl rfl ⟨(show vp_in (nI 8) 9 from vp_in_nI (by decide) (by decide)), trivial⟩ ?_
          rw [show sz (8 : Int32).toNatClampNeg = nI (lvs T).length from hsz, show (2400 : Int32) + nI (lvs T).length = nI (2400 + (lvs T).length) from nI_add 2400 _]
          refine cl_v C (kX9_digestM hAD hN (a := 2400) hT hok hxs (by omega)) (rcv (ci := 8) C.2.1 rfl rfl) cd_X9_digest in_X9 ml_X9_135 im_X9_digest se_X9_digest hd_X9_digest rfl rfl ⟨(Nat.le_of_ble_eq_true rfl), (Nat.le_of_ble_eq_true rfl)⟩ ⟨(Nat.le_of_ble_eq_true rfl), (Nat.le_of_ble_eq_true rfl)⟩ (Nat.le_of_ble_eq_true rfl) jX9_told_52 (fun v ws' => Wa.ex (fun wd2 => Wa.ex (fun wb2 => Wa.ex (fun wp2 => Wa.and (fun hv => ?_)))))
          obtain ⟨rfl, rfl⟩ := hv
          refine sg0 C foX9 coX9 oX9_told_55 rfl rfl rfl ?_
          refine sg0 C foX9 coX9 oX9_told_59 rfl rfl rfl ?_
          refine b1_ne (tgt := 71) C jX9_told_61 (by decide) (fun h61 => ?_) (fun h61 => ?_)
          · refine sg0 C foX9 coX9 oX9_told_71 rfl rfl rfl ?_
            refine b2_ne (tgt := 83) C jX9_told_73 (by decide) (fun h73 => ?_) (fun h73 => ?_)
            · refine sg0 C foX9 coX9 oX9_told_83 rfl rfl rfl ?_
              refine b2_ne (tgt := 95) C jX9_told_85 (by decide) (fun h85 => ?_) (fun h85 => ?_)
              · refine sg0 C foX9 coX9 oX9_told_95 rfl rfl rfl ?_
                refine b2_ne (tgt := 120) C jX9_told_97 (by decide) (fun h97 => ?_) (fun h97 => ?_)
                · refine sg0 C foX9 coX9 oX9_told_120 rfl rfl rfl ?_
                  refine b2_ne (tgt := 145) C jX9_told_122 (by decide) (fun h122 => ?_) (fun h122 => ?_)
                  · refine sg0 C foX9 coX9 oX9_told_145 rfl rfl rfl ?_
                    exact rt_i C hr hlk jX9_told_149 (fun H hH => ⟨wd2, wb2, wp2, ⟨rfl, rfl⟩, hH⟩)
                  · exact absurd h122 (by decide)
                · exact absurd h97 (by decide)
              · exact absurd h85 (by decide)
            · exact absurd h73 (by decide)
          · exact absurd h61 (by decide)
      · exact absurd h13 (by decide)
    · exact absurd (by decide) h6
set_option maxRecDepth 100000 in
set_option maxHeartbeats 4000000 in
theorem kX9_told_bad (hAD : AD ad 24) (hN : NS D N) (x : Int32) (hx : x.toInt < 0 ∨ 5 < x.toInt) : Ct l yX9_told cX9_told 4 (some .int) (rK 0 0 0) D ca ad (mW pa va sz fr tw ta wd wb wp ou o1 o2 pf pt ki bi ste hel low hgh su ro fe vs wn tp dp la rst hlf nd rt frd fa at_ end_ ab fo co ll lh hm) 24 [.ref 0, .int x] N (pG (mW pa va sz fr tw ta wd wb wp ou o1 o2 pf pt ki bi ste hel low hgh su ro fe vs wn tp dp la rst hlf nd rt frd fa at_ end_ ab fo co ll lh hm) N (some (.int (-1)))) := by
  refine enter (lv := [(0, .ref 0), (1, .int x)]) (by decide +kernel) (Nat.le_of_ble_eq_true rfl) rfl hAD (fun U hK => ns_write hK hN) ?_
  intro p e s m below meth c A args hA C hr hlk hnm
  refine sg0 C foX9 coX9 oX9_told_0 rfl rfl rfl ?_
  refine b1_lt (tgt := 9) C jX9_told_1 (by decide) (fun h1 => ?_) (fun h1 => ?_)
  · refine sg0 C foX9 coX9 oX9_told_9 rfl rfl rfl ?_
    exact rt_i C hr hlk jX9_told_10 (fun H hN => ⟨⟨rfl, rfl⟩, hN⟩)
  · refine sg0 C foX9 coX9 oX9_told_4 rfl rfl rfl ?_
    refine b2_le (tgt := 11) C jX9_told_6 (by decide) (fun h6 => ?_) (fun h6 => ?_)
    · exact absurd (Int32.le_iff_toInt_le.mp h6) (by have h9 : ¬ x.toInt < 0 := fun e9 => h1 (Int32.lt_iff_toInt_lt.mpr e9); rw [show (5 : Int32).toInt = 5 from rfl]; omega)
    · refine sg0 C foX9 coX9 oX9_told_9 rfl rfl rfl ?_
      exact rt_i C hr hlk jX9_told_10 (fun H hN => ⟨⟨rfl, rfl⟩, hN⟩)
end
