/-! the model: show -/
theorem shw_no (Rg : List (Nat × Nat)) (T : Term) (hT : isT T) {f t : Nat} (h : ¬ meR Rg f t = true) : shwT Rg T f t = octs 1 0 ++ octs 8 (dig T) := by
  rcases shp T hT with ⟨q, rfl⟩ | ⟨q, d, rfl⟩ | ⟨q, p, v, rfl⟩ | ⟨q, B, S, x, y, rfl⟩
  · simp only [shwT]; rw [if_neg h]; rfl
  · rfl
  · simp only [shwT]; rw [if_neg h]; rfl
  · simp only [shwT]; rw [if_neg h]; rfl
/-- the entries of the list of what is left to do, below r -/
def rsR (r : Nat) (o1 p1 o2 p2 o3 p3 o4 p4 : Nat → Int32) : Prop := ∀ j, j < r → p1 j = o1 j ∧ p2 j = o2 j ∧ p3 j = o3 j ∧ p4 j = o4 j
theorem rs_0 {r : Nat} {o1 o2 o3 o4 : Nat → Int32} : rsR r o1 o1 o2 o2 o3 o3 o4 o4 := fun _ _ => ⟨rfl, rfl, rfl, rfl⟩
/-- above: two more were put there, and taken from there -/
theorem rs_2 {r : Nat} {o1 p1 o2 p2 o3 p3 o4 p4 q1 q2 q3 q4 : Nat → Int32} {a b : Int32} {c d e f g h : Int32} (h1 : rsR (r + 1) (upd (upd o1 r a) (r + 1) b) p1 (upd (upd o2 r c) (r + 1) d) p2 (upd (upd o3 r e) (r + 1) f) p3 (upd (upd o4 r g) (r + 1) h) p4) (h2 : rsR r p1 q1 p2 q2 p3 q3 p4 q4) : rsR r o1 q1 o2 q2 o3 q3 o4 q4 := fun j hj => by
  have e1 : ¬ j = r := by omega
  have e2 : ¬ j = r + 1 := by omega
  obtain ⟨x1, x2, x3, x4⟩ := h1 j (by omega)
  obtain ⟨y1, y2, y3, y4⟩ := h2 j hj
  simp only [upd, if_neg e1, if_neg e2] at x1 x2 x3 x4
  exact ⟨y1.trans x1, y2.trans x2, y3.trans x3, y4.trans x4⟩
theorem rs_at {r : Nat} {o1 p1 o2 p2 o3 p3 o4 p4 : Nat → Int32} {a b : Int32} {c d e f g h : Int32} (h1 : rsR (r + 1) (upd (upd o1 r a) (r + 1) b) p1 (upd (upd o2 r c) (r + 1) d) p2 (upd (upd o3 r e) (r + 1) f) p3 (upd (upd o4 r g) (r + 1) h) p4) : p1 r = a ∧ p2 r = c ∧ p3 r = e ∧ p4 r = g := by
  have e2 : ¬ r = r + 1 := by omega
  obtain ⟨x1, x2, x3, x4⟩ := h1 r (by omega)
  simp only [upd, if_neg e2, if_pos] at x1 x2 x3 x4
  exact ⟨x1, x2, x3, x4⟩
theorem ls_app1 {pa : Nat → Int32} {va : Nat → Int64} {a : Nat} {x y : List (Nat × Int64)} (h : lsR pa va a (x ++ y)) : lsR pa va a x := fun j q hq => h j q (by rw [List.getElem?_append_left (List.getElem?_eq_some_iff.mp hq).1]; exact hq)
theorem ls_app2 {pa : Nat → Int32} {va : Nat → Int64} {a : Nat} {x y : List (Nat × Int64)} (h : lsR pa va a (x ++ y)) : lsR pa va (a + x.length) y := fun j q hq => by
  have := h (x.length + j) q (by rw [List.getElem?_append_right (by omega), Nat.add_sub_cancel_left]; exact hq)
  rw [Nat.add_assoc]; exact this
theorem ver_le {nv b ix : Nat} {x : Int32} (hnv : nv ≤ 8) (h : verR nv x b ix) : b ≤ 2400 := by
  rcases h with ⟨-, e, -⟩ | ⟨-, e1, e2⟩ <;> omega
theorem Ct.post {l : Launch} {y : MethodName} {bytes : ByteArray} {maxL : Nat} {ret : Option FieldType} {rm : Room} {D : va_G} {ca : Nat → ClassId} {ad : Nat → Nat} {ws : List va_E} {n : Nat} {av : List Value} {N : Heap → Prop} {G G2 : Option Value → List va_E → Heap → Prop} (h : Ct l y bytes maxL ret rm D ca ad ws n av N G) (hG : ∀ r ws2 H, G r ws2 H → G2 r ws2 H) : Ct l y bytes maxL ret rm D ca ad ws n av N G2 := by
  intro sz p e ha hc hk s m args below hf hap hP hT
  obtain ⟨t, o, h1, h2, h3, ⟨⟨v, ws2, e1, e2, e3⟩, e4⟩, hF⟩ := h sz p e ha hc hk s m args below hf hap hP hT
  exact ⟨t, o, h1, h2, h3, ⟨⟨v, ws2, e1, e2, hG _ _ _ e3⟩, e4⟩, hF⟩
section
variable {p : Program} {l : Launch} {e : Env} {R : Room} {s : State} {m : MethodId} {args : Array Value} {below : List Frame} {meth : Method} {c : Code} {cells slots : Nat} {QQ : State → Prop} {D : va_G} {ca : Nat → ClassId} {ad : Nat → Nat} {A : Nat → Prop} {N : Heap → Prop} {pa : Nat → Int32} {va : Nat → Int64} {sz : Nat → Int32} {fr : Nat → Int32} {tw : Nat → Int32} {ta : Nat → Int32} {wd : Nat → Int64} {wb : Nat → Int32} {wp : Nat → Int32} {ou : Nat → Int32} {o1 : Nat → Int32} {o2 : Nat → Int32} {pf : Nat → Int32} {pt : Nat → Int32} {ki : Nat → Int32} {bi : Nat → Int32} {ste : Nat → Int32} {hel : Nat → Int64} {low : Nat → Int32} {hgh : Nat → Int32} {su : Nat → Int64} {ro : Nat → Int32} {fe : Nat → Int32} {vs : Int32} {wn : Int32} {tp : Int32} {dp : Int32} {la : Int32} {rst : Int32} {hlf : Int32} {nd : Int32} {rt : Int32} {frd : Int32} {fa : Int32} {at_ : Int32} {end_ : Int32} {ab : Int32} {fo : Int64} {co : Int32} {ll : Int32} {lh : Int32} {hm : Int32}
set_option maxRecDepth 100000 in
set_option maxHeartbeats 4000000 in
theorem sw_half (C : Cx p s m args c cX9_show 9 RX9 D ca ad A N 24) {a hf : Nat} {x1 x2 x4 x5 x6 : Int32} {xl : List (Nat × Int64)} {w : Nat × Int64} {yl : List (Nat × Int64)} (hxs : lsR pa va a (xl ++ w :: yl)) (hb : a + xl.length + 1 ≤ 2700) (hhf : hf ≤ 65536) (hx : ∀ q ∈ xl, q.1 < hf) (hw : hf ≤ w.1) (hw2 : w.1 < 65536) (hK : Wa p l e R s m args below meth c cells slots QQ D ca ad A 9 N ([(0, .ref 0), (1, .int x1), (2, .int x2), (3, .int (nI a)), (4, .int x4), (5, .int x5), (6, .int x6), (7, .int (nI hf)), (8, .int (nI (a + xl.length)))], [], (mW pa va sz fr tw ta wd wb wp ou o1 o2 pf pt ki bi ste hel low hgh su ro fe vs wn tp dp la rst hlf nd rt frd fa at_ end_ ab fo co ll lh hm)) 250) : ∀ (suf pre : List (Nat × Int64)), xl = pre ++ suf → Wa p l e R s m args below meth c cells slots QQ D ca ad A 9 N ([(0, .ref 0), (1, .int x1), (2, .int x2), (3, .int (nI a)), (4, .int x4), (5, .int x5), (6, .int x6), (7, .int (nI hf)), (8, .int (nI (a + pre.length)))], [], (mW pa va sz fr tw ta wd wb wp ou o1 o2 pf pt ki bi ste hel low hgh su ro fe vs wn tp dp la rst hlf nd rt frd fa at_ end_ ab fo co ll lh hm)) 232 := by
  intro suf
  induction suf with
  | nil =>
    intro pre he
    have hl : xl = pre := by rw [he]; simp
    subst hl
    have h1 := (hxs xl.length w (by simp)).1
    refine sg C foX9 coX9 oX9_show_232 rfl rfl rfl ⟨vp_in_nI (by omega) (by decide), trivial⟩ ?_
    rw [nI_clamp (show a + xl.length < 2 ^ 31 by omega), h1]
    exact b2_ge (tgt := 250) C jX9_show_241 (by decide) (fun _ => hK) (fun h9 => absurd (nI_le hw (by omega)) h9)
  | cons q suf ih =>
    intro pre he
    have hl : pre.length < xl.length := by rw [he]; simp
    have h1 := (hxs pre.length q (by rw [he]; simp)).1
    have h2 := hx q (by rw [he]; simp)
    refine sg C foX9 coX9 oX9_show_232 rfl rfl rfl ⟨vp_in_nI (by omega) (by decide), trivial⟩ ?_
    rw [nI_clamp (show a + pre.length < 2 ^ 31 by omega), h1]
    refine b2_ge (tgt := 250) C jX9_show_241 (by decide) (fun h9 => absurd h9 (nI_ge h2 (by omega))) (fun h9 => ?_)
    refine sg0 C foX9 coX9 oX9_show_244 rfl rfl rfl ?_
    rw [nI_1]
    have h8 := ih (pre ++ [q]) (by rw [he]; simp)
    rw [show a + (pre ++ [q]).length = a + pre.length + 1 by simp; omega] at h8
    exact h8
set_option maxRecDepth 100000 in
set_option maxHeartbeats 4000000 in
theorem sw_tree (C : Cx p s m args c cX9_show 9 RX9 D ca ad A N 24) (hAD : AD ad 24) (hN : NS D N) (hR : 3 ≤ R.frames ∧ 120 ≤ R.locals ∧ cells ≤ R.cells ∧ slots ≤ R.slots) {x1 x2 : Int32} {Rg : List (Nat × Nat)} (hRg : rgR fr tw Rg) (T : Term) (hT : isT T) : ∀ (F k r a : Nat) (o1 o2 pf pt ou : Nat → Int32) (wd : Nat → Int64) (wb wp : Nat → Int32) (dp : Int32) (S0 : List Int32), (okT (T) F k ∧ fll (T)) ∨ strp (T) = tE 0 → (F + 1) * 2 ^ k ≤ 65536 → k ≤ 16 → r + k ≤ 16 → o1 r = nI a → o2 r = nI (a + (lvs (T)).length) → pf r = nI (F * 2 ^ k) → pt r = nI ((F + 1) * 2 ^ k - 1) → lsR pa va a (lvs (T)) → a + (lvs (T)).length ≤ 2700 → tpR ou S0 → S0.length + 15 * 2 ^ (k + 1) ≤ 2 ^ 30 → (∀ (p1 p2 p3 p4 ou2 : Nat → Int32) (wd2 : Nat → Int64) (wb2 wp2 : Nat → Int32) (dp2 : Int32), rsR r o1 p1 o2 p2 pf p3 pt p4 → tpR ou2 (S0 ++ shwT Rg (T) (F * 2 ^ k) ((F + 1) * 2 ^ k - 1)) → Wa p l e R s m args below meth c cells slots QQ D ca ad A 9 N ([(0, .ref 0), (1, .int x1), (2, .int x2)], [], (mW pa va sz fr tw ta wd2 wb2 wp2 ou2 p1 p2 p3 p4 ki bi ste hel low hgh su ro fe vs (nI Rg.length) tp dp2 (nI (S0 ++ shwT Rg (T) (F * 2 ^ k) ((F + 1) * 2 ^ k - 1)).length) (nI r) hlf nd rt frd fa at_ end_ ab fo co ll lh hm)) 39) → Wa p l e R s m args below meth c cells slots QQ D ca ad A 9 N ([(0, .ref 0), (1, .int x1), (2, .int x2)], [], (mW pa va sz fr tw ta wd wb wp ou o1 o2 pf pt ki bi ste hel low hgh su ro fe vs (nI Rg.length) tp dp (nI S0.length) (nI (r + 1)) hlf nd rt frd fa at_ end_ ab fo co ll lh hm)) 39 := by
  obtain ⟨hR1, hR2, hR3, hR4⟩ := hR
  refine tr_ind (P := fun T => ∀ (F k r a : Nat) (o1 o2 pf pt ou : Nat → Int32) (wd : Nat → Int64) (wb wp : Nat → Int32) (dp : Int32) (S0 : List Int32), (okT (T) F k ∧ fll (T)) ∨ strp (T) = tE 0 → (F + 1) * 2 ^ k ≤ 65536 → k ≤ 16 → r + k ≤ 16 → o1 r = nI a → o2 r = nI (a + (lvs (T)).length) → pf r = nI (F * 2 ^ k) → pt r = nI ((F + 1) * 2 ^ k - 1) → lsR pa va a (lvs (T)) → a + (lvs (T)).length ≤ 2700 → tpR ou S0 → S0.length + 15 * 2 ^ (k + 1) ≤ 2 ^ 30 → (∀ (p1 p2 p3 p4 ou2 : Nat → Int32) (wd2 : Nat → Int64) (wb2 wp2 : Nat → Int32) (dp2 : Int32), rsR r o1 p1 o2 p2 pf p3 pt p4 → tpR ou2 (S0 ++ shwT Rg (T) (F * 2 ^ k) ((F + 1) * 2 ^ k - 1)) → Wa p l e R s m args below meth c cells slots QQ D ca ad A 9 N ([(0, .ref 0), (1, .int x1), (2, .int x2)], [], (mW pa va sz fr tw ta wd2 wb2 wp2 ou2 p1 p2 p3 p4 ki bi ste hel low hgh su ro fe vs (nI Rg.length) tp dp2 (nI (S0 ++ shwT Rg (T) (F * 2 ^ k) ((F + 1) * 2 ^ k - 1)).length) (nI r) hlf nd rt frd fa at_ end_ ab fo co ll lh hm)) 39) → Wa p l e R s m args below meth c cells slots QQ D ca ad A 9 N ([(0, .ref 0), (1, .int x1), (2, .int x2)], [], (mW pa va sz fr tw ta wd wb wp ou o1 o2 pf pt ki bi ste hel low hgh su ro fe vs (nI Rg.length) tp dp (nI S0.length) (nI (r + 1)) hlf nd rt frd fa at_ end_ ab fo co ll lh hm)) 39) ?_ ?_ ?_ ?_ T hT
  · intro q F k r a o1 o2 pf pt ou wd wb wp dp S0 hok hF hk hrk ho1 ho2 hpf hpt hxs hb hS hlen hK
    have hp0 : 2 ≤ 2 ^ (k + 1) := by have := Nat.two_pow_pos k; rw [Nat.pow_succ]; omega
    have hpk := Nat.two_pow_pos k
    have hfm : F * 2 ^ k + 2 ^ k = (F + 1) * 2 ^ k := by rw [Nat.add_mul, Nat.one_mul]
    have hcl : (nI r).toNatClampNeg = r := nI_clamp (by omega)
    have hp1 : nI (r + 1) - 1 = nI r := by rw [show (1 : Int32) = nI 1 from rfl, pk_sub (by omega)]; rfl
    refine sg0 C foX9 coX9 oX9_show_39 rfl rfl rfl ?_
    refine b1_le (tgt := 310) C jX9_show_43 (by decide) (fun h43 => ?_) (fun h43 => ?_)
    · exact absurd h43 (Int32.not_le.mpr (show nI 0 < nI (r + 1) from nI_lt (by omega) (by omega)))
    · refine sg C foX9 coX9 oX9_show_46 rfl rfl rfl (by rw [hp1]; exact ⟨vp_in_nI (by omega) (by decide), vp_in_nI (by omega) (by decide), vp_in_nI (by omega) (by decide), vp_in_nI (by omega) (by decide), trivial⟩) ?_
      rw [hp1, hcl, ho1, ho2, hpf, hpt]
      refine cl_v C (kX9_isWanted hAD hN hRg (show F * 2 ^ k < 65536 by omega) (show (F + 1) * 2 ^ k - 1 < 65536 by omega)) (rcv (ci := 8) C.2.1 rfl rfl) cd_X9_isWanted in_X9 ml_X9_157 im_X9_isWanted se_X9_isWanted hd_X9_isWanted rfl rfl ⟨by show 0 + 1 ≤ R.frames; omega, by show 8 + (5 + 11) + 40 * 0 ≤ R.locals; omega⟩ ⟨by show cells + 0 ≤ R.cells; omega, by show slots + 0 ≤ R.slots; omega⟩ (Nat.le_of_ble_eq_true rfl) jX9_show_96 (fun v ws' => Wa.and (fun hv => ?_))
      obtain ⟨rfl, rfl⟩ := hv
      refine b1_ne (tgt := 124) C jX9_show_99 (by decide) (fun h99 => ?_) (fun h99 => ?_)
      · have hm : meR Rg (F * 2 ^ k) ((F + 1) * 2 ^ k - 1) = true := Decidable.byContradiction fun e1 => h99 (if_neg e1)
        refine sg0 C foX9 coX9 oX9_show_124 rfl rfl rfl ?_
        refine b2_ne (tgt := 141) C jX9_show_127 (by decide) (fun h127 => ?_) (fun h127 => ?_)
        · exact absurd rfl h127
        · refine sg0 C foX9 coX9 oX9_show_130 rfl rfl rfl ?_
          refine cl_v C (kX9_lay hAD hN (S := S0) hS 1 (by decide) (by (try simp only [List.length_append, octs_len]); omega) (3)) (rcv (ci := 8) C.2.1 rfl rfl) cd_X9_lay in_X9 ml_X9_161 im_X9_lay se_X9_lay hd_X9_lay rfl rfl ⟨by show 0 + 1 ≤ R.frames; omega, by show 8 + (5 + 11) + 40 * 0 ≤ R.locals; omega⟩ ⟨by show cells + 0 ≤ R.cells; omega, by show slots + 0 ≤ R.slots; omega⟩ (Nat.le_of_ble_eq_true rfl) jX9_show_135 (fun v ws' => Wa.ex (fun s1 => Wa.and (fun hv => ?_)))
          obtain ⟨rfl, rfl, hs1⟩ := hv
          refine sg0 C foX9 coX9 oX9_show_138 rfl rfl rfl ?_
          refine sg0 C foX9 coX9 oX9_show_307 rfl rfl rfl ?_
          refine Wa.lvp [0, 1, 2] rfl ?_
          have h9 := hK o1 o2 pf pt s1 wd wb wp dp rs_0 (by rw [show shwT Rg (tE q) (F * 2 ^ k) ((F + 1) * 2 ^ k - 1) = octs 1 3 from by simp only [shwT]; rw [if_pos hm]]; simpa only [List.append_assoc] using hs1)
          rw [show shwT Rg (tE q) (F * 2 ^ k) ((F + 1) * 2 ^ k - 1) = octs 1 3 from by simp only [shwT]; rw [if_pos hm]] at h9
          (try simp only [← List.append_assoc] at h9)
          (try simp only [← List.append_assoc])
          exact h9
      · have hm : ¬ meR Rg (F * 2 ^ k) ((F + 1) * 2 ^ k - 1) = true := fun e1 => by rw [if_pos e1] at h99; exact absurd h99 (by decide)
        refine sg0 C foX9 coX9 oX9_show_102 rfl rfl rfl ?_
        refine cl_v C (kX9_lay hAD hN (S := S0) hS 1 (by decide) (by (try simp only [List.length_append, octs_len]); omega) (0)) (rcv (ci := 8) C.2.1 rfl rfl) cd_X9_lay in_X9 ml_X9_161 im_X9_lay se_X9_lay hd_X9_lay rfl rfl ⟨by show 0 + 1 ≤ R.frames; omega, by show 8 + (5 + 11) + 40 * 0 ≤ R.locals; omega⟩ ⟨by show cells + 0 ≤ R.cells; omega, by show slots + 0 ≤ R.slots; omega⟩ (Nat.le_of_ble_eq_true rfl) jX9_show_105 (fun v ws' => Wa.ex (fun s1 => Wa.and (fun hv => ?_)))
        obtain ⟨rfl, rfl, hs1⟩ := hv
        refine sg0 C foX9 coX9 oX9_show_108 rfl rfl rfl ?_
        refine cl_v C (kX9_digest0 hAD hN (a := a)) (rcv (ci := 8) C.2.1 rfl rfl) cd_X9_digest in_X9 ml_X9_135 im_X9_digest se_X9_digest hd_X9_digest rfl rfl ⟨by show 2 + 1 ≤ R.frames; omega, by show 8 + (9 + 11) + 40 * 2 ≤ R.locals; omega⟩ ⟨by show cells + 0 ≤ R.cells; omega, by show slots + 0 ≤ R.slots; omega⟩ (Nat.le_of_ble_eq_true rfl) jX9_show_113 (fun v ws' => Wa.and (fun hv => ?_))
        obtain ⟨rfl, rfl⟩ := hv
        refine sg0 C foX9 coX9 oX9_show_116 rfl rfl rfl ?_
        refine cl_v C (kX9_lay hAD hN (S := S0 ++ octs 1 0) hs1 8 (by decide) (by (try simp only [List.length_append, octs_len]); omega) (dig (tE q))) (rcv (ci := 8) C.2.1 rfl rfl) cd_X9_lay in_X9 ml_X9_161 im_X9_lay se_X9_lay hd_X9_lay rfl rfl ⟨by show 0 + 1 ≤ R.frames; omega, by show 8 + (5 + 11) + 40 * 0 ≤ R.locals; omega⟩ ⟨by show cells + 0 ≤ R.cells; omega, by show slots + 0 ≤ R.slots; omega⟩ (Nat.le_of_ble_eq_true rfl) jX9_show_118 (fun v ws' => Wa.ex (fun s2 => Wa.and (fun hv => ?_)))
        obtain ⟨rfl, rfl, hs2⟩ := hv
        refine sg0 C foX9 coX9 oX9_show_121 rfl rfl rfl ?_
        refine sg0 C foX9 coX9 oX9_show_307 rfl rfl rfl ?_
        refine Wa.lvp [0, 1, 2] rfl ?_
        have h9 := hK o1 o2 pf pt s2 wd wb wp 0 rs_0 (by rw [shw_no Rg (tE q) trivial hm]; simpa only [List.append_assoc] using hs2)
        rw [shw_no Rg (tE q) trivial hm] at h9
        (try simp only [← List.append_assoc] at h9)
        (try simp only [← List.append_assoc])
        exact h9
  · intro q d0 F k r a o1 o2 pf pt ou wd wb wp dp S0 hok hF hk hrk ho1 ho2 hpf hpt hxs hb hS hlen hK
    rcases hok with h | h
    · exact h.2.elim
    · exact absurd h (by simp [strp])
  · intro q P v0 F k r a o1 o2 pf pt ou wd wb wp dp S0 hok hF hk hrk ho1 ho2 hpf hpt hxs hb hS hlen hK
    have hp0 : 2 ≤ 2 ^ (k + 1) := by have := Nat.two_pow_pos k; rw [Nat.pow_succ]; omega
    have hpk := Nat.two_pow_pos k
    have hfm : F * 2 ^ k + 2 ^ k = (F + 1) * 2 ^ k := by rw [Nat.add_mul, Nat.one_mul]
    have hcl : (nI r).toNatClampNeg = r := nI_clamp (by omega)
    have hp1 : nI (r + 1) - 1 = nI r := by rw [show (1 : Int32) = nI 1 from rfl, pk_sub (by omega)]; rfl
    have hok2 : okT (tL q P v0) F k ∧ fll (tL q P v0) := hok.elim id (fun h => absurd h (by simp [strp]))
    obtain ⟨hr1, hr2⟩ := hxs 0 (P, v0) rfl
    have hb1 : a + 1 ≤ 2700 := hb
    refine sg0 C foX9 coX9 oX9_show_39 rfl rfl rfl ?_
    refine b1_le (tgt := 310) C jX9_show_43 (by decide) (fun h43 => ?_) (fun h43 => ?_)
    · exact absurd h43 (Int32.not_le.mpr (show nI 0 < nI (r + 1) from nI_lt (by omega) (by omega)))
    · refine sg C foX9 coX9 oX9_show_46 rfl rfl rfl (by rw [hp1]; exact ⟨vp_in_nI (by omega) (by decide), vp_in_nI (by omega) (by decide), vp_in_nI (by omega) (by decide), vp_in_nI (by omega) (by decide), trivial⟩) ?_
      rw [hp1, hcl, ho1, ho2, hpf, hpt]
      refine cl_v C (kX9_isWanted hAD hN hRg (show F * 2 ^ k < 65536 by omega) (show (F + 1) * 2 ^ k - 1 < 65536 by omega)) (rcv (ci := 8) C.2.1 rfl rfl) cd_X9_isWanted in_X9 ml_X9_157 im_X9_isWanted se_X9_isWanted hd_X9_isWanted rfl rfl ⟨by show 0 + 1 ≤ R.frames; omega, by show 8 + (5 + 11) + 40 * 0 ≤ R.locals; omega⟩ ⟨by show cells + 0 ≤ R.cells; omega, by show slots + 0 ≤ R.slots; omega⟩ (Nat.le_of_ble_eq_true rfl) jX9_show_96 (fun v ws' => Wa.and (fun hv => ?_))
      obtain ⟨rfl, rfl⟩ := hv
      refine b1_ne (tgt := 124) C jX9_show_99 (by decide) (fun h99 => ?_) (fun h99 => ?_)
      · have hm : meR Rg (F * 2 ^ k) ((F + 1) * 2 ^ k - 1) = true := Decidable.byContradiction fun e1 => h99 (if_neg e1)
        refine sg0 C foX9 coX9 oX9_show_124 rfl rfl rfl ?_
        refine b2_ne (tgt := 141) C jX9_show_127 (by decide) (fun h127 => ?_) (fun h127 => ?_)
        · refine sg0 C foX9 coX9 oX9_show_141 rfl rfl rfl ?_
          refine b2_ne (tgt := 184) C jX9_show_146 (by decide) (fun h146 => ?_) (fun h146 => ?_)
          · exact absurd (show nI (a + 1) - nI a = 1 by rw [pk_sub (by omega), show a + 1 - a = 1 by omega]; rfl) h146
          · refine sg0 C foX9 coX9 oX9_show_149 rfl rfl rfl ?_
            refine cl_v C (kX9_lay hAD hN (S := S0) hS 1 (by decide) (by (try simp only [List.length_append, octs_len]); omega) (2)) (rcv (ci := 8) C.2.1 rfl rfl) cd_X9_lay in_X9 ml_X9_161 im_X9_lay se_X9_lay hd_X9_lay rfl rfl ⟨by show 0 + 1 ≤ R.frames; omega, by show 8 + (5 + 11) + 40 * 0 ≤ R.locals; omega⟩ ⟨by show cells + 0 ≤ R.cells; omega, by show slots + 0 ≤ R.slots; omega⟩ (Nat.le_of_ble_eq_true rfl) jX9_show_154 (fun v ws' => Wa.ex (fun s1 => Wa.and (fun hv => ?_)))
            obtain ⟨rfl, rfl, hs1⟩ := hv
            refine sg C foX9 coX9 oX9_show_157 rfl rfl rfl ⟨vp_in_nI (by omega) (by decide), trivial⟩ ?_
            rw [nI_clamp (show a < 2 ^ 31 by omega), show pa a = nI P from hr1]
            refine cl_v C (kX9_lay hAD hN (S := S0 ++ octs 1 2) hs1 2 (by decide) (by (try simp only [List.length_append, octs_len]); omega) ((nI P).toInt64)) (rcv (ci := 8) C.2.1 rfl rfl) cd_X9_lay in_X9 ml_X9_161 im_X9_lay se_X9_lay hd_X9_lay rfl rfl ⟨by show 0 + 1 ≤ R.frames; omega, by show 8 + (5 + 11) + 40 * 0 ≤ R.locals; omega⟩ ⟨by show cells + 0 ≤ R.cells; omega, by show slots + 0 ≤ R.slots; omega⟩ (Nat.le_of_ble_eq_true rfl) jX9_show_166 (fun v ws' => Wa.ex (fun s2 => Wa.and (fun hv => ?_)))
            obtain ⟨rfl, rfl, hs2⟩ := hv
            refine sg C foX9 coX9 oX9_show_169 rfl rfl rfl ⟨vp_in_nI (by omega) (by decide), trivial⟩ ?_
            rw [nI_clamp (show a < 2 ^ 31 by omega), show va a = v0 from hr2]
            refine cl_v C (kX9_lay hAD hN (S := S0 ++ octs 1 2 ++ octs 2 (nI P).toInt64) hs2 8 (by decide) (by (try simp only [List.length_append, octs_len]); omega) (v0)) (rcv (ci := 8) C.2.1 rfl rfl) cd_X9_lay in_X9 ml_X9_161 im_X9_lay se_X9_lay hd_X9_lay rfl rfl ⟨by show 0 + 1 ≤ R.frames; omega, by show 8 + (5 + 11) + 40 * 0 ≤ R.locals; omega⟩ ⟨by show cells + 0 ≤ R.cells; omega, by show slots + 0 ≤ R.slots; omega⟩ (Nat.le_of_ble_eq_true rfl) jX9_show_178 (fun v ws' => Wa.ex (fun s3 => Wa.and (fun hv => ?_)))
            obtain ⟨rfl, rfl, hs3⟩ := hv
            refine sg0 C foX9 coX9 oX9_show_181 rfl rfl rfl ?_
            refine sg0 C foX9 coX9 oX9_show_307 rfl rfl rfl ?_
            refine Wa.lvp [0, 1, 2] rfl ?_
            have h9 := hK o1 o2 pf pt s3 wd wb wp dp rs_0 (by rw [show shwT Rg (tL q P v0) (F * 2 ^ k) ((F + 1) * 2 ^ k - 1) = octs 1 2 ++ (octs 2 (nI P).toInt64 ++ octs 8 v0) from by simp only [shwT]; rw [if_pos hm]]; simpa only [List.append_assoc] using hs3)
            rw [show shwT Rg (tL q P v0) (F * 2 ^ k) ((F + 1) * 2 ^ k - 1) = octs 1 2 ++ (octs 2 (nI P).toInt64 ++ octs 8 v0) from by simp only [shwT]; rw [if_pos hm]] at h9
            (try simp only [← List.append_assoc] at h9)
            (try simp only [← List.append_assoc])
            exact h9
        · exact absurd ((nI_eq (by omega) (by omega)).mp (show nI a = nI (a + 1) from h127)) (by omega)
      · have hm : ¬ meR Rg (F * 2 ^ k) ((F + 1) * 2 ^ k - 1) = true := fun e1 => by rw [if_pos e1] at h99; exact absurd h99 (by decide)
        refine sg0 C foX9 coX9 oX9_show_102 rfl rfl rfl ?_
        refine cl_v C (kX9_lay hAD hN (S := S0) hS 1 (by decide) (by (try simp only [List.length_append, octs_len]); omega) (0)) (rcv (ci := 8) C.2.1 rfl rfl) cd_X9_lay in_X9 ml_X9_161 im_X9_lay se_X9_lay hd_X9_lay rfl rfl ⟨by show 0 + 1 ≤ R.frames; omega, by show 8 + (5 + 11) + 40 * 0 ≤ R.locals; omega⟩ ⟨by show cells + 0 ≤ R.cells; omega, by show slots + 0 ≤ R.slots; omega⟩ (Nat.le_of_ble_eq_true rfl) jX9_show_105 (fun v ws' => Wa.ex (fun s1 => Wa.and (fun hv => ?_)))
        obtain ⟨rfl, rfl, hs1⟩ := hv
        refine sg0 C foX9 coX9 oX9_show_108 rfl rfl rfl ?_
        refine cl_v C (kX9_digest hAD hN (T := tL q P v0) trivial hok2.1 hok2.2 hk hxs hb (fun z hz => by have := (pl_lt (lvs_pl (tL q P v0) trivial F k hok2.1 z hz)).1; omega)) (rcv (ci := 8) C.2.1 rfl rfl) cd_X9_digest in_X9 ml_X9_135 im_X9_digest se_X9_digest hd_X9_digest rfl rfl ⟨by show 2 + 1 ≤ R.frames; omega, by show 8 + (9 + 11) + 40 * 2 ≤ R.locals; omega⟩ ⟨by show cells + 0 ≤ R.cells; omega, by show slots + 0 ≤ R.slots; omega⟩ (Nat.le_of_ble_eq_true rfl) jX9_show_113 (fun v ws' => Wa.ex (fun wd2 => Wa.ex (fun wb2 => Wa.ex (fun wp2 => Wa.and (fun hv => ?_)))))
        obtain ⟨rfl, rfl⟩ := hv
        refine sg0 C foX9 coX9 oX9_show_116 rfl rfl rfl ?_
        refine cl_v C (kX9_lay hAD hN (S := S0 ++ octs 1 0) hs1 8 (by decide) (by (try simp only [List.length_append, octs_len]); omega) (dig (tL q P v0))) (rcv (ci := 8) C.2.1 rfl rfl) cd_X9_lay in_X9 ml_X9_161 im_X9_lay se_X9_lay hd_X9_lay rfl rfl ⟨by show 0 + 1 ≤ R.frames; omega, by show 8 + (5 + 11) + 40 * 0 ≤ R.locals; omega⟩ ⟨by show cells + 0 ≤ R.cells; omega, by show slots + 0 ≤ R.slots; omega⟩ (Nat.le_of_ble_eq_true rfl) jX9_show_118 (fun v ws' => Wa.ex (fun s2 => Wa.and (fun hv => ?_)))
        obtain ⟨rfl, rfl, hs2⟩ := hv
        refine sg0 C foX9 coX9 oX9_show_121 rfl rfl rfl ?_
        refine sg0 C foX9 coX9 oX9_show_307 rfl rfl rfl ?_
        refine Wa.lvp [0, 1, 2] rfl ?_
        have h9 := hK o1 o2 pf pt s2 wd2 wb2 wp2 (nI (frkT (tL q P v0))) rs_0 (by rw [shw_no Rg (tL q P v0) trivial hm]; simpa only [List.append_assoc] using hs2)
        rw [shw_no Rg (tL q P v0) trivial hm] at h9
        (try simp only [← List.append_assoc] at h9)
        (try simp only [← List.append_assoc])
        exact h9
  · intro q B S x y t1 t2 i1 i2 F k r a o1 o2 pf pt ou wd wb wp dp S0 hok hF hk hrk ho1 ho2 hpf hpt hxs hb hS hlen hK
    have hp0 : 2 ≤ 2 ^ (k + 1) := by have := Nat.two_pow_pos k; rw [Nat.pow_succ]; omega
    have hpk := Nat.two_pow_pos k
    have hfm : F * 2 ^ k + 2 ^ k = (F + 1) * 2 ^ k := by rw [Nat.add_mul, Nat.one_mul]
    have hcl : (nI r).toNatClampNeg = r := nI_clamp (by omega)
    have hp1 : nI (r + 1) - 1 = nI r := by rw [show (1 : Int32) = nI 1 from rfl, pk_sub (by omega)]; rfl
    have hok2 : okT (tF q B S x y) F k ∧ fll (tF q B S x y) := hok.elim id (fun h => absurd h (by simp [strp]))
    obtain ⟨⟨a1, a2, a3, a4⟩, a5, a6⟩ := okF hok2.1
    have hfx : fll x := hok2.2.1
    have hfy : fll y := hok2.2.2
    obtain ⟨A1, v1, e1⟩ := first_lvs x t1 hfx
    obtain ⟨A2, v2, e2⟩ := first_lvs y t2 hfy
    obtain ⟨A3, v3, e3⟩ := last_lvs y t2 hfy
    have b1 := pl_end a1 a2 a3 a4
    have b2 := pw_s a1
    have b3 := stm_lo a1 a4
    have hp2 := Nat.two_pow_pos (15 - B)
    have p1 := first_pl t1 hfx a5
    have p2 := first_pl t2 hfy a6
    have p3 := last_pl t2 hfy a6
    have b4 : (S / 2 ^ (15 - B) + 1) * 2 ^ (15 - B) = S + 2 ^ (15 - B) := by rw [Nat.add_mul, Nat.one_mul, b3]
    have b5 : (S / 2 ^ (15 - B) + 1 + 1) * 2 ^ (15 - B) = S + 2 ^ (16 - B) := by rw [Nat.add_mul, Nat.one_mul, b4]; omega
    have q1 := pl_lt p1
    have q2 := pl_lt p2
    have q3 := pl_lt p3
    rw [b4, b3] at q1
    rw [b4, b5] at q2 q3
    have k1 := pl_tk a1 a4 (b := 0) (by decide) (by omega : firstOf x / 2 ^ (15 - B) = S / 2 ^ (15 - B) + 0)
    have k3 := pl_tk a1 a4 (b := 1) (by decide) p3
    have hfb : fbit (firstOf x) (lastOf y) = B := fb_uniq (by omega) (by omega) a1 (((tk_iff a4).mp k1.1).trans ((tk_iff a4).mp k3.1).symm) (by omega)
    have hlx : (lvs x).length = A1.length + 1 := by rw [e1]; simp
    have hly : (lvs y).length = A3.length + 1 := by rw [e3]; simp
    have hls : (lvs (tF q B S x y)).length = (lvs x).length + (lvs y).length := by simp only [lvs, List.length_append]
    have hx1 := ls_app1 (x := lvs x) (y := lvs y) hxs
    have hy1 := ls_app2 (x := lvs x) (y := lvs y) hxs
    have hz1 : pa a = nI (firstOf x) := (hx1 0 (firstOf x, v1) (by rw [e1]; rfl)).1
    have hz2 : pa (a + (lvs x).length + A3.length) = nI (lastOf y) := (hy1 A3.length (lastOf y, v3) (by rw [e3]; simp)).1
    have hbm : nI (a + (lvs (tF q B S x y)).length) - 1 = nI (a + (lvs x).length + A3.length) := by rw [show (1 : Int32) = nI 1 from rfl, pk_sub (by omega)]; congr 1; omega
    have a3k : 2 ^ (15 - B + 1) * 2 ≤ 2 ^ (k + 1) := by rw [← Nat.pow_succ]; exact Nat.pow_le_pow_right (by decide) (by omega)
    have l1 := shw_len Rg x t1 S (S + 2 ^ (15 - B) - 1) (15 - B) (ok_fit x t1 _ _ a5 (by omega))
    have l2 := shw_len Rg y t2 (S + 2 ^ (15 - B)) (S + 2 ^ (16 - B) - 1) (15 - B) (ok_fit y t2 _ _ a6 (by omega))
    refine sg0 C foX9 coX9 oX9_show_39 rfl rfl rfl ?_
    refine b1_le (tgt := 310) C jX9_show_43 (by decide) (fun h43 => ?_) (fun h43 => ?_)
    · exact absurd h43 (Int32.not_le.mpr (show nI 0 < nI (r + 1) from nI_lt (by omega) (by omega)))
    · refine sg C foX9 coX9 oX9_show_46 rfl rfl rfl (by rw [hp1]; exact ⟨vp_in_nI (by omega) (by decide), vp_in_nI (by omega) (by decide), vp_in_nI (by omega) (by decide), vp_in_nI (by omega) (by decide), trivial⟩) ?_
      rw [hp1, hcl, ho1, ho2, hpf, hpt]
      refine cl_v C (kX9_isWanted hAD hN hRg (show F * 2 ^ k < 65536 by omega) (show (F + 1) * 2 ^ k - 1 < 65536 by omega)) (rcv (ci := 8) C.2.1 rfl rfl) cd_X9_isWanted in_X9 ml_X9_157 im_X9_isWanted se_X9_isWanted hd_X9_isWanted rfl rfl ⟨by show 0 + 1 ≤ R.frames; omega, by show 8 + (5 + 11) + 40 * 0 ≤ R.locals; omega⟩ ⟨by show cells + 0 ≤ R.cells; omega, by show slots + 0 ≤ R.slots; omega⟩ (Nat.le_of_ble_eq_true rfl) jX9_show_96 (fun v ws' => Wa.and (fun hv => ?_))
      obtain ⟨rfl, rfl⟩ := hv
      refine b1_ne (tgt := 124) C jX9_show_99 (by decide) (fun h99 => ?_) (fun h99 => ?_)
      · have hm : meR Rg (F * 2 ^ k) ((F + 1) * 2 ^ k - 1) = true := Decidable.byContradiction fun e1 => h99 (if_neg e1)
        refine sg0 C foX9 coX9 oX9_show_124 rfl rfl rfl ?_
        refine b2_ne (tgt := 141) C jX9_show_127 (by decide) (fun h127 => ?_) (fun h127 => ?_)
        · refine sg0 C foX9 coX9 oX9_show_141 rfl rfl rfl ?_
          refine b2_ne (tgt := 184) C jX9_show_146 (by decide) (fun h146 => ?_) (fun h146 => ?_)
          · refine sg C foX9 coX9 oX9_show_184 rfl rfl rfl (by rw [hbm]; exact ⟨vp_in_nI (by omega) (by decide), vp_in_nI (by omega) (by decide), trivial⟩) ?_
            rw [hbm, nI_clamp (show a < 2 ^ 31 by omega), nI_clamp (show a + (lvs x).length + A3.length < 2 ^ 31 by omega), hz1, hz2]
            refine cl_s C (kX9_firstBit hAD hN rfl (P := firstOf x) (Q := lastOf y) (by omega) (by omega) (by omega)) cd_X9_firstBit in_X9 ml_X9_114 sm_X9_firstBit hd_X9_firstBit rfl rfl ⟨by show 0 + 1 ≤ R.frames; omega, by show 8 + (3 + 11) + 40 * 0 ≤ R.locals; omega⟩ ⟨by show cells + 0 ≤ R.cells; omega, by show slots + 0 ≤ R.slots; omega⟩ (Nat.le_of_ble_eq_true rfl) jX9_show_199 (fun v ws' => Wa.and (fun hv => ?_))
            obtain ⟨rfl, rfl⟩ := hv
            rw [hfb]
            refine sg C foX9 coX9 oX9_show_202 rfl rfl rfl ⟨vp_in_nI (by omega) (by decide), trivial⟩ ?_
            rw [nI_clamp (show a < 2 ^ 31 by omega), hz1]
            refine cl_s C (kX9_stemOf hAD rfl hN (P := firstOf x) (B := B) (by omega) (by omega)) cd_X9_stemOf in_X9 ml_X9_118 sm_X9_stemOf hd_X9_stemOf rfl rfl ⟨by show 0 + 1 ≤ R.frames; omega, by show 8 + (2 + 11) + 40 * 0 ≤ R.locals; omega⟩ ⟨by show cells + 0 ≤ R.cells; omega, by show slots + 0 ≤ R.slots; omega⟩ (Nat.le_of_ble_eq_true rfl) jX9_show_212 (fun v ws' => Wa.and (fun hv => ?_))
            obtain ⟨rfl, rfl⟩ := hv
            rw [k1.1]
            refine sg0 C foX9 coX9 oX9_show_215 rfl rfl rfl ?_
            rw [one_shl15 a1, nI_add]
            refine sw_half C (xl := lvs x) (w := (firstOf y, v2)) (yl := A2) (by have h9 := hxs; simp only [lvs] at h9; rw [e2] at h9; exact h9) (by omega) (by omega) (fun z hz => ?_) (by show S + 2 ^ (15 - B) ≤ firstOf y; omega) (by show firstOf y < 65536; omega) ?_ (lvs x) [] rfl
            · have := (pl_lt (lvs_pl x t1 _ _ a5 z hz)).1
              rw [b4] at this
              exact this
            refine sg0 C foX9 coX9 oX9_show_250 rfl rfl rfl ?_
            refine cl_v C (kX9_lay hAD hN (S := S0) hS 1 (by decide) (by (try simp only [List.length_append, octs_len]); omega) (1)) (rcv (ci := 8) C.2.1 rfl rfl) cd_X9_lay in_X9 ml_X9_161 im_X9_lay se_X9_lay hd_X9_lay rfl rfl ⟨by show 0 + 1 ≤ R.frames; omega, by show 8 + (5 + 11) + 40 * 0 ≤ R.locals; omega⟩ ⟨by show cells + 0 ≤ R.cells; omega, by show slots + 0 ≤ R.slots; omega⟩ (Nat.le_of_ble_eq_true rfl) jX9_show_253 (fun v ws' => Wa.ex (fun s1 => Wa.and (fun hv => ?_)))
            obtain ⟨rfl, rfl, hs1⟩ := hv
            refine sg0 C foX9 coX9 oX9_show_256 rfl rfl rfl ?_
            refine cl_v C (kX9_lay hAD hN (S := S0 ++ octs 1 1) hs1 1 (by decide) (by (try simp only [List.length_append, octs_len]); omega) ((nI B).toInt64)) (rcv (ci := 8) C.2.1 rfl rfl) cd_X9_lay in_X9 ml_X9_161 im_X9_lay se_X9_lay hd_X9_lay rfl rfl ⟨by show 0 + 1 ≤ R.frames; omega, by show 8 + (5 + 11) + 40 * 0 ≤ R.locals; omega⟩ ⟨by show cells + 0 ≤ R.cells; omega, by show slots + 0 ≤ R.slots; omega⟩ (Nat.le_of_ble_eq_true rfl) jX9_show_261 (fun v ws' => Wa.ex (fun s2 => Wa.and (fun hv => ?_)))
            obtain ⟨rfl, rfl, hs2⟩ := hv
            refine sg0 C foX9 coX9 oX9_show_264 rfl rfl rfl ?_
            refine cl_v C (kX9_lay hAD hN (S := S0 ++ octs 1 1 ++ octs 1 (nI B).toInt64) hs2 2 (by decide) (by (try simp only [List.length_append, octs_len]); omega) ((nI S).toInt64)) (rcv (ci := 8) C.2.1 rfl rfl) cd_X9_lay in_X9 ml_X9_161 im_X9_lay se_X9_lay hd_X9_lay rfl rfl ⟨by show 0 + 1 ≤ R.frames; omega, by show 8 + (5 + 11) + 40 * 0 ≤ R.locals; omega⟩ ⟨by show cells + 0 ≤ R.cells; omega, by show slots + 0 ≤ R.slots; omega⟩ (Nat.le_of_ble_eq_true rfl) jX9_show_269 (fun v ws' => Wa.ex (fun s3 => Wa.and (fun hv => ?_)))
            obtain ⟨rfl, rfl, hs3⟩ := hv
            refine sg0 C foX9 coX9 oX9_show_272 rfl rfl rfl ?_
            rw [one_shl15 a1, nI_add (S + 2 ^ (15 - B)), show (1 : Int32) = nI 1 from rfl, pk_sub (show 1 ≤ S + 2 ^ (15 - B) + 2 ^ (15 - B) by omega)]
            refine cl_v C (kX9_rest hAD hN (r := r) (by omega) (nI (a + (lvs x).length)) (nI (a + (lvs (tF q B S x y)).length)) (nI (S + 2 ^ (15 - B))) (nI (S + 2 ^ (15 - B) + 2 ^ (15 - B) - 1))) (rcv (ci := 8) C.2.1 rfl rfl) cd_X9_rest in_X9 ml_X9_153 im_X9_rest se_X9_rest hd_X9_rest rfl rfl ⟨by show 0 + 1 ≤ R.frames; omega, by show 8 + (5 + 11) + 40 * 0 ≤ R.locals; omega⟩ ⟨by show cells + 0 ≤ R.cells; omega, by show slots + 0 ≤ R.slots; omega⟩ (Nat.le_of_ble_eq_true rfl) jX9_show_291 (fun v ws' => Wa.and (fun hv => ?_))
            obtain ⟨rfl, rfl⟩ := hv
            refine sg0 C foX9 coX9 oX9_show_294 rfl rfl rfl ?_
            rw [show (1 : Int32) = nI 1 from rfl, pk_sub (show 1 ≤ S + 2 ^ (15 - B) by omega)]
            refine cl_v C (kX9_rest hAD hN (r := r + 1) (by omega) (nI a) (nI (a + (lvs x).length)) (nI S) (nI (S + 2 ^ (15 - B) - 1))) (rcv (ci := 8) C.2.1 rfl rfl) cd_X9_rest in_X9 ml_X9_153 im_X9_rest se_X9_rest hd_X9_rest rfl rfl ⟨by show 0 + 1 ≤ R.frames; omega, by show 8 + (5 + 11) + 40 * 0 ≤ R.locals; omega⟩ ⟨by show cells + 0 ≤ R.cells; omega, by show slots + 0 ≤ R.slots; omega⟩ (Nat.le_of_ble_eq_true rfl) jX9_show_304 (fun v ws' => Wa.and (fun hv => ?_))
            obtain ⟨rfl, rfl⟩ := hv
            refine sg0 C foX9 coX9 oX9_show_307 rfl rfl rfl ?_
            refine Wa.lvp [0, 1, 2] rfl ?_
            refine i1 (S / 2 ^ (15 - B)) (15 - B) (r + 1) a _ _ _ _ s3 wd wb wp dp (S0 ++ octs 1 1 ++ octs 1 (nI B).toInt64 ++ octs 2 (nI S).toInt64) (Or.inl ⟨a5, hfx⟩) (by omega) (by omega) (by omega) (if_pos rfl) (if_pos rfl) (by rw [b3]; exact if_pos rfl) (by rw [b4]; exact if_pos rfl) hx1 (by omega) hs3 (by (try simp only [List.length_append, octs_len]); omega) (fun p1' p2' p3' p4' s4 wd4 wb4 wp4 dp4 hr4 hs4 => ?_)
            rw [b4, b3] at hs4 ⊢
            obtain ⟨g1, g2, g3, g4⟩ := rs_at hr4
            refine i2 (S / 2 ^ (15 - B) + 1) (15 - B) r (a + (lvs x).length) p1' p2' p3' p4' s4 wd4 wb4 wp4 dp4 _ (Or.inl ⟨a6, hfy⟩) (by omega) (by omega) (by omega) g1 (by rw [g2]; congr 1; omega) (by rw [b4]; exact g3) (by rw [b5, g4]; congr 1; omega) hy1 (by omega) hs4 (by (try simp only [List.length_append, octs_len]); omega) (fun p1'' p2'' p3'' p4'' s5 wd5 wb5 wp5 dp5 hr5 hs5 => ?_)
            rw [b4, b5] at hs5 ⊢
            have hsh : shwT Rg (tF q B S x y) (F * 2 ^ k) ((F + 1) * 2 ^ k - 1) = octs 1 1 ++ (octs 1 (nI B).toInt64 ++ (octs 2 (nI S).toInt64 ++ (shwT Rg x S (S + 2 ^ (15 - B) - 1) ++ shwT Rg y (S + 2 ^ (15 - B)) (S + 2 ^ (16 - B) - 1)))) := by simp only [shwT]; rw [if_pos hm]
            have h9 := hK p1'' p2'' p3'' p4'' s5 wd5 wb5 wp5 dp5 (rs_2 hr4 hr5) (by rw [hsh]; simpa only [List.append_assoc] using hs5)
            rw [hsh] at h9
            simp only [← List.append_assoc] at h9
            exact h9
          · exact absurd ((nI_eq (by omega) (by decide)).mp (show nI (lvs (tF q B S x y)).length = nI 1 from by rw [pk_sub (by omega), Nat.add_sub_cancel_left] at h146; exact h146)) (by omega)
        · exact absurd ((nI_eq (by omega) (by omega)).mp h127) (by omega)
      · have hm : ¬ meR Rg (F * 2 ^ k) ((F + 1) * 2 ^ k - 1) = true := fun e1 => by rw [if_pos e1] at h99; exact absurd h99 (by decide)
        refine sg0 C foX9 coX9 oX9_show_102 rfl rfl rfl ?_
        refine cl_v C (kX9_lay hAD hN (S := S0) hS 1 (by decide) (by (try simp only [List.length_append, octs_len]); omega) (0)) (rcv (ci := 8) C.2.1 rfl rfl) cd_X9_lay in_X9 ml_X9_161 im_X9_lay se_X9_lay hd_X9_lay rfl rfl ⟨by show 0 + 1 ≤ R.frames; omega, by show 8 + (5 + 11) + 40 * 0 ≤ R.locals; omega⟩ ⟨by show cells + 0 ≤ R.cells; omega, by show slots + 0 ≤ R.slots; omega⟩ (Nat.le_of_ble_eq_true rfl) jX9_show_105 (fun v ws' => Wa.ex (fun s1 => Wa.and (fun hv => ?_)))
        obtain ⟨rfl, rfl, hs1⟩ := hv
        refine sg0 C foX9 coX9 oX9_show_108 rfl rfl rfl ?_
        refine cl_v C (kX9_digest hAD hN (T := tF q B S x y) ⟨t1, t2⟩ hok2.1 hok2.2 hk hxs hb (fun z hz => by have := (pl_lt (lvs_pl (tF q B S x y) ⟨t1, t2⟩ F k hok2.1 z hz)).1; omega)) (rcv (ci := 8) C.2.1 rfl rfl) cd_X9_digest in_X9 ml_X9_135 im_X9_digest se_X9_digest hd_X9_digest rfl rfl ⟨by show 2 + 1 ≤ R.frames; omega, by show 8 + (9 + 11) + 40 * 2 ≤ R.locals; omega⟩ ⟨by show cells + 0 ≤ R.cells; omega, by show slots + 0 ≤ R.slots; omega⟩ (Nat.le_of_ble_eq_true rfl) jX9_show_113 (fun v ws' => Wa.ex (fun wd2 => Wa.ex (fun wb2 => Wa.ex (fun wp2 => Wa.and (fun hv => ?_)))))
        obtain ⟨rfl, rfl⟩ := hv
        refine sg0 C foX9 coX9 oX9_show_116 rfl rfl rfl ?_
        refine cl_v C (kX9_lay hAD hN (S := S0 ++ octs 1 0) hs1 8 (by decide) (by (try simp only [List.length_append, octs_len]); omega) (dig (tF q B S x y))) (rcv (ci := 8) C.2.1 rfl rfl) cd_X9_lay in_X9 ml_X9_161 im_X9_lay se_X9_lay hd_X9_lay rfl rfl ⟨by show 0 + 1 ≤ R.frames; omega, by show 8 + (5 + 11) + 40 * 0 ≤ R.locals; omega⟩ ⟨by show cells + 0 ≤ R.cells; omega, by show slots + 0 ≤ R.slots; omega⟩ (Nat.le_of_ble_eq_true rfl) jX9_show_118 (fun v ws' => Wa.ex (fun s2 => Wa.and (fun hv => ?_)))
        obtain ⟨rfl, rfl, hs2⟩ := hv
        refine sg0 C foX9 coX9 oX9_show_121 rfl rfl rfl ?_
        refine sg0 C foX9 coX9 oX9_show_307 rfl rfl rfl ?_
        refine Wa.lvp [0, 1, 2] rfl ?_
        have h9 := hK o1 o2 pf pt s2 wd2 wb2 wp2 (nI (frkT (tF q B S x y))) rs_0 (by rw [shw_no Rg (tF q B S x y) ⟨t1, t2⟩ hm]; simpa only [List.append_assoc] using hs2)
        rw [shw_no Rg (tF q B S x y) ⟨t1, t2⟩ hm] at h9
        (try simp only [← List.append_assoc] at h9)
        (try simp only [← List.append_assoc])
        exact h9
end
section
variable {l : Launch} {D : va_G} {ca : Nat → ClassId} {ad : Nat → Nat} {N : Heap → Prop} {pa : Nat → Int32} {va : Nat → Int64} {sz : Nat → Int32} {fr : Nat → Int32} {tw : Nat → Int32} {ta : Nat → Int32} {wd : Nat → Int64} {wb : Nat → Int32} {wp : Nat → Int32} {ou : Nat → Int32} {o1 : Nat → Int32} {o2 : Nat → Int32} {pf : Nat → Int32} {pt : Nat → Int32} {ki : Nat → Int32} {bi : Nat → Int32} {ste : Nat → Int32} {hel : Nat → Int64} {low : Nat → Int32} {hgh : Nat → Int32} {su : Nat → Int64} {ro : Nat → Int32} {fe : Nat → Int32} {vs : Int32} {wn : Int32} {tp : Int32} {dp : Int32} {la : Int32} {rst : Int32} {hlf : Int32} {nd : Int32} {rt : Int32} {frd : Int32} {fa : Int32} {at_ : Int32} {end_ : Int32} {ab : Int32} {fo : Int64} {co : Int32} {ll : Int32} {lh : Int32} {hm : Int32}
set_option maxRecDepth 100000 in
set_option maxHeartbeats 4000000 in
theorem kX9_show (hAD : AD ad 24) (hN : NS D N) {nv b ix : Nat} (hnv : nv ≤ 8) {x : Int32} (hx : verR nv x b ix) {T : Term} (hT : isT T) (hok : okM T) (hxs : lsR pa va b (lvs T)) (hsz : sz ix = nI (lvs T).length) (hlen : (lvs T).length ≤ 300) {Rg : List (Nat × Nat)} (hRg : rgR fr tw Rg) : Ct l yX9_show cX9_show 9 (some .int) (rK 4 0 0) D ca ad (mW pa va sz fr tw ta wd wb wp ou o1 o2 pf pt ki bi ste hel low hgh su ro fe (nI nv) (nI Rg.length) tp dp la rst hlf nd rt frd fa at_ end_ ab fo co ll lh hm) 24 [.ref 0, .int x] N (fun r ws2 H => ∃ (p1 p2 p3 p4 ou2 : Nat → Int32) (wd2 : Nat → Int64) (wb2 wp2 : Nat → Int32) (dp2 ls2 rs2 : Int32), ((4000 < (shwT Rg T 0 65535).length ∧ r = some (.int (-3)) ∧ ws2 = (mW pa va sz fr tw ta wd2 wb2 wp2 ou2 p1 p2 p3 p4 ki bi ste hel low hgh su ro fe (nI nv) (nI Rg.length) tp dp2 ls2 rs2 hlf nd rt frd fa at_ end_ ab fo co ll lh hm)) ∨ ∃ ta2 : Nat → Int32, (shwT Rg T 0 65535).length ≤ 4000 ∧ r = some (.int (nI (shwT Rg T 0 65535).length)) ∧ ws2 = (mW pa va sz fr tw ta2 wd2 wb2 wp2 ou2 p1 p2 p3 p4 ki bi ste hel low hgh su ro fe (nI nv) (nI Rg.length) (nI (shwT Rg T 0 65535).length) dp2 ls2 rs2 hlf nd rt frd fa at_ end_ ab fo co ll lh hm) ∧ tpR ta2 (shwT Rg T 0 65535)) ∧ N H) := by
  refine enter (lv := [(0, .ref 0), (1, .int x)]) (by decide +kernel) (Nat.le_of_ble_eq_true rfl) rfl hAD (fun U hK => ns_write hK hN) ?_
  intro p e s m below meth c A args hA C hr hlk hnm
  refine sg0 C foX9 coX9 oX9_show_0 rfl rfl rfl ?_
  refine cl_v C (kX9_baseOf hAD hN hnv hx) (rcv (ci := 8) C.2.1 rfl rfl) cd_X9_baseOf in_X9 ml_X9_129 im_X9_baseOf se_X9_baseOf hd_X9_baseOf rfl rfl ⟨(Nat.le_of_ble_eq_true rfl), (Nat.le_of_ble_eq_true rfl)⟩ ⟨(Nat.le_of_ble_eq_true rfl), (Nat.le_of_ble_eq_true rfl)⟩ (Nat.le_of_ble_eq_true rfl) jX9_show_2 (fun v ws' => Wa.and (fun hv => ?_))
  obtain ⟨rfl, rfl⟩ := hv
  refine sg0 C foX9 coX9 oX9_show_5 rfl rfl rfl ?_
  refine b2_ne (tgt := 14) C jX9_show_9 (by decide) (fun h9 => ?_) (fun h9 => ?_)
  · refine sg0 C foX9 coX9 oX9_show_14 rfl rfl rfl ?_
    refine cl_v C (kX9_sizeOf hAD hN hnv hx) (rcv (ci := 8) C.2.1 rfl rfl) cd_X9_sizeOf in_X9 ml_X9_132 im_X9_sizeOf se_X9_sizeOf hd_X9_sizeOf rfl rfl ⟨(Nat.le_of_ble_eq_true rfl), (Nat.le_of_ble_eq_true rfl)⟩ ⟨(Nat.le_of_ble_eq_true rfl), (Nat.le_of_ble_eq_true rfl)⟩ (Nat.le_of_ble_eq_true rfl) jX9_show_29 (fun v ws' => Wa.and (fun hv => ?_))
    obtain ⟨rfl, rfl⟩ := hv
    refine sg0 C foX9 coX9 oX9_show_32 rfl rfl rfl ?_
    refine cl_v C (kX9_rest hAD hN (r := 0) (by decide) (nI b) (nI b + sz ix) 0 65535) (rcv (ci := 8) C.2.1 rfl rfl) cd_X9_rest in_X9 ml_X9_153 im_X9_rest se_X9_rest hd_X9_rest rfl rfl ⟨(Nat.le_of_ble_eq_true rfl), (Nat.le_of_ble_eq_true rfl)⟩ ⟨(Nat.le_of_ble_eq_true rfl), (Nat.le_of_ble_eq_true rfl)⟩ (Nat.le_of_ble_eq_true rfl) jX9_show_36 (fun v ws' => Wa.and (fun hv => ?_))
    obtain ⟨rfl, rfl⟩ := hv
    rw [hsz, nI_add]
    refine Wa.lvp [0, 1, 2] rfl ?_
    have hlw := shw_len Rg T hT 0 65535 16 (okW_fit hT (okM_W hok))
    refine sw_tree C hAD hN ⟨(Nat.le_of_ble_eq_true rfl), (Nat.le_of_ble_eq_true rfl), (Nat.le_of_ble_eq_true rfl), (Nat.le_of_ble_eq_true rfl)⟩ hRg T hT 0 16 0 b _ _ _ _ ou wd wb wp dp [] (hok.elim Or.inr Or.inl) (by decide) (by decide) (by decide) (if_pos rfl) (if_pos rfl) (if_pos rfl) (if_pos rfl) hxs (by have := ver_le hnv hx; omega) (fun j _ h9 => absurd h9 (Nat.not_lt_zero _)) (by decide) (fun p1 p2 p3 p4 ou2 wd2 wb2 wp2 dp2 _ hsw => ?_)
    rw [List.nil_append, show 0 * 2 ^ 16 = 0 from rfl, show (0 + 1) * 2 ^ 16 - 1 = 65535 from rfl] at hsw ⊢
    refine sg0 C foX9 coX9 oX9_show_39 rfl rfl rfl ?_
    refine b1_le (tgt := 310) C jX9_show_43 (by decide) (fun h43 => ?_) (fun h43 => ?_)
    · refine sg0 C foX9 coX9 oX9_show_310 rfl rfl rfl ?_
      refine cl_v C (kX9_laidOut hAD hN hsw (by omega)) (rcv (ci := 8) C.2.1 rfl rfl) cd_X9_laidOut in_X9 ml_X9_165 im_X9_laidOut se_X9_laidOut hd_X9_laidOut rfl rfl ⟨(Nat.le_of_ble_eq_true rfl), (Nat.le_of_ble_eq_true rfl)⟩ ⟨(Nat.le_of_ble_eq_true rfl), (Nat.le_of_ble_eq_true rfl)⟩ (Nat.le_of_ble_eq_true rfl) jX9_show_311 (fun v ws' => Wa.and (fun hv => ?_))
      rcases hv with ⟨hq, rfl, rfl⟩ | ⟨ta2, hq, rfl, rfl, hq2⟩
      · exact rt_i C hr hlk jX9_show_314 (fun H hH => ⟨p1, p2, p3, p4, ou2, wd2, wb2, wp2, dp2, _, _, Or.inl ⟨hq, rfl, rfl⟩, hH⟩)
      · exact rt_i C hr hlk jX9_show_314 (fun H hH => ⟨p1, p2, p3, p4, ou2, wd2, wb2, wp2, dp2, _, _, Or.inr ⟨ta2, hq, rfl, rfl, hq2⟩, hH⟩)
    · exact absurd (by decide) h43
  · exact absurd h9 (nI_m2 (ver_lt hnv hx))
set_option maxRecDepth 100000 in
set_option maxHeartbeats 4000000 in
theorem kX9_show_bad (hAD : AD ad 24) (hN : NS D N) {nv : Nat} {x : Int32} (hx1 : ¬ x = -1) (hx2 : ¬ (0 ≤ x ∧ x < nI nv)) : Ct l yX9_show cX9_show 9 (some .int) (rK 1 0 0) D ca ad (mW pa va sz fr tw ta wd wb wp ou o1 o2 pf pt ki bi ste hel low hgh su ro fe (nI nv) wn tp dp la rst hlf nd rt frd fa at_ end_ ab fo co ll lh hm) 24 [.ref 0, .int x] N (pG (mW pa va sz fr tw ta wd wb wp ou o1 o2 pf pt ki bi ste hel low hgh su ro fe (nI nv) wn tp dp la rst hlf nd rt frd fa at_ end_ ab fo co ll lh hm) N (some (.int (-1)))) := by
  refine enter (lv := [(0, .ref 0), (1, .int x)]) (by decide +kernel) (Nat.le_of_ble_eq_true rfl) rfl hAD (fun U hK => ns_write hK hN) ?_
  intro p e s m below meth c A args hA C hr hlk hnm
  refine sg0 C foX9 coX9 oX9_show_0 rfl rfl rfl ?_
  refine cl_v C (kX9_baseOf_bad hAD hN hx1 hx2) (rcv (ci := 8) C.2.1 rfl rfl) cd_X9_baseOf in_X9 ml_X9_129 im_X9_baseOf se_X9_baseOf hd_X9_baseOf rfl rfl ⟨(Nat.le_of_ble_eq_true rfl), (Nat.le_of_ble_eq_true rfl)⟩ ⟨(Nat.le_of_ble_eq_true rfl), (Nat.le_of_ble_eq_true rfl)⟩ (Nat.le_of_ble_eq_true rfl) jX9_show_2 (fun v ws' => Wa.and (fun hv => ?_))
  obtain ⟨rfl, rfl⟩ := hv
  refine sg0 C foX9 coX9 oX9_show_5 rfl rfl rfl ?_
  refine b2_ne (tgt := 14) C jX9_show_9 (by decide) (fun h9 => ?_) (fun h9 => ?_)
  · exact absurd rfl h9
  · refine sg0 C foX9 coX9 oX9_show_12 rfl rfl rfl ?_
    exact rt_i C hr hlk jX9_show_13 (fun H hN => ⟨⟨rfl, rfl⟩, hN⟩)
set_option maxRecDepth 100000 in
set_option maxHeartbeats 4000000 in
theorem kX9_digestM (hAD : AD ad 24) (hN : NS D N) {a : Nat} {T : Term} (hT : isT T) (hok : okM T) (hxs : lsR pa va a (lvs T)) (hb : a + (lvs T).length ≤ 2700) : Ct l yX9_digest cX9_digest 9 (some .long) (rK 2 0 0) D ca ad (mW pa va sz fr tw ta wd wb wp ou o1 o2 pf pt ki bi ste hel low hgh su ro fe vs wn tp dp la rst hlf nd rt frd fa at_ end_ ab fo co ll lh hm) 24 [.ref 0, .int (nI a), .int (nI (a + (lvs T).length))] N (fun r ws2 H => ∃ (wd2 : Nat → Int64) (wb2 wp2 : Nat → Int32), (r = some (.long (dig T)) ∧ ws2 = (mW pa va sz fr tw ta wd2 wb2 wp2 ou o1 o2 pf pt ki bi ste hel low hgh su ro fe vs wn tp (nI (frkT T)) la rst hlf nd rt frd fa at_ end_ ab fo co ll lh hm)) ∧ N H) := by
  rcases hok with h | h
  · rcases shp T hT with ⟨q, rfl⟩ | ⟨q, d, rfl⟩ | ⟨q, p, v, rfl⟩ | ⟨q, B, S, x, y, rfl⟩
    · exact (kX9_digest0 hAD hN).post (fun r ws2 H h9 => ⟨wd, wb, wp, ⟨h9.1.1, h9.1.2⟩, h9.2⟩)
    · exact absurd h (by simp [strp])
    · exact absurd h (by simp [strp])
    · exact absurd h (by simp [strp])
  · exact kX9_digest hAD hN hT h.1 h.2 (by decide) hxs hb (okM_srt hT (Or.inr h)).2
set_option maxRecDepth 100000 in
set_option maxHeartbeats 4000000 in
theorem kX9_root (hAD : AD ad 24) (hN : NS D N) {nv b ix : Nat} (hnv : nv ≤ 8) {x : Int32} (hx : verR nv x b ix) {T : Term} (hT : isT T) (hok : okM T) (hxs : lsR pa va b (lvs T)) (hsz : sz ix = nI (lvs T).length) (hlen : (lvs T).length ≤ 300) : Ct l yX9_root cX9_root 3 (some .long) (rK 3 0 0) D ca ad (mW pa va sz fr tw ta wd wb wp ou o1 o2 pf pt ki bi ste hel low hgh su ro fe (nI nv) wn tp dp la rst hlf nd rt frd fa at_ end_ ab fo co ll lh hm) 24 [.ref 0, .int x] N (fun r ws2 H => ∃ (wd2 : Nat → Int64) (wb2 wp2 : Nat → Int32), (r = some (.long (dig T)) ∧ ws2 = (mW pa va sz fr tw ta wd2 wb2 wp2 ou o1 o2 pf pt ki bi ste hel low hgh su ro fe (nI nv) wn tp (nI (frkT T)) la rst hlf nd rt frd fa at_ end_ ab fo co ll lh hm)) ∧ N H) := by
  refine enter (lv := [(0, .ref 0), (1, .int x)]) (by decide +kernel) (Nat.le_of_ble_eq_true rfl) rfl hAD (fun U hK => ns_write hK hN) ?_
  intro p e s m below meth c A args hA C hr hlk hnm
  refine sg0 C foX9 coX9 oX9_root_0 rfl rfl rfl ?_
  refine cl_v C (kX9_baseOf hAD hN hnv hx) (rcv (ci := 8) C.2.1 rfl rfl) cd_X9_baseOf in_X9 ml_X9_129 im_X9_baseOf se_X9_baseOf hd_X9_baseOf rfl rfl ⟨(Nat.le_of_ble_eq_true rfl), (Nat.le_of_ble_eq_true rfl)⟩ ⟨(Nat.le_of_ble_eq_true rfl), (Nat.le_of_ble_eq_true rfl)⟩ (Nat.le_of_ble_eq_true rfl) jX9_root_2 (fun v ws' => Wa.and (fun hv => ?_))
  obtain ⟨rfl, rfl⟩ := hv
  refine sg0 C foX9 coX9 oX9_root_5 rfl rfl rfl ?_
  refine b2_ne (tgt := 16) C jX9_root_9 (by decide) (fun h9 => ?_) (fun h9 => ?_)
  · refine sg0 C foX9 coX9 oX9_root_16 rfl rfl rfl ?_
    refine cl_v C (kX9_sizeOf hAD hN hnv hx) (rcv (ci := 8) C.2.1 rfl rfl) cd_X9_sizeOf in_X9 ml_X9_132 im_X9_sizeOf se_X9_sizeOf hd_X9_sizeOf rfl rfl ⟨(Nat.le_of_ble_eq_true rfl), (Nat.le_of_ble_eq_true rfl)⟩ ⟨(Nat.le_of_ble_eq_true rfl), (Nat.le_of_ble_eq_true rfl)⟩ (Nat.le_of_ble_eq_true rfl) jX9_root_21 (fun v ws' => Wa.and (fun hv => ?_))
    obtain ⟨rfl, rfl⟩ := hv
    refine sg0 C foX9 coX9 oX9_root_24 rfl rfl rfl ?_
    rw [hsz, nI_add]
    refine cl_v C (kX9_digestM hAD hN hT hok hxs (by have := ver_le hnv hx; omega)) (rcv (ci := 8) C.2.1 rfl rfl) cd_X9_digest in_X9 ml_X9_135 im_X9_digest se_X9_digest hd_X9_digest rfl rfl ⟨(Nat.le_of_ble_eq_true rfl), (Nat.le_of_ble_eq_true rfl)⟩ ⟨(Nat.le_of_ble_eq_true rfl), (Nat.le_of_ble_eq_true rfl)⟩ (Nat.le_of_ble_eq_true rfl) jX9_root_25 (fun v ws' => Wa.ex (fun wd2 => Wa.ex (fun wb2 => Wa.ex (fun wp2 => Wa.and (fun hv => ?_)))))
    obtain ⟨rfl, rfl⟩ := hv
    exact rt_l C hr hlk jX9_root_28 (fun H hH => ⟨wd2, wb2, wp2, ⟨rfl, rfl⟩, hH⟩)
  · exact absurd h9 (nI_m2 (ver_lt hnv hx))
set_option maxRecDepth 100000 in
set_option maxHeartbeats 4000000 in
theorem kX9_root_bad (hAD : AD ad 24) (hN : NS D N) {nv : Nat} {x : Int32} (hx1 : ¬ x = -1) (hx2 : ¬ (0 ≤ x ∧ x < nI nv)) : Ct l yX9_root cX9_root 3 (some .long) (rK 1 0 0) D ca ad (mW pa va sz fr tw ta wd wb wp ou o1 o2 pf pt ki bi ste hel low hgh su ro fe (nI nv) wn tp dp la rst hlf nd rt frd fa at_ end_ ab fo co ll lh hm) 24 [.ref 0, .int x] N (pG (mW pa va sz fr tw ta wd wb wp ou o1 o2 pf pt ki bi ste hel low hgh su ro fe (nI nv) wn tp dp la rst hlf nd rt frd fa at_ end_ ab fo co ll lh hm) N (some (.long 0))) := by
  refine enter (lv := [(0, .ref 0), (1, .int x)]) (by decide +kernel) (Nat.le_of_ble_eq_true rfl) rfl hAD (fun U hK => ns_write hK hN) ?_
  intro p e s m below meth c A args hA C hr hlk hnm
  refine sg0 C foX9 coX9 oX9_root_0 rfl rfl rfl ?_
  refine cl_v C (kX9_baseOf_bad hAD hN hx1 hx2) (rcv (ci := 8) C.2.1 rfl rfl) cd_X9_baseOf in_X9 ml_X9_129 im_X9_baseOf se_X9_baseOf hd_X9_baseOf rfl rfl ⟨(Nat.le_of_ble_eq_true rfl), (Nat.le_of_ble_eq_true rfl)⟩ ⟨(Nat.le_of_ble_eq_true rfl), (Nat.le_of_ble_eq_true rfl)⟩ (Nat.le_of_ble_eq_true rfl) jX9_root_2 (fun v ws' => Wa.and (fun hv => ?_))
  obtain ⟨rfl, rfl⟩ := hv
  refine sg0 C foX9 coX9 oX9_root_5 rfl rfl rfl ?_
  refine b2_ne (tgt := 16) C jX9_root_9 (by decide) (fun h9 => ?_) (fun h9 => ?_)
  · exact absurd rfl h9
  · refine sg0 C foX9 coX9 oX9_root_12 rfl rfl rfl ?_
    exact rt_l C hr hlk jX9_root_28 (fun H hN => ⟨⟨rfl, rfl⟩, hN⟩)
end
