/-! the model: take -/
/-- the rows that are free -/
def feR (fe : Nat → Int32) (Fl : List Nat) : Prop := ∀ j q, Fl[j]? = some q → fe j = nI q
/-- a view and the free rows: together one half -/
def poR (h0 : Nat) (U : Term) (Fl : List Nat) : Prop := (ids U ++ Fl).Nodup ∧ (∀ q ∈ ids U ++ Fl, h0 ≤ q ∧ q < h0 + 800) ∧ (ids U ++ Fl).length = 800
def flL (b n : Nat) : List Nat := (List.range n).map (fun z => b + (799 - z))
theorem fl_len (b n : Nat) : (flL b n).length = n := by simp [flL]
theorem fl_s (b n : Nat) : flL b (n + 1) = flL b n ++ [b + (799 - n)] := by simp [flL, List.range_succ]
theorem fl_mem {b n q : Nat} (hn : n ≤ 800) (h : q ∈ flL b n) : b + (800 - n) ≤ q ∧ q < b + 800 := by
  obtain ⟨z, h1, h2⟩ := List.mem_map.mp h
  have := List.mem_range.mp h1
  omega
theorem fl_nd {b n : Nat} (hn : n ≤ 800) : (flL b n).Nodup := by
  refine List.pairwise_map.mpr ?_
  refine List.Pairwise.imp_of_mem (fun {x y} ha hb hab => ?_) (List.pairwise_lt_range (n := n))
  have h1 := List.mem_range.mp ha
  have h2 := List.mem_range.mp hb
  omega
theorem fl_po {b n : Nat} {U : Term} (hT : isT U) (hU : (ids U).Nodup) (hn : nodT U = n) (hn8 : n ≤ 800) (hm : ∀ q ∈ ids U, q = b ∨ (b + 1 ≤ q ∧ q < b + n)) : poR b U (flL b (800 - n)) := by
  have h1 := nod_pos U
  refine ⟨List.nodup_append.mpr ⟨hU, fl_nd (by omega), fun x hx y hy e => ?_⟩, fun q hq => ?_, ?_⟩
  · have h2 := fl_mem (by omega) hy
    have h3 := hm x hx
    omega
  · rcases List.mem_append.mp hq with h | h
    · have h3 := hm q h
      omega
    · have h2 := fl_mem (by omega) h
      omega
  · rw [List.length_append, ids_len U hT, fl_len, hn]
    omega
theorem feR_s {fe : Nat → Int32} {b n : Nat} (h : feR fe (flL b n)) : feR (upd fe n (nI (b + (799 - n)))) (flL b (n + 1)) := by
  intro j q hj
  rw [fl_s] at hj
  by_cases h1 : j < n
  · rw [List.getElem?_append_left (by rw [fl_len]; exact h1)] at hj
    exact (if_neg (by omega)).trans (h j q hj)
  · rw [List.getElem?_append_right (by rw [fl_len]; omega), fl_len] at hj
    by_cases h2 : j = n
    · subst h2
      rw [Nat.sub_self] at hj
      have hj : b + (799 - j) = q := Option.some.inj hj
      rw [← hj]
      exact if_pos rfl
    · rw [List.getElem?_eq_none (by simp; omega)] at hj
      cases hj
theorem ag_lh {ki bi ste : Nat → Int32} {hel : Nat → Int64} {low hgh : Nat → Int32} {x : Nat} {a b : Int32} : agV (fun q => ¬ q = x) (ki, bi, ste, hel, low, hgh) (ki, bi, ste, hel, upd low x a, upd hgh x b) := fun q hq => ⟨rfl, rfl, rfl, rfl, if_neg hq, if_neg hq⟩
theorem rc_go {S : List Int32} {g F k : Nat} (hk : k ≤ g) : (rcg S g).2 = true ∨ (F + 1) * 2 ^ k - 1 ≤ F * 2 ^ k := by
  cases g with
  | zero =>
    have : k = 0 := by omega
    subst this
    exact Or.inr (by simp)
  | succ g => exact Or.inl rfl
section
variable {p : Program} {l : Launch} {e : Env} {R : Room} {s : State} {m : MethodId} {args : Array Value} {below : List Frame} {meth : Method} {c : Code} {cells slots : Nat} {QQ : State → Prop} {D : va_G} {ca : Nat → ClassId} {ad : Nat → Nat} {A : Nat → Prop} {N : Heap → Prop} {pa : Nat → Int32} {va : Nat → Int64} {sz : Nat → Int32} {fr : Nat → Int32} {tw : Nat → Int32} {ta : Nat → Int32} {wd : Nat → Int64} {wb : Nat → Int32} {wp : Nat → Int32} {ou : Nat → Int32} {o1 : Nat → Int32} {o2 : Nat → Int32} {pf : Nat → Int32} {pt : Nat → Int32} {ki : Nat → Int32} {bi : Nat → Int32} {ste : Nat → Int32} {hel : Nat → Int64} {low : Nat → Int32} {hgh : Nat → Int32} {su : Nat → Int64} {ro : Nat → Int32} {fe : Nat → Int32} {vs : Int32} {wn : Int32} {tp : Int32} {dp : Int32} {la : Int32} {rst : Int32} {hlf : Int32} {nd : Int32} {rt : Int32} {frd : Int32} {fa : Int32} {at_ : Int32} {end_ : Int32} {ab : Int32} {fo : Int64} {co : Int32} {ll : Int32} {lh : Int32} {hm : Int32}
set_option maxRecDepth 100000 in
set_option maxHeartbeats 4000000 in
theorem tk_tree (C : Cx p s m args c cX9_take 8 RX9 D ca ad A N 24) (hAD : AD ad 24) (hN : NS D N) (hR : 3 ≤ R.frames ∧ 120 ≤ R.locals ∧ cells ≤ R.cells ∧ slots ≤ R.slots) {d : Int64} {bs : Nat} {S : List Int32} (hbs : bs ≤ 800) (hS : tpR ta S) (hlen : S.length ≤ 4000) (hoc : ocOk S) : ∀ g : Nat, ∀ (i F k x n r : Nat) (w : Bool) (ki bi ste : Nat → Int32) (hel : Nat → Int64) (low hgh : Nat → Int32) (o1 o2 pf pt : Nat → Int32) (fa : Int32), (F + 1) * 2 ^ k ≤ 65536 → k ≤ g → r + k ≤ 16 → (x = bs ↔ w = true) → bs ≤ x → x < bs + n → 1 ≤ n → n ≤ 795 → 13 * n + 5 ≤ 2 * i + 18 * (r + 1) → i ≤ S.length → o1 r = nI x → pf r = nI (F * 2 ^ k) → pt r = nI ((F + 1) * 2 ^ k - 1) → (∀ (a b n2 : Nat) (ki2 bi2 ste2 : Nat → Int32) (hel2 : Nat → Int64) (low2 hgh2 : Nat → Int32) (p1 p2 p3 p4 : Nat → Int32) (rs2 at2 : Int32), prs S g i (F * 2 ^ k) ((F + 1) * 2 ^ k - 1) w = .inl (a, b) → 0 < a → a < 8 → b ≤ 4000 → agV (fun q => q < bs ∨ bs + 800 ≤ q) (ki, bi, ste, hel, low, hgh) (ki2, bi2, ste2, hel2, low2, hgh2) → Wa p l e R s m args below meth c cells slots QQ D ca ad A 8 N ([(0, .ref 0), (1, .long d), (3, .int (nI bs)), (4, .int (nI n2)), (5, .int (nI a))], [], (mW pa va sz fr tw ta wd wb wp ou p1 p2 p3 p4 ki2 bi2 ste2 hel2 low2 hgh2 su ro fe vs wn (nI S.length) dp la rs2 hlf nd rt frd (nI b) at2 end_ ab fo co ll lh hm)) 34) → (∀ (U : Term) (i1 n2 : Nat) (ki2 bi2 ste2 : Nat → Int32) (hel2 : Nat → Int64) (low2 hgh2 : Nat → Int32) (p1 p2 p3 p4 : Nat → Int32) (fa2 : Int32), prs S g i (F * 2 ^ k) ((F + 1) * 2 ^ k - 1) w = .inr (strp U, i1) → isT U → adr U = x → n2 + 1 = n + nodT U → vtR (ki2, bi2, ste2, hel2, low2, hgh2) U → (∀ q ∈ ids U, q = x ∨ (bs + n ≤ q ∧ q < bs + n2)) → (ids U).Nodup → agV (fun q => ¬ q = x ∧ ¬ (bs + n ≤ q ∧ q < bs + n2)) (ki, bi, ste, hel, low, hgh) (ki2, bi2, ste2, hel2, low2, hgh2) → rsR r o1 p1 o2 p2 pf p3 pt p4 → (13 * n2 + 5 ≤ 2 * i1 + 18 * r ∨ (w = true ∧ n2 = n)) → Wa p l e R s m args below meth c cells slots QQ D ca ad A 8 N ([(0, .ref 0), (1, .long d), (3, .int (nI bs)), (4, .int (nI n2)), (5, .int 0)], [], (mW pa va sz fr tw ta wd wb wp ou p1 p2 p3 p4 ki2 bi2 ste2 hel2 low2 hgh2 su ro fe vs wn (nI S.length) dp la (nI r) hlf nd rt frd fa2 (nI i1) end_ ab fo co ll lh hm)) 34) → Wa p l e R s m args below meth c cells slots QQ D ca ad A 8 N ([(0, .ref 0), (1, .long d), (3, .int (nI bs)), (4, .int (nI n)), (5, .int 0)], [], (mW pa va sz fr tw ta wd wb wp ou o1 o2 pf pt ki bi ste hel low hgh su ro fe vs wn (nI S.length) dp la (nI (r + 1)) hlf nd rt frd fa (nI i) end_ ab fo co ll lh hm)) 34 := by
  obtain ⟨hR1, hR2, hR3, hR4⟩ := hR
  intro g
  induction g using Nat.strongRecOn with
  | _ g ih0 =>
  have ih := fun g' (e9 : g = g' + 1) => ih0 g' (by omega)
  clear ih0
  intro i F k x n r w ki bi ste hel low hgh o1 o2 pf pt fa hF hk hrk hw hx1 hx2 hn1 hn2 hinv hi ho1 hpf hpt hKF hKS
  have hpk := Nat.two_pow_pos k
  have hfm : F * 2 ^ k + 2 ^ k = (F + 1) * 2 ^ k := by rw [Nat.add_mul, Nat.one_mul]
  have hcl : (nI r).toNatClampNeg = r := nI_clamp (by omega)
  have hclx : (nI x).toNatClampNeg = x := nI_clamp (by omega)
  have hp1 : nI (r + 1) - 1 = nI r := by rw [show (1 : Int32) = nI 1 from rfl, pk_sub (by omega)]; rfl
  refine sg0 C foX9 coX9 oX9_take_34 rfl rfl rfl ?_
  refine b1_le (tgt := 234) C jX9_take_38 (by decide) (fun h38 => ?_) (fun h38 => ?_)
  · exact absurd h38 (Int32.not_le.mpr (show nI 0 < nI (r + 1) from nI_lt (by omega) (by omega)))
  · refine sg0 C foX9 coX9 oX9_take_41 rfl rfl rfl ?_
    refine b1_ne (tgt := 234) C jX9_take_43 (by decide) (fun h43 => ?_) (fun h43 => ?_)
    · exact absurd rfl h43
    · refine sg C foX9 coX9 oX9_take_46 rfl rfl rfl (by rw [hp1]; exact ⟨vp_in_nI (by omega) (by decide), trivial⟩) ?_
      rw [hp1, hcl, ho1]
      suffices hkk : Wa p l e R s m args below meth c cells slots QQ D ca ad A 8 N ([(0, .ref 0), (1, .long d), (3, .int (nI bs)), (4, .int (nI n)), (5, .int 0), (6, .int (nI x))], [.int (if w then 1 else 0), .int (nI x), .ref 0], (mW pa va sz fr tw ta wd wb wp ou o1 o2 pf pt ki bi ste hel low hgh su ro fe vs wn (nI S.length) dp la (nI r) hlf nd rt frd fa (nI i) end_ ab fo co ll lh hm)) 81 by
        cases w with
        | true =>
          refine b2_ne (tgt := 80) C jX9_take_73 (by decide) (fun h73 => ?_) (fun h73 => ?_)
          · exact absurd (by rw [hw.mpr rfl]) h73
          · refine sg0 C foX9 coX9 oX9_take_76 rfl rfl rfl ?_
            exact hkk
        | false =>
          refine b2_ne (tgt := 80) C jX9_take_73 (by decide) (fun h73 => ?_) (fun h73 => ?_)
          · refine sg0 C foX9 coX9 oX9_take_80 rfl rfl rfl ?_
            exact hkk
          · exact absurd (hw.mp ((nI_eq (by omega) (by omega)).mp h73)) (by decide)
      refine sg C foX9 coX9 oX9_take_81 rfl rfl rfl ⟨vp_in_nI (by omega) (by decide), vp_in_nI (by omega) (by decide), trivial⟩ ?_
      rw [hcl, hpf, hpt]
      refine cl_v C (kX9_taken hAD hN hS hlen hoc (x := x) (i := i) (f := F * 2 ^ k) (t := (F + 1) * 2 ^ k - 1) (by omega) (by omega) (by omega) (by omega) w) (rcv (ci := 8) C.2.1 rfl rfl) cd_X9_taken in_X9 ml_X9_179 im_X9_taken se_X9_taken hd_X9_taken rfl rfl ⟨by show 1 + 1 ≤ R.frames; omega, by show 8 + (6 + 11) + 40 * 1 ≤ R.locals; omega⟩ ⟨by show cells + 0 ≤ R.cells; omega, by show slots + 0 ≤ R.slots; omega⟩ (Nat.le_of_ble_eq_true rfl) jX9_take_99 (fun v ws' => Wa.ex (fun ki2 => Wa.ex (fun bi2 => Wa.ex (fun ste2 => Wa.ex (fun hel2 => Wa.and (fun hv => ?_))))))
      obtain ⟨hag, hv⟩ := hv
      rcases hv with ⟨a, b, at2, he, hab, rfl, rfl⟩ | ⟨T0, i1, fa2, he, ⟨hT0, hF0, hA0, hi1⟩, rfl, rfl, hv0⟩ | ⟨B, S0, fa2, he, ⟨hB, hst, hu2, hu3, hu4⟩, rfl, rfl, hk1, hb1, hs1⟩
      · refine sg0 C foX9 coX9 oX9_take_102 rfl rfl rfl ?_
        refine b1_ne (tgt := 231) C jX9_take_106 (by decide) (fun h106 => ?_) (fun h106 => ?_)
        · refine sg0 C foX9 coX9 oX9_take_231 rfl rfl rfl ?_
          refine Wa.lvp [0, 1, 2, 3, 4] rfl ?_
          have h9 := hKF a b n ki2 bi2 ste2 hel2 low hgh o1 o2 pf pt (nI r) at2 ((prs_eq _ _ _ _ _ _).trans (he _ _ (rc_go hk))) hab.1 hab.2.1 hab.2.2 (hag.mono (fun q hq e9 => by omega))
          exact h9
        · exact absurd ((nI_eq (by omega) (by decide)).mp (show nI a = nI 0 from h106)) (by omega)
      · refine sg0 C foX9 coX9 oX9_take_102 rfl rfl rfl ?_
        refine b1_ne (tgt := 231) C jX9_take_106 (by decide) (fun h106 => ?_) (fun h106 => ?_)
        · exact absurd rfl h106
        · refine sg C foX9 coX9 oX9_take_109 rfl rfl rfl ⟨vp_in_nI (by omega) (by decide), trivial⟩ ?_
          rw [hclx]
          refine b2_ne (tgt := 231) C jX9_take_117 (by decide) (fun h117 => ?_) (fun h117 => ?_)
          · refine sg0 C foX9 coX9 oX9_take_231 rfl rfl rfl ?_
            refine Wa.lvp [0, 1, 2, 3, 4] rfl ?_
            have hid := ids_nF hT0 (by rw [hF0]; decide)
            have hnd : nodT T0 = 1 := by rw [← ids_len T0 hT0, hid]; rfl
            refine hKS T0 i1 n ki2 bi2 ste2 hel2 low hgh o1 o2 pf pt fa2 ((prs_eq _ _ _ _ _ _).trans (he _ _ (rc_go hk))) hT0 hA0 (by omega) hv0 (fun q hq => ?_) (by rw [hid]; simp) (hag.mono (fun q hq => hq.1)) rs_0 (hi1.elim (fun e9 => Or.inl (by omega)) (fun e9 => Or.inr ⟨e9, rfl⟩))
            rw [hid, hA0] at hq
            exact Or.inl (List.mem_singleton.mp hq)
          · exact absurd h117 (by have := (vt_nF (V := (ki2, bi2, ste2, hel2, low, hgh)) (T := T0) ⟨hT0, hv0, fun q hq => by rw [ids_nF hT0 (by rw [hF0]; decide), hA0] at hq; have := List.mem_singleton.mp hq; omega⟩ (by rw [hF0]; decide)).1; rw [hA0] at this; exact this)
      · have b2 := pw_s hB
        have b3 := stm_lo hB hst
        have hp2 := Nat.two_pow_pos (15 - B)
        have b4 : (S0 / 2 ^ (15 - B) + 1) * 2 ^ (15 - B) = S0 + 2 ^ (15 - B) := by rw [Nat.add_mul, Nat.one_mul, b3]
        have b5 : (S0 / 2 ^ (15 - B) + 1 + 1) * 2 ^ (15 - B) = S0 + 2 ^ (16 - B) := by rw [Nat.add_mul, Nat.one_mul, b4]; omega
        have hkB : 15 - B < k := by
          refine Nat.lt_of_not_le fun h => ?_
          have h9 : 2 ^ k ≤ 2 ^ (15 - B) := Nat.pow_le_pow_right (by decide) h
          omega
        refine sg0 C foX9 coX9 oX9_take_102 rfl rfl rfl ?_
        refine b1_ne (tgt := 231) C jX9_take_106 (by decide) (fun h106 => ?_) (fun h106 => ?_)
        · exact absurd rfl h106
        · refine sg C foX9 coX9 oX9_take_109 rfl rfl rfl ⟨vp_in_nI (by omega) (by decide), trivial⟩ ?_
          rw [hclx]
          refine b2_ne (tgt := 231) C jX9_take_117 (by decide) (fun h117 => ?_) (fun h117 => ?_)
          · exact absurd hk1 h117
          · refine sg0 C foX9 coX9 oX9_take_120 rfl rfl rfl ?_
            refine b2_ge (tgt := 231) C jX9_take_125 (by decide) (fun h125 => ?_) (fun h125 => ?_)
            · exact absurd h125 (show ¬ nI 790 ≤ nI n from nI_ge (by omega) (by decide))
            · refine sg C foX9 coX9 oX9_take_128 rfl rfl rfl ⟨vp_in_nI (by omega) (by decide), vp_in_nI (by omega) (by decide), vp_in_nI (by omega) (by decide), vp_in_nI (by omega) (by decide), vp_in_nI (by omega) (by decide), vp_in_nI (by omega) (by decide), trivial⟩ ?_
              rw [hclx, hb1, hs1, upd_at, one_shl15 hB, nI_add, nI_add, nI_add, show (1 : Int32) = nI 1 from rfl, nI_add, pk_sub (by omega), show (2 : Int32) = nI 2 from rfl, nI_add]
              refine cl_v C (kX9_rest hAD hN (r := r) (by omega) (nI (bs + n + 1)) 0 (nI (S0 + 2 ^ (15 - B))) (nI (S0 + 2 ^ (15 - B) + 2 ^ (15 - B) - 1))) (rcv (ci := 8) C.2.1 rfl rfl) cd_X9_rest in_X9 ml_X9_153 im_X9_rest se_X9_rest hd_X9_rest rfl rfl ⟨by show 0 + 1 ≤ R.frames; omega, by show 8 + (5 + 11) + 40 * 0 ≤ R.locals; omega⟩ ⟨by show cells + 0 ≤ R.cells; omega, by show slots + 0 ≤ R.slots; omega⟩ (Nat.le_of_ble_eq_true rfl) jX9_take_205 (fun v ws' => Wa.and (fun hv => ?_))
              obtain ⟨rfl, rfl⟩ := hv
              refine sg C foX9 coX9 oX9_take_208 rfl rfl rfl ⟨vp_in_nI (by omega) (by decide), vp_in_nI (by omega) (by decide), trivial⟩ ?_
              rw [hclx, hs1, upd_at, show (1 : Int32) = nI 1 from rfl, pk_sub (by omega)]
              refine cl_v C (kX9_rest hAD hN (r := r + 1) (by omega) (nI (bs + n)) 0 (nI S0) (nI (S0 + 2 ^ (15 - B) - 1))) (rcv (ci := 8) C.2.1 rfl rfl) cd_X9_rest in_X9 ml_X9_153 im_X9_rest se_X9_rest hd_X9_rest rfl rfl ⟨by show 0 + 1 ≤ R.frames; omega, by show 8 + (5 + 11) + 40 * 0 ≤ R.locals; omega⟩ ⟨by show cells + 0 ≤ R.cells; omega, by show slots + 0 ≤ R.slots; omega⟩ (Nat.le_of_ble_eq_true rfl) jX9_take_228 (fun v ws' => Wa.and (fun hv => ?_))
              obtain ⟨rfl, rfl⟩ := hv
              refine sg0 C foX9 coX9 oX9_take_231 rfl rfl rfl ?_
              refine Wa.lvp [0, 1, 2, 3, 4] rfl ?_
              cases g with
              | zero =>
                exfalso
                have hk0 : k = 0 := by omega
                subst hk0
                rw [Nat.pow_zero, Nat.mul_one] at hu2 hu3
                omega
              | succ g =>
                have hkk : 15 - B ≤ g := by omega
                have g1 := (ih g rfl) (i + 4) (S0 / 2 ^ (15 - B)) (15 - B) (bs + n) (n + 2) (r + 1) false ki2 bi2 ste2 hel2 (upd low x (nI (bs + n))) (upd hgh x (nI (bs + n + 1))) (upd (upd o1 r (nI (bs + n + 1))) (r + 1) (nI (bs + n))) (upd (upd o2 r 0) (r + 1) 0) (upd (upd pf r (nI (S0 + 2 ^ (15 - B)))) (r + 1) (nI S0)) (upd (upd pt r (nI (S0 + 2 ^ (15 - B) + 2 ^ (15 - B) - 1))) (r + 1) (nI (S0 + 2 ^ (15 - B) - 1))) fa2 (by rw [b4]; omega) hkk (by omega) ⟨fun e9 => by omega, fun e9 => by cases e9⟩ (by omega) (by omega) (by omega) (by omega) (by omega) (by omega) (if_pos rfl) (by rw [b3]; exact if_pos rfl) (by rw [b4]; exact if_pos rfl)
                rw [b4, b3] at g1
                have hpr : prs S (g + 1) i (F * 2 ^ k) ((F + 1) * 2 ^ k - 1) w = fkR (fun i f t => prs S g i f t false) (i + 4) B S0 := (prs_eq _ _ _ _ _ _).trans (he _ _ (rc_go hk))
                have hag0 : agV (fun q => ¬ q = x) (ki, bi, ste, hel, low, hgh) (ki2, bi2, ste2, hel2, upd low x (nI (bs + n)), upd hgh x (nI (bs + n + 1))) := hag.tr ag_lh
                refine g1 ?_ ?_
                · intro a b n2 ki3 bi3 ste3 hel3 low3 hgh3 p1 p2 p3 p4 rs3 at3 he3 ha1 ha2 hb3 hag3
                  refine hKF a b n2 ki3 bi3 ste3 hel3 low3 hgh3 p1 p2 p3 p4 rs3 at3 (by rw [hpr]; unfold fkR; simp only [he3]) ha1 ha2 hb3 ((hag0.mono (fun q hq e9 => by omega)).tr hag3)
                · intro U1 i1 n1 ki3 bi3 ste3 hel3 low3 hgh3 p1 p2 p3 p4 fa3 he3 hT1 hA1 hn1 hV1 hI1 hD1 hag3 hrs3 hin3
                  have hnp1 := nod_pos U1
                  have hi1 := prs_r _ _ _ _ _ _ _ he3
                  obtain ⟨y1, y2, y3, y4⟩ := rs_at hrs3
                  have hin3 : 13 * n1 + 5 ≤ 2 * i1 + 18 * (r + 1) := hin3.elim id (fun e9 => by cases e9.1)
                  have g2 := (ih g rfl) i1 (S0 / 2 ^ (15 - B) + 1) (15 - B) (bs + n + 1) n1 r false ki3 bi3 ste3 hel3 low3 hgh3 p1 p2 p3 p4 fa3 (by rw [b5]; omega) hkk (by omega) ⟨fun e9 => by omega, fun e9 => by cases e9⟩ (by omega) (by omega) (by omega) (by omega) hin3 hi1.2 y1 (by rw [b4]; exact y3) (by rw [b5, y4]; congr 1; omega)
                  rw [b5, b4] at g2
                  have hagx : agV (fun q => ¬ q = x ∧ ¬ q = bs + n ∧ ¬ (bs + (n + 2) ≤ q ∧ q < bs + n1)) (ki, bi, ste, hel, low, hgh) (ki3, bi3, ste3, hel3, low3, hgh3) := (hag0.mono (fun q hq => hq.1)).tr (hag3.mono (fun q hq => ⟨hq.2.1, hq.2.2⟩))
                  refine g2 ?_ ?_
                  · intro a b n2 ki4 bi4 ste4 hel4 low4 hgh4 p1' p2' p3' p4' rs4 at4 he4 ha1 ha2 hb4 hag4
                    refine hKF a b n2 ki4 bi4 ste4 hel4 low4 hgh4 p1' p2' p3' p4' rs4 at4 (by rw [hpr]; unfold fkR; simp only [he3, he4]) ha1 ha2 hb4 ((hagx.mono (fun q hq => by omega)).tr hag4)
                  · intro U2 i2 n2 ki4 bi4 ste4 hel4 low4 hgh4 p1' p2' p3' p4' fa4 he4 hT2 hA2 hn2 hV2 hI2 hD2 hag4 hrs4 hin4
                    have hnp2 := nod_pos U2
                    have hi2 := prs_r _ _ _ _ _ _ _ he4
                    have hin4 : 13 * n2 + 5 ≤ 2 * i2 + 18 * r := hin4.elim id (fun e9 => by cases e9.1)
                    obtain ⟨z1, z2, z3, z4, z5, z6⟩ := hag3 x ⟨by omega, by omega⟩
                    obtain ⟨z7, z8, z9, z10, z11, z12⟩ := hag4 x ⟨by omega, by omega⟩
                    refine hKS (tF x B S0 U1 U2) i2 n2 ki4 bi4 ste4 hel4 low4 hgh4 p1' p2' p3' p4' fa4 (by rw [hpr]; unfold fkR; simp only [he3, he4, strp]) ⟨hT1, hT2⟩ rfl (by simp only [nodT]; omega) ⟨⟨z7.trans (z1.trans hk1), z8.trans (z2.trans hb1), z9.trans (z3.trans hs1), (z11.trans z5).trans ((if_pos rfl).trans (by rw [hA1])), (z12.trans z6).trans ((if_pos rfl).trans (by rw [hA2]))⟩, vt_cg U1 hT1 (hag4.mono (fun q hq => ?_)) hV1, hV2⟩ (fun q hq => ?_) ?_ ((hagx.mono (fun q hq => by omega)).tr (hag4.mono (fun q hq => by omega))) (rs_2 hrs3 hrs4) (Or.inl hin4)
                    · have := hI1 q hq
                      omega
                    · rcases List.mem_cons.mp hq with h | h
                      · exact Or.inl h
                      · rcases List.mem_append.mp h with h | h
                        · have := hI1 q h
                          omega
                        · have := hI2 q h
                          omega
                    · show (x :: (ids U1 ++ ids U2)).Nodup
                      refine List.nodup_cons.mpr ⟨fun h => ?_, List.nodup_append.mpr ⟨hD1, hD2, fun a ha b hb e => ?_⟩⟩
                      · rcases List.mem_append.mp h with h | h
                        · have := hI1 x h
                          omega
                        · have := hI2 x h
                          omega
                      · have h1 := hI1 a ha
                        have h2 := hI2 b hb
                        omega
set_option maxRecDepth 100000 in
set_option maxHeartbeats 4000000 in
theorem tk_free (C : Cx p s m args c cX9_take 8 RX9 D ca ad A N 24) {d : Int64} {bs n : Nat} (hbs : bs ≤ 800) (hn : n ≤ 800) (hn1 : 1 ≤ n) (hK : ∀ fe : Nat → Int32, feR fe (flL bs (800 - n)) → Wa p l e R s m args below meth c cells slots QQ D ca ad A 8 N ([(0, .ref 0), (1, .long d), (3, .int (nI bs)), (4, .int (nI n)), (5, .int 0), (6, .int (nI (n - 1)))], [], (mW pa va sz fr tw ta wd wb wp ou o1 o2 pf pt ki bi ste hel low hgh su ro fe vs wn tp dp la rst hlf nd rt (nI (800 - n)) fa at_ end_ ab fo co ll lh hm)) 329) : ∀ (z0 j : Nat) (fe : Nat → Int32), z0 + j = 800 - n → feR fe (flL bs j) → Wa p l e R s m args below meth c cells slots QQ D ca ad A 8 N ([(0, .ref 0), (1, .long d), (3, .int (nI bs)), (4, .int (nI n)), (5, .int 0), (6, .int (nI (799 - j)))], [], (mW pa va sz fr tw ta wd wb wp ou o1 o2 pf pt ki bi ste hel low hgh su ro fe vs wn tp dp la rst hlf nd rt (nI j) fa at_ end_ ab fo co ll lh hm)) 329 := by
  intro z0
  induction z0 with
  | zero =>
    intro j fe hj hf
    have hj : j = 800 - n := by omega
    subst hj
    have h9 := hK fe hf
    rw [show n - 1 = 799 - (800 - n) by omega] at h9
    exact h9
  | succ z0 ih =>
    intro j fe hj hf
    have hcl : (nI j).toNatClampNeg = j := nI_clamp (by omega)
    refine sg0 C foX9 coX9 oX9_take_329 rfl rfl rfl ?_
    refine b2_lt (tgt := 365) C jX9_take_333 (by decide) (fun h333 => ?_) (fun h333 => ?_)
    · exact absurd h333 (Int32.not_lt.mpr (nI_le (by omega) (by omega)))
    · refine sg C foX9 coX9 oX9_take_336 rfl rfl rfl ⟨vp_in_nI (by omega) (by decide), trivial⟩ ?_
      rw [nI_1, hcl, nI_add, sub_m1, show (1 : Int32) = nI 1 from rfl, pk_sub (by omega), show 799 - j - 1 = 799 - (j + 1) by omega]
      exact ih (j + 1) _ (by omega) (feR_s hf)
end
section
variable {l : Launch} {D : va_G} {ca : Nat → ClassId} {ad : Nat → Nat} {N : Heap → Prop} {pa : Nat → Int32} {va : Nat → Int64} {sz : Nat → Int32} {fr : Nat → Int32} {tw : Nat → Int32} {ta : Nat → Int32} {wd : Nat → Int64} {wb : Nat → Int32} {wp : Nat → Int32} {ou : Nat → Int32} {o1 : Nat → Int32} {o2 : Nat → Int32} {pf : Nat → Int32} {pt : Nat → Int32} {ki : Nat → Int32} {bi : Nat → Int32} {ste : Nat → Int32} {hel : Nat → Int64} {low : Nat → Int32} {hgh : Nat → Int32} {su : Nat → Int64} {ro : Nat → Int32} {fe : Nat → Int32} {vs : Int32} {wn : Int32} {tp : Int32} {dp : Int32} {la : Int32} {rst : Int32} {hlf : Int32} {nd : Int32} {rt : Int32} {frd : Int32} {fa : Int32} {at_ : Int32} {end_ : Int32} {ab : Int32} {fo : Int64} {co : Int32} {ll : Int32} {lh : Int32} {hm : Int32}
set_option maxRecDepth 100000 in
set_option maxHeartbeats 4000000 in
theorem kX9_take (hAD : AD ad 24) (hN : NS D N) {S : List Int32} (hS : tpR ta S) (hlen : S.length ≤ 4000) (hoc : ocOk S) (d : Int64) {h0 : Nat} (hh0 : h0 = 0 ∨ h0 = 800) : Ct l yX9_take cX9_take 8 (some .int) (rK 4 0 0) D ca ad (mW pa va sz fr tw ta wd wb wp ou o1 o2 pf pt ki bi ste hel low hgh su ro fe vs wn (nI S.length) dp la rst (nI h0) nd rt frd fa at_ end_ ab fo co ll lh hm) 24 [.ref 0, .long d] N (fun r ws2 H => ∃ (ki2 bi2 ste2 : Nat → Int32) (hel2 : Nat → Int64) (low2 hgh2 : Nat → Int32) (p1 p2 p3 p4 : Nat → Int32) (rs2 at2 : Int32) (su2 : Nat → Int64) (ro2 : Nat → Int32), ((∃ a b : Nat, tkR S d = .inl (a, b) ∧ (0 < a ∧ a < 8 ∧ b ≤ 4000) ∧ r = some (.int (-10 - nI a)) ∧ ws2 = (mW pa va sz fr tw ta wd wb wp ou p1 p2 p3 p4 ki2 bi2 ste2 hel2 low2 hgh2 su2 ro2 fe vs wn (nI S.length) dp la rs2 (nI h0) nd rt frd (nI b) at2 end_ ab fo co ll lh hm) ∧ agV (fun q => h0 ≤ q ∧ q < h0 + 800) (ki, bi, ste, hel, low, hgh) (ki2, bi2, ste2, hel2, low2, hgh2)) ∨ (∃ (U : Term) (Fl : List Nat) (fe2 : Nat → Int32), tkR S d = .inr (strp U) ∧ (gdV (ki2, bi2, ste2, hel2, low2, hgh2) U ∧ poR (800 - h0) U Fl ∧ feR fe2 Fl ∧ nodT U ≤ 700) ∧ r = some (.int (nI (nodT U))) ∧ ws2 = (mW pa va sz fr tw ta wd wb wp ou p1 p2 p3 p4 ki2 bi2 ste2 hel2 low2 hgh2 su2 ro2 fe2 vs wn (nI S.length) dp la rs2 (nI (800 - h0)) (nI (nodT U)) (nI (adr U)) (nI Fl.length) (-2) at2 end_ ab fo co ll lh hm))) ∧ N H) := by
  refine enter (lv := [(0, .ref 0), (1, .long d)]) (by decide +kernel) (Nat.le_of_ble_eq_true rfl) rfl hAD (fun U hK => ns_write hK hN) ?_
  intro p e s m below meth c A args hA C hr hlk hnm
  refine sg0 C foX9 coX9 oX9_take_0 rfl rfl rfl ?_
  rw [show (800 : Int32) - nI h0 = nI (800 - h0) from (show nI 800 - nI h0 = nI (800 - h0) from pk_sub (by omega))]
  refine cl_v C (kX9_rest hAD hN (r := 0) (by decide) (nI (800 - h0)) 0 0 65535) (rcv (ci := 8) C.2.1 rfl rfl) cd_X9_rest in_X9 ml_X9_153 im_X9_rest se_X9_rest hd_X9_rest rfl rfl ⟨(Nat.le_of_ble_eq_true rfl), (Nat.le_of_ble_eq_true rfl)⟩ ⟨(Nat.le_of_ble_eq_true rfl), (Nat.le_of_ble_eq_true rfl)⟩ (Nat.le_of_ble_eq_true rfl) jX9_take_31 (fun v ws' => Wa.and (fun hv => ?_))
  obtain ⟨rfl, rfl⟩ := hv
  refine Wa.lvp [0, 1, 2, 3, 4] rfl ?_
  refine tk_tree C hAD hN ⟨(Nat.le_of_ble_eq_true rfl), (Nat.le_of_ble_eq_true rfl), (Nat.le_of_ble_eq_true rfl), (Nat.le_of_ble_eq_true rfl)⟩ (bs := 800 - h0) (by omega) hS hlen hoc 16 0 0 16 (800 - h0) 1 0 true ki bi ste hel low hgh _ _ _ _ fa (by decide) (by decide) (by decide) ⟨fun _ => rfl, fun _ => rfl⟩ (by omega) (by omega) (by decide) (by decide) (by decide) (Nat.zero_le _) (if_pos rfl) (if_pos rfl) (if_pos rfl) ?_ ?_
  · intro a b n2 ki2 bi2 ste2 hel2 low2 hgh2 p1 p2 p3 p4 rs2 at2 he ha1 ha2 hb2 hag
    rw [show 0 * 2 ^ 16 = 0 from rfl, show (0 + 1) * 2 ^ 16 - 1 = 65535 from rfl] at he
    have hag2 := hag.mono (Z2 := fun q => h0 ≤ q ∧ q < h0 + 800) (fun q hq => by omega)
    have hne : ¬ nI a = 0 := fun e9 => absurd ((nI_eq (by omega) (by decide)).mp (show nI a = nI 0 from e9)) (by omega)
    refine sg0 C foX9 coX9 oX9_take_34 rfl rfl rfl ?_
    refine b1_le (tgt := 234) C jX9_take_38 (by decide) (fun h38 => ?_) (fun h38 => ?_)
    · refine sg0 C foX9 coX9 oX9_take_234 rfl rfl rfl ?_
      refine b1_ne (tgt := 262) C jX9_take_236 (by decide) (fun h236 => ?_) (fun h236 => ?_)
      · refine sg0 C foX9 coX9 oX9_take_262 rfl rfl rfl ?_
        refine b1_ne (tgt := 286) C jX9_take_264 (by decide) (fun h264 => ?_) (fun h264 => ?_)
        · refine sg0 C foX9 coX9 oX9_take_286 rfl rfl rfl ?_
          refine b1_le (tgt := 297) C jX9_take_288 (by decide) (fun h288 => ?_) (fun h288 => ?_)
          · exact absurd h288 (Int32.not_le.mpr (show nI 0 < nI a from nI_lt (by omega) (by omega)))
          · refine sg0 C foX9 coX9 oX9_take_291 rfl rfl rfl ?_
            exact rt_i C hr hlk jX9_take_296 (fun H hH => ⟨ki2, bi2, ste2, hel2, low2, hgh2, p1, p2, p3, p4, _, _, su, ro, Or.inl ⟨a, b, by unfold tkR; rw [he], ⟨by omega, by omega, by omega⟩, rfl, rfl, hag2⟩, hH⟩)
        · exact absurd h264 hne
      · exact absurd h236 hne
    · refine sg0 C foX9 coX9 oX9_take_41 rfl rfl rfl ?_
      refine b1_ne (tgt := 234) C jX9_take_43 (by decide) (fun h43 => ?_) (fun h43 => ?_)
      · refine sg0 C foX9 coX9 oX9_take_234 rfl rfl rfl ?_
        refine b1_ne (tgt := 262) C jX9_take_236 (by decide) (fun h236 => ?_) (fun h236 => ?_)
        · refine sg0 C foX9 coX9 oX9_take_262 rfl rfl rfl ?_
          refine b1_ne (tgt := 286) C jX9_take_264 (by decide) (fun h264 => ?_) (fun h264 => ?_)
          · refine sg0 C foX9 coX9 oX9_take_286 rfl rfl rfl ?_
            refine b1_le (tgt := 297) C jX9_take_288 (by decide) (fun h288 => ?_) (fun h288 => ?_)
            · exact absurd h288 (Int32.not_le.mpr (show nI 0 < nI a from nI_lt (by omega) (by omega)))
            · refine sg0 C foX9 coX9 oX9_take_291 rfl rfl rfl ?_
              exact rt_i C hr hlk jX9_take_296 (fun H hH => ⟨ki2, bi2, ste2, hel2, low2, hgh2, p1, p2, p3, p4, _, _, su, ro, Or.inl ⟨a, b, by unfold tkR; rw [he], ⟨by omega, by omega, by omega⟩, rfl, rfl, hag2⟩, hH⟩)
          · exact absurd h264 hne
        · exact absurd h236 hne
      · exact absurd h43 hne
  · intro U i1 n2 ki2 bi2 ste2 hel2 low2 hgh2 p1 p2 p3 p4 fa2 he hT hA hn2 hV hI hD hag hrs hin
    rw [show 0 * 2 ^ 16 = 0 from rfl, show (0 + 1) * 2 ^ 16 - 1 = 65535 from rfl] at he
    have hi1 := prs_r _ _ _ _ _ _ _ he
    have hnp := nod_pos U
    have hn7 : n2 ≤ 700 := by omega
    have hnn : nodT U = n2 := by omega
    have hgd : gdV (ki2, bi2, ste2, hel2, low2, hgh2) U := ⟨hT, hV, fun q hq => by have := hI q hq; omega⟩
    have hag2 := hag.mono (Z2 := fun q => h0 ≤ q ∧ q < h0 + 800) (fun q hq => by omega)
    rw [← hA] at hI
    rw [← hA]
    refine sg0 C foX9 coX9 oX9_take_34 rfl rfl rfl ?_
    refine b1_le (tgt := 234) C jX9_take_38 (by decide) (fun h38 => ?_) (fun h38 => ?_)
    · refine sg0 C foX9 coX9 oX9_take_234 rfl rfl rfl ?_
      refine b1_ne (tgt := 262) C jX9_take_236 (by decide) (fun h236 => ?_) (fun h236 => ?_)
      · exact absurd rfl h236
      · refine sg0 C foX9 coX9 oX9_take_239 rfl rfl rfl ?_
        refine b2_ge (tgt := 262) C jX9_take_247 (by decide) (fun h247 => ?_) (fun h247 => ?_)
        · have hq : ¬ i1 < S.length := fun q9 => absurd h247 (nI_ge q9 (by omega))
          refine sg0 C foX9 coX9 oX9_take_262 rfl rfl rfl ?_
          refine b1_ne (tgt := 286) C jX9_take_264 (by decide) (fun h264 => ?_) (fun h264 => ?_)
          · exact absurd rfl h264
          · refine sg0 C foX9 coX9 oX9_take_267 rfl rfl rfl ?_
            refine cl_v C (kX9_sumUp hAD hN hgd (by omega)) (rcv (ci := 8) C.2.1 rfl rfl) cd_X9_sumUp in_X9 ml_X9_183 im_X9_sumUp se_X9_sumUp hd_X9_sumUp rfl rfl ⟨(Nat.le_of_ble_eq_true rfl), (Nat.le_of_ble_eq_true rfl)⟩ ⟨(Nat.le_of_ble_eq_true rfl), (Nat.le_of_ble_eq_true rfl)⟩ (Nat.le_of_ble_eq_true rfl) jX9_take_269 (fun v ws' => Wa.ex (fun su2 => Wa.ex (fun ro2 => Wa.and (fun hv => ?_))))
            obtain ⟨rfl, rfl, hsm⟩ := hv
            refine sg0 C foX9 coX9 oX9_take_272 rfl rfl rfl ?_
            refine b1_eq (tgt := 286) C jX9_take_274 (by decide) (fun h274 => ?_) (fun h274 => ?_)
            · have hd : dig U = d := (lg_cmp_eq _ _).mp h274
              refine sg0 C foX9 coX9 oX9_take_286 rfl rfl rfl ?_
              refine b1_le (tgt := 297) C jX9_take_288 (by decide) (fun h288 => ?_) (fun h288 => ?_)
              · refine sg0 C foX9 coX9 oX9_take_297 rfl rfl rfl ?_
                rw [show (799 : Int32) = nI (799 - 0) from rfl]
                refine tk_free C (by omega) (by omega) (by omega) (fun fe2 hfe => ?_) (800 - n2) 0 fe (by omega) (fun j q hj => by cases hj)
                refine sg0 C foX9 coX9 oX9_take_329 rfl rfl rfl ?_
                refine b2_lt (tgt := 365) C jX9_take_333 (by decide) (fun h333 => ?_) (fun h333 => ?_)
                · refine sg0 C foX9 coX9 oX9_take_365 rfl rfl rfl ?_
                  exact rt_i C hr hlk jX9_take_367 (fun H hH => ⟨ki2, bi2, ste2, hel2, low2, hgh2, p1, p2, p3, p4, _, _, su2, ro2, Or.inr ⟨U, flL (adr U) (800 - n2), fe2, by unfold tkR; rw [he]; exact (if_neg hq).trans (if_pos ((strp_dig U hT).trans hd)), ⟨hgd, fl_po hT hD hnn (by omega) (fun q9 h9 => by have := hI q9 h9; omega), hfe, by omega⟩, by rw [hnn], by rw [fl_len, hnn]⟩, hH⟩)
                · exact absurd (nI_lt (by omega) (by omega)) h333
              · exact absurd (by decide) h288
            · have hd : ¬ dig (strp U) = d := fun e9 => h274 ((lg_cmp_eq _ _).mpr ((strp_dig U hT).symm.trans e9))
              refine sg0 C foX9 coX9 oX9_take_277 rfl rfl rfl ?_
              refine sg0 C foX9 coX9 oX9_take_286 rfl rfl rfl ?_
              refine b1_le (tgt := 297) C jX9_take_288 (by decide) (fun h288 => ?_) (fun h288 => ?_)
              · exact absurd h288 (by decide)
              · refine sg0 C foX9 coX9 oX9_take_291 rfl rfl rfl ?_
                exact rt_i C hr hlk jX9_take_296 (fun H hH => ⟨ki2, bi2, ste2, hel2, low2, hgh2, p1, p2, p3, p4, _, _, su2, ro2, Or.inl ⟨7, 0, by unfold tkR; rw [he]; exact (if_neg hq).trans (if_neg hd), ⟨by omega, by omega, by omega⟩, rfl, rfl, hag2⟩, hH⟩)
        · have hq : i1 < S.length := Nat.not_le.mp fun q9 => h247 (nI_le q9 (by omega))
          refine sg0 C foX9 coX9 oX9_take_250 rfl rfl rfl ?_
          refine sg0 C foX9 coX9 oX9_take_262 rfl rfl rfl ?_
          refine b1_ne (tgt := 286) C jX9_take_264 (by decide) (fun h264 => ?_) (fun h264 => ?_)
          · refine sg0 C foX9 coX9 oX9_take_286 rfl rfl rfl ?_
            refine b1_le (tgt := 297) C jX9_take_288 (by decide) (fun h288 => ?_) (fun h288 => ?_)
            · exact absurd h288 (by decide)
            · refine sg0 C foX9 coX9 oX9_take_291 rfl rfl rfl ?_
              exact rt_i C hr hlk jX9_take_296 (fun H hH => ⟨ki2, bi2, ste2, hel2, low2, hgh2, p1, p2, p3, p4, _, _, su, ro, Or.inl ⟨6, i1, by unfold tkR; rw [he]; exact if_pos hq, ⟨by omega, by omega, by omega⟩, rfl, rfl, hag2⟩, hH⟩)
          · exact absurd h264 (by decide)
    · exact absurd (by decide) h38
end
