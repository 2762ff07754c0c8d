/-! THE CLAIM OUT OF ONE WALK OF THE LAW'S BODY. Your part is whole_start (and what it stands on); all else here is the same for every law, but numbers. -/
def R_law : String := "PathProofsLaw"
def lw_P (b : Addr) (xs : List Int32) (args : Array Value) (s : State) : Prop := args = #[.ref b] ∧ s.IntsAt b xs ∧ xs.length ≤ 2048 ∧ (Jvm.Cond.and given_1 narrow_1).before args s = true
def lw_Q (_ : Array Value) (s : State) (o : Outcome) (t : State) : Prop := o = .returned (some (.int 1)) ∧ Framed s o t [] 600000 7302250
def lw_Z (below : List Frame) (a : Array Value) (s : State) : State → Prop := fun t => ∃ o, t.status = .running ∧ Ended t below o ∧ lw_Q a s o t
/-- the law's own end, with 1 on the stack, nothing written that was there before, its room as the claim has it -/
theorem lw_ret {p : Program} {l : Launch} {e : Env} {s : State} {m : MethodId} {below : List Frame} {meth : Method} {c : Code} {b : Nat} (hx : p.tables.exec = Jvm.exec) (hb : c.code = code) (hr : meth.sig.returnType = ret) (hlocks : meth.locks = false) {pc : Nat} {H : Heap} {ls : Array Slot} (hdg : decode code pc = .ok (.ireturn, 1)) : W p l e room_1 s m #[Value.ref b] below meth c H [] 600000 7302250 (lw_Z below #[Value.ref b] s) (F0 m pc ls [.int 1]) := by
  intro T hT X
  obtain ⟨fs, hret, hrun, hended, hW, hframe⟩ := X.leave (v := some (.int 1)) (hlocks := hlocks) (fun h => by rw [hr] at h; cases h)
  have hmeth' : T.vm.method? m = some meth := X.method'
  refine ⟨T.setFrames fs, ?_, .returned (some (.int 1)), hrun, hended, rfl, ⟨_, rfl⟩, hW, hframe⟩
  jvm_step X.here [X.here.top, hx, hb, hdg, hmeth', hr, ret, narrow_b1]
  (try refine ⟨rfl, ?_⟩); (try refine ⟨rfl, ?_⟩)
  first | (intro acts; rw [hret _ acts rfl rfl rfl]) | rw [hret _ _ rfl rfl rfl]
  exact Steps.refl _
/-- what holds at the law's entry: the machine, the code, the tables' words (any of lw_tbl by 'hts w (by decide +kernel)'), the script of L ints xs at the cell b, what the Statement gives of the start (any of its parts by flat_of_before) -/
def lw_At (p : Program) (s : State) (m : MethodId) (meth : Method) (c : Code) (b L : Nat) (xs : Nat → Int32) : Prop :=
  p.tables.exec = Jvm.exec ∧ c.code = code ∧ meth.sig.returnType = ret ∧ c.maxLocals = 4 ∧ s.vm.findClass R_law = some m.cls ∧ (∀ w ∈ lw_tbl, w.before #[Value.ref b] s = true) ∧ va_X b L xs s s.heap ∧ b < s.heap.size ∧ meth.locks = false ∧ (Jvm.Cond.and given_1 narrow_1).before #[Value.ref b] s = true
theorem cmp4 {L j : Nat} (hL : L ≤ 2048) (hj : 4 * j ≤ L) : (nI L - 4 < nI (4 * j)) ↔ L < 4 * j + 4 := by
  by_cases h : 4 ≤ L
  · rw [show (4 : Int32) = nI 4 from rfl, pk_sub h, nI_ltI (by omega) (by omega)]
    omega
  · have hj0 : j = 0 := by omega
    subst hj0
    refine ⟨fun _ => by omega, fun _ => ?_⟩
    rcases (show L = 0 ∨ L = 1 ∨ L = 2 ∨ L = 3 by omega) with rfl | rfl | rfl | rfl <;> decide
section
variable {p : Program} {l : Launch} {e : Env} {s : State} {m : MethodId} {below : List Frame} {meth : Method} {c : Code} {D : va_G} {ca : Nat → ClassId} {b L qx qm : Nat} {xs : Nat → Int32}
set_option maxRecDepth 100000 in
set_option maxHeartbeats 4000000 in
theorem law_loop (C : Lc p s m c D ca b L xs) (hr : meth.sig.returnType = ret) (hlk : meth.locks = false) : ∀ (n j : Nat) (H : Heap) (locs : List Loc) (ls : Array Slot), 4 * j ≤ L → L < 4 * j + 4 * n + 4 → Iv D ca s qx qm H → lv_has ls 4 (lvL b qx qm (4 * j)) → va_S (AL s) s.heap H locs → W p l e room_1 s m #[Value.ref b] below meth c H locs (40 + 1003 * j) (40000 + 5014 * j) (lw_Z below #[Value.ref b] s) (F0 m 18 ls ([])) := by
  obtain ⟨⟨hx, hb, hml, hown, hts⟩, hKS, hX, hbl, hL⟩ := id C
  intro n
  induction n with
  | zero =>
    intro j H locs ls hj hn hIv hl hS
    refine lv_iload_n hx hb eL_18 rfl (lv_at hl 3 rfl) ?_
    refine lv_aload_n hx hb eL_19 rfl (lv_at hl 0 rfl) ?_
    refine va_slen hx hb hX hbl (Nat.not_le.mpr hbl) hS eL_20 ?_
    refine lv_iconst (v := 4) hx hb eL_21 (by decide) ?_
    refine lv_isub hx hb eL_22 ?_
    refine lv_icmp_gt (tgt := 798) hx hb eL_23 (by decide) (fun h23 => ?_) (fun h23 => ?_)
    · refine lv_iconst (v := 1) hx hb eL_798 (by decide) ?_
      refine va_forget (fun q hq => hS.2.2 q hq) ?_
      refine W.widen (k := 600000) (n := 7302250) (by omega) (by omega) ?_
      exact lw_ret hx hb hr hlk eL_799
    · exact absurd ((cmp4 hL hj).mpr (by omega)) h23
  | succ n ih =>
    intro j H locs ls hj hn hIv hl hS
    refine lv_iload_n hx hb eL_18 rfl (lv_at hl 3 rfl) ?_
    refine lv_aload_n hx hb eL_19 rfl (lv_at hl 0 rfl) ?_
    refine va_slen hx hb hX hbl (Nat.not_le.mpr hbl) hS eL_20 ?_
    refine lv_iconst (v := 4) hx hb eL_21 (by decide) ?_
    refine lv_isub hx hb eL_22 ?_
    refine lv_icmp_gt (tgt := 798) hx hb eL_23 (by decide) (fun h23 => ?_) (fun h23 => ?_)
    · refine lv_iconst (v := 1) hx hb eL_798 (by decide) ?_
      refine va_forget (fun q hq => hS.2.2 q hq) ?_
      refine W.widen (k := 600000) (n := 7302250) (by omega) (by omega) ?_
      exact lw_ret hx hb hr hlk eL_799
    · have h4 : 4 * j + 4 ≤ L := Nat.not_lt.mp fun h => h23 ((cmp4 hL hj).mpr h)
      have hK : ∀ (H2 : Heap) (locs2 : List Loc), Iv D ca s qx qm H2 → va_S (AL s) s.heap H2 locs2 → W p l e room_1 s m #[Value.ref b] below meth c H2 locs2 (40 + 1003 * j + 1003) (40000 + 5014 * j + 5014) (lw_Z below #[Value.ref b] s) (F0 m 792 ls ([])) := fun H2 locs2 hI hS2 => by
        refine lv_iinc (k := 3) (v := nI (4 * (j + 1))) hx hb eL_792 hl rfl (by rw [show Int32.ofInt 4 = nI 4 from by decide, nI_add]; congr 1) (by decide) rfl (fun ls2 hl2 => ?_)
        refine lv_goto (tgt := 18) hx hb eL_795 (by decide) ?_
        have h9 := ih (j + 1) H2 locs2 ls2 (by omega) (by omega) hI (lv_sub hl2 [1, 2, 3, 0] rfl) hS2
        rw [show 40 + 1003 * (j + 1) = 40 + 1003 * j + 1003 by omega, show 40000 + 5014 * (j + 1) = 40000 + 5014 * j + 5014 by omega] at h9
        exact h9
      refine lv_aload_n hx hb eL_26 rfl (lv_at hl 0 rfl) ?_
      refine lv_iload_n hx hb eL_27 rfl (lv_at hl 3 rfl) ?_
      refine va_sld hx hb hX hbl (Nat.not_le.mpr hbl) hS (vp_in_nI (show 4 * j < L by omega) (by omega)) eL_28 ?_
      refine lv_bipush (v := 31) hx hb eL_29 (by decide) ?_
      refine lv_iand hx hb eL_31 ?_
      generalize xs (nI (4 * j)).toNatClampNeg &&& 31 = z
      by_cases hout : z.toInt < 0 ∨ 22 < z.toInt
      · refine lv_tableOut (tgt := 792) hx hb eL_32 hout (by decide) ?_
        exact W.widen (by omega) (by omega) (hK H locs hIv hS)
      rcases (show z.toInt = 0 ∨ z.toInt = 1 ∨ z.toInt = 2 ∨ z.toInt = 3 ∨ z.toInt = 4 ∨ z.toInt = 5 ∨ z.toInt = 6 ∨ z.toInt = 7 ∨ z.toInt = 8 ∨ z.toInt = 9 ∨ z.toInt = 10 ∨ z.toInt = 11 ∨ z.toInt = 12 ∨ z.toInt = 13 ∨ z.toInt = 14 ∨ z.toInt = 15 ∨ z.toInt = 16 ∨ z.toInt = 17 ∨ z.toInt = 18 ∨ z.toInt = 19 ∨ z.toInt = 20 ∨ z.toInt = 21 ∨ z.toInt = 22 by omega) with hz | hz | hz | hz | hz | hz | hz | hz | hz | hz | hz | hz | hz | hz | hz | hz | hz | hz | hz | hz | hz | hz | hz
      · exact lv_tableIn (off := 108) (tgt := 140) hx hb eL_32 (by omega) (by omega) (by rw [hz]; rfl) (by decide) (cs_0 C h4 hIv hl hS ⟨by omega, by omega⟩ hK)
      · exact lv_tableIn (off := 171) (tgt := 203) hx hb eL_32 (by omega) (by omega) (by rw [hz]; rfl) (by decide) (cs_1 C h4 hIv hl hS ⟨by omega, by omega⟩ hK)
      · exact lv_tableIn (off := 194) (tgt := 226) hx hb eL_32 (by omega) (by omega) (by rw [hz]; rfl) (by decide) (cs_2 C h4 hIv hl hS ⟨by omega, by omega⟩ hK)
      · exact lv_tableIn (off := 207) (tgt := 239) hx hb eL_32 (by omega) (by omega) (by rw [hz]; rfl) (by decide) (cs_3 C h4 hIv hl hS ⟨by omega, by omega⟩ hK)
      · exact lv_tableIn (off := 231) (tgt := 263) hx hb eL_32 (by omega) (by omega) (by rw [hz]; rfl) (by decide) (cs_4 C h4 hIv hl hS ⟨by omega, by omega⟩ hK)
      · exact lv_tableIn (off := 254) (tgt := 286) hx hb eL_32 (by omega) (by omega) (by rw [hz]; rfl) (by decide) (cs_5 C h4 hIv hl hS ⟨by omega, by omega⟩ hK)
      · exact lv_tableIn (off := 287) (tgt := 319) hx hb eL_32 (by omega) (by omega) (by rw [hz]; rfl) (by decide) (cs_6 C h4 hIv hl hS ⟨by omega, by omega⟩ hK)
      · exact lv_tableIn (off := 300) (tgt := 332) hx hb eL_32 (by omega) (by omega) (by rw [hz]; rfl) (by decide) (cs_7 C h4 hIv hl hS ⟨by omega, by omega⟩ hK)
      · exact lv_tableIn (off := 323) (tgt := 355) hx hb eL_32 (by omega) (by omega) (by rw [hz]; rfl) (by decide) (cs_8 C h4 hIv hl hS ⟨by omega, by omega⟩ hK)
      · exact lv_tableIn (off := 336) (tgt := 368) hx hb eL_32 (by omega) (by omega) (by rw [hz]; rfl) (by decide) (cs_9 C h4 hIv hl hS ⟨by omega, by omega⟩ hK)
      · exact lv_tableIn (off := 399) (tgt := 431) hx hb eL_32 (by omega) (by omega) (by rw [hz]; rfl) (by decide) (cs_10 C h4 hIv hl hS ⟨by omega, by omega⟩ hK)
      · exact lv_tableIn (off := 422) (tgt := 454) hx hb eL_32 (by omega) (by omega) (by rw [hz]; rfl) (by decide) (cs_11 C h4 hIv hl hS ⟨by omega, by omega⟩ hK)
      · exact lv_tableIn (off := 455) (tgt := 487) hx hb eL_32 (by omega) (by omega) (by rw [hz]; rfl) (by decide) (cs_12 C h4 hIv hl hS ⟨by omega, by omega⟩ hK)
      · exact lv_tableIn (off := 508) (tgt := 540) hx hb eL_32 (by omega) (by omega) (by rw [hz]; rfl) (by decide) (cs_13 C h4 hIv hl hS ⟨by omega, by omega⟩ hK)
      · exact lv_tableIn (off := 521) (tgt := 553) hx hb eL_32 (by omega) (by omega) (by rw [hz]; rfl) (by decide) (cs_14 C h4 hIv hl hS ⟨by omega, by omega⟩ hK)
      · exact lv_tableIn (off := 544) (tgt := 576) hx hb eL_32 (by omega) (by omega) (by rw [hz]; rfl) (by decide) (cs_15 C h4 hIv hl hS ⟨by omega, by omega⟩ hK)
      · exact lv_tableIn (off := 558) (tgt := 590) hx hb eL_32 (by omega) (by omega) (by rw [hz]; rfl) (by decide) (cs_16 C h4 hIv hl hS ⟨by omega, by omega⟩ hK)
      · exact lv_tableIn (off := 621) (tgt := 653) hx hb eL_32 (by omega) (by omega) (by rw [hz]; rfl) (by decide) (cs_17 C h4 hIv hl hS ⟨by omega, by omega⟩ hK)
      · exact lv_tableIn (off := 644) (tgt := 676) hx hb eL_32 (by omega) (by omega) (by rw [hz]; rfl) (by decide) (cs_18 C h4 hIv hl hS ⟨by omega, by omega⟩ hK)
      · exact lv_tableIn (off := 658) (tgt := 690) hx hb eL_32 (by omega) (by omega) (by rw [hz]; rfl) (by decide) (cs_19 C h4 hIv hl hS ⟨by omega, by omega⟩ hK)
      · exact lv_tableIn (off := 691) (tgt := 723) hx hb eL_32 (by omega) (by omega) (by rw [hz]; rfl) (by decide) (cs_20 C h4 hIv hl hS ⟨by omega, by omega⟩ hK)
      · exact lv_tableIn (off := 714) (tgt := 746) hx hb eL_32 (by omega) (by omega) (by rw [hz]; rfl) (by decide) (cs_21 C h4 hIv hl hS ⟨by omega, by omega⟩ hK)
      · exact lv_tableIn (off := 737) (tgt := 769) hx hb eL_32 (by omega) (by omega) (by rw [hz]; rfl) (by decide) (cs_22 C h4 hIv hl hS ⟨by omega, by omega⟩ hK)
end
theorem dfZ9 : ∀ j, j < 42 → defaultValue (tyX9 j) = vp_V [.null, .null, .null, .int 0, .null, .null, .int 0, .null, .int 0, .null, .null, .null, .int 0, .null, .int 0, .null, .null, .null, .null, .int 0, .null, .null, .null, .null, .null, .null, .null, .null, .int 0, .int 0, .int 0, .null, .int 0, .int 0, .int 0, .int 0, .int 0, .long 0, .int 0, .int 0, .int 0, .int 0] j := by decide +kernel
set_option maxRecDepth 100000 in
set_option maxHeartbeats 4000000 in
/-- from the entry, for every script of at most 2048 ints, the law comes to its end with true -/
theorem whole_start {p : Program} {e : Env} {s : State} {m : MethodId} {below : List Frame} {meth : Method} {c : Code} (l : Launch) {b L : Nat} {xs : Nat → Int32} (hL : L ≤ 2048) (C0 : lw_At p s m meth c b L xs) : W p l e room_1 s m #[Value.ref b] below meth c s.heap [] 0 0 (lw_Z below #[Value.ref b] s) (entryFrame m ([Value.ref b] : List Value).toArray 4) := by
  obtain ⟨hx, hb, hr, hml, hown, hts, hX, hbl, hlocks, hgv⟩ := id C0
  obtain ⟨D, ca, hKS⟩ := ks_start hts hgv
  have F : CallFix p m c code 4 s #[Value.ref b] tb RL := ⟨hx, hb, hml, hown, fun w hw => hts w (tb_in hw)⟩
  have C : Lc p s m c D ca b L xs := ⟨F, hKS, hX, hbl, hL⟩
  have hl := lv_entry ([.ref b]) (n := 4) (Nat.le_of_ble_eq_true rfl)
  rw [lg_entry_eq]
  generalize (lg_sl ([.ref b]) ++ List.replicate (4 - (lg_sl ([.ref b])).length) Slot.unset).toArray = ls at hl ⊢
  have hl : lv_has ls 4 [(0, .ref b)] := hl
  have hS : va_S (AL s) s.heap s.heap [] := va_S.rf
  refine lnew (R := room_1) F hKS (ci := 7) (fs := [.null, .null, .null, .int 0, .null, .null, .null, .int 0, .long 0]) rfl kl_L_7 is_X8 in_X8 tyX8 tyX8_ok dfX8 ⟨Nat.le_of_ble_eq_true rfl, Nat.le_of_ble_eq_true rfl⟩ eL_0 (fun H1 z1 o1 hat => ?_)
  have hS1 : va_S (AL s) s.heap H1 [] := ⟨by omega, fun q h1 _ => o1 q h1, fun q hq => by cases hq⟩
  refine lv_dup hx hb eL_3 rfl ?_
  have hP1 := cw_1 (ca := ca) (fun _ => rfl) hat
  refine lcallN (R := room_1) (n := 1) (ad := upA (fun k => k - 100) 0 s.heap.size) (rest := [.ref s.heap.size]) F hKS (kX8_init (N := fun _ => True) upA_AD NS.tt) cd_X8_init in_X8 ml_L_9 im_X8_init rfl hd_X8_init ⟨Nat.le_of_ble_eq_true rfl, Nat.le_of_ble_eq_true rfl⟩ ⟨Nat.le_of_ble_eq_true rfl, Nat.le_of_ble_eq_true rfl⟩ (Nat.le_of_ble_eq_true rfl) eL_4 hl hP1 hS1 trivial (fun k hk => by rw [show k = 0 by omega]; exact Nat.le_refl _) (fun adx wx H2 locs2 g1 g2 g3 hP2 hG z2 o2 hS2 => ?_)
  obtain ⟨q, rfl, -, hnq⟩ := hG
  refine lv_astore_n (lv' := [(1, .ref s.heap.size), (0, .ref b)]) hx hb eL_7 rfl hl (by decide) rfl (fun ls hl => ?_)
  have hx0 : adx 0 = s.heap.size := (g1 0 (Or.inl (by decide))).trans (if_pos rfl)
  have g2 : AD adx 9 := g2
  have hxf : ∀ i, i < 9 → s.heap.size ≤ adx i := fun i hi => by
    by_cases h : i = 0
    · rw [h, hx0]; exact Nat.le_refl _
    · have := g3 i (by omega) hi
      omega
  have hxl : ∀ i, i < 9 → adx i < H2.size := fun i hi => cw_lt hP2 hi
  refine lnew (R := room_1) F hKS (ci := 8) (fs := [.null, .null, .null, .int 0, .null, .null, .int 0, .null, .int 0, .null, .null, .null, .int 0, .null, .int 0, .null, .null, .null, .null, .int 0, .null, .null, .null, .null, .null, .null, .null, .null, .int 0, .int 0, .int 0, .null, .int 0, .int 0, .int 0, .int 0, .int 0, .long 0, .int 0, .int 0, .int 0, .int 0]) rfl kl_L_10 is_X9 in_X9 tyX9 tyX9_ok dfZ9 ⟨Nat.le_of_ble_eq_true rfl, Nat.le_of_ble_eq_true rfl⟩ eL_8 (fun H3 z3 o3 hat3 => ?_)
  have hS3 : va_S (AL s) s.heap H3 locs2 := ⟨Nat.le_trans hS2.1 (by omega), fun q h1 h2 => (o3 q (Nat.lt_of_lt_of_le h1 hS2.1)).trans (hS2.2.1 q h1 h2), hS2.2.2⟩
  have hsn3 : Snap D H2 H3 := ⟨by omega, fun q cell hq _ => by rw [o3 q (Array.getElem?_eq_some_iff.mp hq).1]; exact hq⟩
  have hPx3 : va_P D vwCl (cw adx ca 0 _) H3 := hP2.kept (fun j w hw => o3 w.1 ((hP2 j w hw).lt))
  refine lv_dup hx hb eL_11 rfl ?_
  have hP3 := cw_1 (ca := ca) (fun _ => rfl) hat3
  refine lcallN (R := room_1) (n := 1) (ad := upA (fun k => k - 100) 0 H2.size) (rest := [.ref H2.size]) F hKS (kX9_init (N := Snap D H3) upA_AD Snap.ns) cd_X9_init in_X9 ml_L_12 im_X9_init rfl hd_X9_init ⟨Nat.le_of_ble_eq_true rfl, Nat.le_of_ble_eq_true rfl⟩ ⟨Nat.le_of_ble_eq_true rfl, Nat.le_of_ble_eq_true rfl⟩ (Nat.le_of_ble_eq_true rfl) eL_12 hl hP3 hS3 Snap.rf (fun k hk => by rw [show k = 0 by omega]; exact hS2.1) (fun adm wm H4 locs4 k1 k2 k3 hP4 hG z4 o4 hS4 => ?_)
  obtain ⟨rfl, hsn4⟩ := hG
  refine lv_astore_n (lv' := [(2, .ref H2.size), (1, .ref s.heap.size), (0, .ref b)]) hx hb eL_15 rfl hl (by decide) rfl (fun ls hl => ?_)
  refine lv_iconst (v := 0) hx hb eL_16 (by decide) ?_
  refine lv_istore_n (lv' := [(3, .int 0), (2, .ref H2.size), (1, .ref s.heap.size), (0, .ref b)]) hx hb eL_17 rfl hl (by decide) rfl (fun ls hl => ?_)
  have hm0 : adm 0 = H2.size := (k1 0 (Or.inl (by decide))).trans (if_pos rfl)
  have k2 : AD adm 24 := k2
  have hmf : ∀ j, j < 24 → H2.size ≤ adm j := fun j hj => by
    by_cases h : j = 0
    · rw [h, hm0]; exact Nat.le_refl _
    · have := k3 j (by omega) hj
      omega
  have hPx4 : va_P D vwCl (cw adx ca 0 _) H4 := hPx3.kept (fun j w hw => by
    obtain ⟨e9, f1, f2, f3⟩ := cw_some hw
    have f3 : j < 9 := f3
    have h9 := hxl j f3
    rw [f2]
    exact o4 _ (by show adx j < H3.size; omega) (fun k hk e8 => by
      rw [show k = 0 by omega] at e8
      have e8 : adx j = H2.size := e8
      omega))
  have hIv : Iv D ca s s.heap.size H2.size H4 := ⟨adx, adm, tE q, [], [], [], none, none, -2, 0, _, _, ⟨⟨g2, k2⟩, ⟨hx0, hm0⟩, fun i j hi hj e8 => by have := hxl i hi; have := hmf j hj; omega, hxf, fun j hj => Nat.le_trans hS2.1 (hmf j hj)⟩, ⟨⟨trivial, Or.inl rfl, Nat.zero_le _⟩, fun V hV => (by cases hV), Nat.zero_le _, fun x hx => (by cases hx)⟩, Or.inl ⟨rfl, rfl⟩, ⟨_, _, _, _, _, 0, rfl, ⟨Nat.zero_le _, fun j V h => (by cases h)⟩, rg_nil, fun j _ h => absurd h (Nat.not_lt_zero _)⟩, ⟨_, _, _, _, _, _, _, _, _, _, _, _, _, _, _, _, _, _, _, _, _, _, _, _, _, _, _, _, _, _, _, _, _, _, _, _, rfl, ⟨fun j q h => (by cases h), rfl⟩, fun j V h => (by cases h), rg_nil, fun j _ h => absurd h (Nat.not_lt_zero _), ⟨0, Or.inl rfl, rfl, fun U hU => (by cases hU)⟩⟩, hPx4, hP4, ⟨nodeAt.ns (tE q) _ _ (nodeAt.ns (tE q) _ _ hnq hsn3) hsn4, fun V hV => (by cases hV), fun V hV => (by cases hV)⟩⟩
  exact W.widen (k := 40 + 1003 * 0) (n := 40000 + 5014 * 0) (Nat.le_of_ble_eq_true rfl) (Nat.le_of_ble_eq_true rfl) (law_loop C hr hlocks (L + 1) 0 H4 locs4 ls (by omega) (by omega) hIv (lv_sub hl [3, 2, 1, 0] rfl) hS4)
set_option maxHeartbeats 4000000 in
theorem lw_walk (l : Launch) (b : Addr) (xs : List Int32) : MetFree l x (headSpec (Jvm.Cond.code x code maxLocals ret :: tables_1) room_1) (lw_P b xs) (fun _ _ _ _ _ => True) lw_Q := by
  refine MetFree.of_bodyS (code := code) (maxLocals := maxLocals) (ret := ret) (by decide) ?_ ?_
  · intro args s m h hn
    obtain ⟨meth, c, h1, h2, h3, h4, h5, h6, -, -⟩ := Cond.code_spec hn (atoms_spec (ws := Jvm.Cond.code x code maxLocals ret :: tables_1) h _ List.mem_cons_self)
    exact ⟨meth, c, h1, h2, h3, h4, h5, h6⟩
  · intro p e s m args below meth c s₁ B hml0 hP _
    obtain ⟨rfl, hx, hbd, hgv⟩ := hP
    obtain ⟨scr, harrAt, hlist, hof, hsmall⟩ := hx
    obtain ⟨hcb, hkn, -, -⟩ := State.arrayAt?_spec harrAt
    have hown : s.vm.findClass R_law = some m.cls := findClass_of_methodNamed B.named
    have hts0 : ∀ c ∈ (Jvm.Cond.code x code maxLocals ret :: tables_1), c.before #[Value.ref b] s = true := atoms_spec (ws := Jvm.Cond.code x code maxLocals ret :: tables_1) B.pre
    have hts : ∀ w ∈ lw_tbl, w.before #[Value.ref b] s = true := k2_hts_sels lw_privs (fun w hw => hts0 w (List.mem_cons_of_mem _ hw)) lw_privs_ok
    have hml : c.maxLocals = 4 := B.maxLocals_eq (hts0 _ List.mem_cons_self)
    have X₀ : Stand p l e room_1 s m #[Value.ref b] below meth c s₁ [] 0 0 := Stand.of_body B
    have hh0 : s₁.heap = s.heap := by rw [B.state]; rfl
    have hsz : scr.slots.size = xs.length := by rw [← Array.length_toList, hlist, List.length_map]
    have hval : ∀ j : Nat, j < xs.length → scr.slots[j]? = some (.int (xs.getD j 0)) := fun j hj => by
      rw [← Array.getElem?_toList, hlist]
      simp [hj]
    have hbl : b < s.heap.size := (Array.getElem?_eq_some_iff.mp hcb).1
    have hX : va_X b xs.length (fun j => xs.getD j 0) s s.heap := ⟨scr, hcb, hof, hkn, hsz, hval⟩
    have K : W p l e room_1 s m #[Value.ref b] below meth c s₁.heap [] 0 0 (lw_Z below #[Value.ref b] s) (entryFrame m ([Value.ref b] : List Value).toArray 4) := by
      rw [hh0]
      exact whole_start l hbd ⟨B.exec, B.bytes, B.returns, hml, hown, hts, hX, hbl, B.notSynchronized, hgv⟩
    obtain ⟨t, a1, o, b1, b2, b3⟩ := K s₁ rfl X₀
    exact ⟨t, o, a1, b1, b2, b3⟩
theorem lw_pre_spec {args : Array Value} {s : State} (h : (Jvm.Cond.and given_1 narrow_1).before args s = true) (hr : rest_1_c.before args s = true) : ∃ (b : Addr) (xs : List Int32), lw_P b xs args s := by
  have hs := flat_of_before _ h
  have hq := flat_of_before _ hr
  have hc : (Cond.count 1).before args s = true := hs _ (by decide +kernel)
  have harr : (Cond.arrayOf (.arg 0) .int).before args s = true := hs _ (by decide +kernel)
  have hle : (Cond.le (.length (.arg 0)) (.int 2048)).before args s = true := hs _ (by decide +kernel)
  have hlen : (Cond.isInt (.length (.arg 0))).before args s = true := hq _ (by decide +kernel)
  have hall : (Cond.all (.arg 0) (.isInt (.elem (.arg 0) (.index 0)))).before args s = true := hq _ (by decide +kernel)
  obtain ⟨b, xs, hb, hx⟩ := State.ints_of_pre rfl harr hlen hall
  have hsm : xs.length < 2 ^ 31 := hx.choose_spec.2.2.2
  have hev : (Term.length (.arg 0)).eval args s none [] s = some (.int xs.length.toInt32) := hx.length_eval hb
  have hv := Cond.le_ints hev (show (Term.int 2048).eval args s none [] s = some (.int 2048) from rfl)
  have hd : xs.length.toInt32 ≤ 2048 := by
    simpa [Cond.before, Cond.holds, hv] using hle
  have hN : xs.length ≤ 2048 := (Int32.ofNat_le_ofNat hsm (by decide)).mp (show Int32.ofNat xs.length ≤ Int32.ofNat 2048 from hd)
  exact ⟨b, xs, Cond.one_arg hc (show args[0]? = some (.ref b) from hb), hx, hN, h⟩
theorem lw_comes (l : Launch) : Comes l x (Jvm.Cond.code x code maxLocals ret :: tables_1) room_1 (fun tb e args s => Calls_1 tb e args s ∧ rest_1 tb e args s ∧ Pre_1 tb e args s)
    (fun _ _ args s o t => lw_Q args s o t) := by
  intro p e ha hc hk s m args below hf hfit hheap happ hpre
  obtain ⟨b, xs, hP⟩ := lw_pre_spec hpre.2.2 hpre.2.1
  obtain ⟨k, o, h1, h2, h3, hQ⟩ := lw_walk l b xs p e ha hc hk s m args below hf ((Spec.applies_iff_loose hf).mp happ).1 hP trivial
  exact ⟨k, o, h1, h2, h3, hQ⟩
theorem lw_frame {s t : State} {o : Outcome} {args : Array Value} (h : Framed s o t [] 600000 7302250) :
    Framed s o t (fieldLocs frame_1_writes args s ++ arrayLocs frame_1_arrays args s ++ staticLocs frame_1_statics s) 600000 7302250 := h
theorem lw_limb (L : Cond) (hL : ∀ (args : Array Value) (s t : State), L.after args s (.returned (some (.int 1))) t = true) :
    ArmFor flags0 classFile x code maxLocals ret World_1 tables_1 room_1 Calls_1 rest_1 Pre_1
      (fun tb e a s o t => postC L tb e a s o t ∧ Framed s o t (fieldLocs frame_1_writes a s ++ arrayLocs frame_1_arrays a s ++ staticLocs frame_1_statics s) 600000 7302250) := by
  intro l _ _ _ p e ha hc hk s m args below hf hfit hheap happ hpre
  obtain ⟨k, o, h1, h2, h3, rfl, hF⟩ := lw_comes l p e ha hc hk s m args below hf hfit hheap happ hpre
  exact ⟨k, _, h1, h2, h3, hL args s _, lw_frame hF⟩
theorem i_vc : Claimed_1_1 ∧ Claimed_1_2 := ⟨lw_limb limb_1_1 (fun args s t => by simp [limb_1_1, Cond.after, Cond.holds, Cond.value]), lw_limb limb_1_2 (fun args s t => Cond.after_iff.mpr (by
  first | (rw [show limb_1_2 = Cond.eq .result (.int 1) from rfl, Cond.eq_ints (x := 1) (y := 1) rfl rfl]; simp; done) | (simp [limb_1_2, Cond.value, Term.eval]; done)))⟩
