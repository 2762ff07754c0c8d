/-! the law's cases: the class is asked, the model is asked, the answers are one -/
theorem nx_len {D : va_G} {H : Heap} {wx wm : List va_E} (h : Nx D H wx wm) : wx.length = 9 ∧ wm.length = 24 := by
  obtain ⟨T, Vs, Rg, S, vo, uo, fp, fd, h1, h2, h3, h4, h5⟩ := h
  refine ⟨?_, ?_⟩
  · rcases h3 with ⟨kf, ra, rb, to, so, sl, rfl, -⟩ | ⟨kf, ra, rb, to, so, sl, rfl, -⟩ <;> rfl
  · unfold Rm at h4
    rcases h4 with ⟨pa, va, sz, fr, tw, ta, wd, wb, wp, ou, o1, o2, pf, pt, ki, bi, ste, hel, low, hgh, su, ro, fe, dp, la, rst, hlf, nd, frd, at_, end_, ab, co, ll, lh, hm, rfl, -⟩
    rfl
theorem isI_cv {r : Value} (h : isI r) (ad : Nat → Nat) : cv ad r = r := by obtain ⟨x, rfl⟩ := h; rfl
theorem isJ_cv {r : Value} (h : isJ r) (ad : Nat → Nat) : cv ad r = r := by obtain ⟨x, rfl⟩ := h; rfl
section
variable {p : Program} {l : Launch} {e : Env} {s : State} {m : MethodId} {below : List Frame} {meth : Method} {c : Code} {cells slots : Nat} {Q : State → Prop} {D : va_G} {ca : Nat → ClassId} {b L qx qm i : Nat} {xs : Nat → Int32} {H : Heap} {locs : List Loc} {ls : Array Slot}
set_option maxRecDepth 100000 in
set_option maxHeartbeats 4000000 in
theorem duo (C : Lc p s m c D ca b L xs) {y8 : MethodName} {c8 : ByteArray} {ml8 idx8 pc8 : Nat} {rt8 : Option FieldType} {y9 : MethodName} {c9 : ByteArray} {ml9 idx9 pc9 k : Nat} {rt9 : Option FieldType} {av st8 : List Value} {J : Value → Prop} (hPr : Pr l D ca y8 c8 ml8 rt8 y9 c9 ml9 rt9 av J) (hJ : ∀ r, J r → ∀ ad, cv ad r = r) (hIv : Iv D ca s qx qm H) (hl : lv_has ls 4 (lvL b qx qm i)) (hS : va_S (AL s) s.heap H locs) (hrm : cells + 1003 ≤ 600000 ∧ slots + 5014 ≤ 7302250) (hav : ∀ ad, av.map (cv ad) = av) (hk : av.length = k) (hy8 : RX8 = y8.cls) (hy9 : RX9 = y9.cls) (hml : ml8 ≤ 20 ∧ ml9 ≤ 20)
    (x1 : Cond.code y8 c8 ml8 rt8 ∈ tb) (x2 : Cond.initialized y8.cls ∈ tb) (x3 : Cond.methodLink RL idx8 y8 ∈ tb) (x4 : Cond.instanceMethod y8 ∈ tb) (x5 : Cond.selects y8.cls y8 y8 ∈ tb) (x6 : y8.cls ≠ "java/lang/invoke/MethodHandle" ∧ y8.cls ≠ "java/lang/invoke/VarHandle" ∧ (parseMethodDescriptor y8.desc).map (fun d => d.parameters.length) = some k) (x7 : decode code pc8 = .ok (.invokevirtual idx8, 3))
    (z1 : Cond.code y9 c9 ml9 rt9 ∈ tb) (z2 : Cond.initialized y9.cls ∈ tb) (z3 : Cond.methodLink RL idx9 y9 ∈ tb) (z4 : Cond.instanceMethod y9 ∈ tb) (z5 : Cond.selects y9.cls y9 y9 ∈ tb) (z6 : y9.cls ≠ "java/lang/invoke/MethodHandle" ∧ y9.cls ≠ "java/lang/invoke/VarHandle" ∧ (parseMethodDescriptor y9.desc).map (fun d => d.parameters.length) = some k) (z7 : decode code pc9 = .ok (.invokevirtual idx9, 3))
    (hst : av.reverse ++ [.ref qx] = st8)
    (rows : ∀ (H1 : Heap) (locs1 : List Loc) (k1 k2 : Nat) (st : List Value), va_S (AL s) s.heap H1 locs1 → W p l e room_1 s m #[Value.ref b] below meth c H1 locs1 k1 k2 Q (F0 m (pc9) ls (av.reverse ++ .ref qm :: st)) → W p l e room_1 s m #[Value.ref b] below meth c H1 locs1 k1 k2 Q (F0 m (pc8 + 3) ls (st)))
    (fin : ∀ (r : Value) (H2 : Heap) (locs2 : List Loc), J r → Iv D ca s qx qm H2 → va_S (AL s) s.heap H2 locs2 → W p l e room_1 s m #[Value.ref b] below meth c H2 locs2 (cells + 1003) (slots + 5014) Q (F0 m (pc9 + 3) ls ([r, r]))) : W p l e room_1 s m #[Value.ref b] below meth c H locs cells slots Q (F0 m (pc8) ls (st8)) := by
  subst hst
  obtain ⟨adx, adm, T, Vs, Rg, S, vo, uo, fp, fd, wx, wm, hA, h1, h2, h3, h4, hPx, hPm, hNn⟩ := hIv
  obtain ⟨⟨a1, a2⟩, ⟨a3, a4⟩, a5, a6, a7⟩ := id hA
  obtain ⟨k8, n8, s8, k9, G8, G9, ⟨b1, b2, b3, b4⟩, c1, c2, c3⟩ := hPr adx adm T Vs Rg S vo uo fp fd wx wm a1 a2 h1 h2 h3 h4
  have hlen := nx_len (D := D) (H := H) (wx := wx) (wm := wm) ⟨T, Vs, Rg, S, vo, uo, fp, fd, h1, h2, Or.inl h3, h4, hNn⟩
  obtain ⟨fs8, hn8⟩ : ∃ fs, nth wx 0 = some (.inr (7, fs)) := by
    obtain ⟨kf, ra, rb, to, so, sl, rfl, -⟩ := h3
    exact ⟨_, rfl⟩
  obtain ⟨fs9, hn9⟩ : ∃ fs, nth wm 0 = some (.inr (8, fs)) := by
    unfold Rm at h4
    obtain ⟨pa, va, sz, fr, tw, ta, wd, wb, wp, ou, o1, o2, pf, pt, ki, bi, ste, hel, low, hgh, su, ro, fe, dp, la, rst, hlf, nd, frd, at_, end_, ab, co, ll, lh, hm, rfl, -⟩ := h4
    exact ⟨_, rfl⟩
  subst a3 a4
  refine lcall (R := room_1) C.1 C.2.1 c1 (ci := 7) rfl hy8 hn8 x1 x2 x3 x4 x5 x6 hk (hav adx) ⟨by show k8 + 1 ≤ 2048; omega, by show 8 + (ml8 + 11) + 40 * k8 ≤ 84000; omega⟩ ⟨by show cells + n8 ≤ 600000; omega, by show slots + s8 ≤ 7302250; omega⟩ (Nat.zero_le _) x7 hl hPx hS hNn a6 (fun v8 wx' H1 locs1 hP1 hG8 hz1 hk1 hS1 => ?_)
  have hPm1 : va_P D vwCl (cw adm ca 0 wm) H1 := hPm.kept (fun j q hq => by
    obtain ⟨e9, f1, f2, f3⟩ := cw_some hq
    rw [f2]
    exact hk1 _ (by have := (hPm j q hq).lt; rw [f2] at this; exact this) (fun t ht e8 => a5 t j ht (by omega) e8.symm))
  refine rows H1 locs1 _ _ _ hS1 ?_
  refine lcall (R := room_1) C.1 C.2.1 (c2 H1) (ci := 8) rfl hy9 hn9 z1 z2 z3 z4 z5 z6 hk (hav adm) ⟨by show k9 + 1 ≤ 2048; omega, by show 8 + (ml9 + 11) + 40 * k9 ≤ 84000; omega⟩ ⟨by show cells + n8 + 0 ≤ 600000; omega, by show slots + s8 + 0 ≤ 7302250; omega⟩ cat_opt z7 hl hPm1 hS1 Snap.rf a7 (fun v9 wm' H2 locs2 hP2 hG9 hz2 hk2 hS2 => ?_)
  obtain ⟨⟨r, rfl, rfl, hJr⟩, hNx, hsn⟩ := c3 v8 wx' H1 v9 wm' H2 hG8 hG9
  have hlen2 := nx_len hNx
  have hPx2 : va_P D vwCl (cw adx ca 0 wx') H2 := hP1.kept (fun j q hq => by
    obtain ⟨e9, f1, f2, f3⟩ := cw_some hq
    rw [f2]
    exact hk2 _ (by have := (hP1 j q hq).lt; rw [f2] at this; exact this) (fun t ht e8 => a5 j t (by omega) ht e8))
  have h9 := fin r H2 locs2 hJr (iv_mk hA hNx hsn hPx2 hP2) hS2
  refine W.widen (k := cells + 1003) (n := slots + 5014) (by show cells + n8 + 0 ≤ _; omega) (by show slots + s8 + 0 ≤ _; omega) ?_
  show W p l e room_1 s m #[Value.ref b] below meth c H2 locs2 (cells + 1003) (slots + 5014) Q (F0 m (pc9 + 3) ls ([cv adm r, cv adx r]))
  rw [hJ r hJr, hJ r hJr]
  exact h9
set_option maxRecDepth 100000 in
set_option maxHeartbeats 4000000 in
theorem cs_0 (C : Lc p s m c D ca b L xs) (hi : i + 4 ≤ L) (hIv : Iv D ca s qx qm H) (hl : lv_has ls 4 (lvL b qx qm i)) (hS : va_S (AL s) s.heap H locs) (hrm : cells + 1003 ≤ 600000 ∧ slots + 5014 ≤ 7302250) (hK : ∀ (H2 : Heap) (locs2 : List Loc), Iv D ca s qx qm H2 → va_S (AL s) s.heap H2 locs2 → W p l e room_1 s m #[Value.ref b] below meth c H2 locs2 (cells + 1003) (slots + 5014) Q (F0 m (792) ls ([]))) : W p l e room_1 s m #[Value.ref b] below meth c H locs cells slots Q (F0 m (140) ls ([])) := by
  have hx := C.1.1
  have hb := C.1.2.1
  refine lv_aload_n hx hb eL_140 rfl (lv_at hl 1 rfl) ?_
  refine ld_i (k := 1) C hl hS (by omega) eL_141 eL_142 eL_143 eL_144 eL_145 ?_
  refine ld_l (k := 2) (j := 3) C hl hS (by omega) (by omega) eL_146 eL_147 eL_148 eL_149 eL_150 eL_151 eL_152 eL_154 eL_155 eL_156 eL_157 eL_158 eL_159 eL_160 eL_161 eL_164 eL_165 co_L_13 ?_
  refine duo C (pc8 := 166) (pc9 := 195) (idx8 := 15) (idx9 := 19) (av := [.int (xs (i + 1)), .long (lgv (xs (i + 2)) (xs (i + 3)))]) (pr_put (xs (i + 1)) (lgv (xs (i + 2)) (xs (i + 3)))) (fun r h => isI_cv h) hIv hl hS hrm (fun _ => rfl) rfl rfl rfl ⟨by decide, by decide⟩ cd_X8_put in_X8 ml_L_15 im_X8_put se_X8_put hd_X8_put eL_166 cd_X9_put in_X9 ml_L_19 im_X9_put se_X9_put hd_X9_put eL_195 rfl (fun H1 locs1 k1 k2 st hS1 hw => ?_) (fun r H2 locs2 hJ hI hS2 => ?_)
  · refine lv_aload_n hx hb eL_169 rfl (lv_at hl 2 rfl) ?_
    refine ld_i (k := 1) C hl hS1 (by omega) eL_170 eL_171 eL_172 eL_173 eL_174 ?_
    refine ld_l (k := 2) (j := 3) C hl hS1 (by omega) (by omega) eL_175 eL_176 eL_177 eL_178 eL_179 eL_180 eL_181 eL_183 eL_184 eL_185 eL_186 eL_187 eL_188 eL_189 eL_190 eL_193 eL_194 co_L_13 ?_
    exact hw
  · obtain ⟨x, rfl⟩ := hJ
    exact lv_icmp_eq (tgt := 792) hx hb eL_198 (by decide) (fun _ => hK H2 locs2 hI hS2) (fun h => absurd rfl h)
set_option maxRecDepth 100000 in
set_option maxHeartbeats 4000000 in
theorem cs_1 (C : Lc p s m c D ca b L xs) (hi : i + 4 ≤ L) (hIv : Iv D ca s qx qm H) (hl : lv_has ls 4 (lvL b qx qm i)) (hS : va_S (AL s) s.heap H locs) (hrm : cells + 1003 ≤ 600000 ∧ slots + 5014 ≤ 7302250) (hK : ∀ (H2 : Heap) (locs2 : List Loc), Iv D ca s qx qm H2 → va_S (AL s) s.heap H2 locs2 → W p l e room_1 s m #[Value.ref b] below meth c H2 locs2 (cells + 1003) (slots + 5014) Q (F0 m (792) ls ([]))) : W p l e room_1 s m #[Value.ref b] below meth c H locs cells slots Q (F0 m (203) ls ([])) := by
  have hx := C.1.1
  have hb := C.1.2.1
  refine lv_aload_n hx hb eL_203 rfl (lv_at hl 1 rfl) ?_
  refine ld_i (k := 1) C hl hS (by omega) eL_204 eL_205 eL_206 eL_207 eL_208 ?_
  refine duo C (pc8 := 209) (pc9 := 218) (idx8 := 20) (idx9 := 24) (av := [.int (xs (i + 1))]) (pr_remove (xs (i + 1))) (fun r h => isI_cv h) hIv hl hS hrm (fun _ => rfl) rfl rfl rfl ⟨by decide, by decide⟩ cd_X8_remove in_X8 ml_L_20 im_X8_remove se_X8_remove hd_X8_remove eL_209 cd_X9_remove in_X9 ml_L_24 im_X9_remove se_X9_remove hd_X9_remove eL_218 rfl (fun H1 locs1 k1 k2 st hS1 hw => ?_) (fun r H2 locs2 hJ hI hS2 => ?_)
  · refine lv_aload_n hx hb eL_212 rfl (lv_at hl 2 rfl) ?_
    refine ld_i (k := 1) C hl hS1 (by omega) eL_213 eL_214 eL_215 eL_216 eL_217 ?_
    exact hw
  · obtain ⟨x, rfl⟩ := hJ
    exact lv_icmp_eq (tgt := 792) hx hb eL_221 (by decide) (fun _ => hK H2 locs2 hI hS2) (fun h => absurd rfl h)
set_option maxRecDepth 100000 in
set_option maxHeartbeats 4000000 in
theorem cs_2 (C : Lc p s m c D ca b L xs) (hi : i + 4 ≤ L) (hIv : Iv D ca s qx qm H) (hl : lv_has ls 4 (lvL b qx qm i)) (hS : va_S (AL s) s.heap H locs) (hrm : cells + 1003 ≤ 600000 ∧ slots + 5014 ≤ 7302250) (hK : ∀ (H2 : Heap) (locs2 : List Loc), Iv D ca s qx qm H2 → va_S (AL s) s.heap H2 locs2 → W p l e room_1 s m #[Value.ref b] below meth c H2 locs2 (cells + 1003) (slots + 5014) Q (F0 m (792) ls ([]))) : W p l e room_1 s m #[Value.ref b] below meth c H locs cells slots Q (F0 m (226) ls ([])) := by
  have hx := C.1.1
  have hb := C.1.2.1
  refine lv_aload_n hx hb eL_226 rfl (lv_at hl 1 rfl) ?_
  refine duo C (pc8 := 227) (pc9 := 231) (idx8 := 25) (idx9 := 29) (av := []) (pr_keep) (fun r h => isI_cv h) hIv hl hS hrm (fun _ => rfl) rfl rfl rfl ⟨by decide, by decide⟩ cd_X8_keep in_X8 ml_L_25 im_X8_keep se_X8_keep hd_X8_keep eL_227 cd_X9_keep in_X9 ml_L_29 im_X9_keep se_X9_keep hd_X9_keep eL_231 rfl (fun H1 locs1 k1 k2 st hS1 hw => ?_) (fun r H2 locs2 hJ hI hS2 => ?_)
  · refine lv_aload_n hx hb eL_230 rfl (lv_at hl 2 rfl) ?_
    exact hw
  · obtain ⟨x, rfl⟩ := hJ
    exact lv_icmp_eq (tgt := 792) hx hb eL_234 (by decide) (fun _ => hK H2 locs2 hI hS2) (fun h => absurd rfl h)
set_option maxRecDepth 100000 in
set_option maxHeartbeats 4000000 in
theorem cs_3 (C : Lc p s m c D ca b L xs) (hi : i + 4 ≤ L) (hIv : Iv D ca s qx qm H) (hl : lv_has ls 4 (lvL b qx qm i)) (hS : va_S (AL s) s.heap H locs) (hrm : cells + 1003 ≤ 600000 ∧ slots + 5014 ≤ 7302250) (hK : ∀ (H2 : Heap) (locs2 : List Loc), Iv D ca s qx qm H2 → va_S (AL s) s.heap H2 locs2 → W p l e room_1 s m #[Value.ref b] below meth c H2 locs2 (cells + 1003) (slots + 5014) Q (F0 m (792) ls ([]))) : W p l e room_1 s m #[Value.ref b] below meth c H locs cells slots Q (F0 m (239) ls ([])) := by
  have hx := C.1.1
  have hb := C.1.2.1
  refine lv_aload_n hx hb eL_239 rfl (lv_at hl 1 rfl) ?_
  refine ld_i (k := 1) C hl hS (by omega) eL_240 eL_241 eL_242 eL_243 eL_244 ?_
  refine duo C (pc8 := 245) (pc9 := 254) (idx8 := 30) (idx9 := 34) (av := [.int (xs (i + 1))]) (pr_root (xs (i + 1))) (fun r h => isJ_cv h) hIv hl hS hrm (fun _ => rfl) rfl rfl rfl ⟨by decide, by decide⟩ cd_X8_root in_X8 ml_L_30 im_X8_root se_X8_root hd_X8_root eL_245 cd_X9_root in_X9 ml_L_34 im_X9_root se_X9_root hd_X9_root eL_254 rfl (fun H1 locs1 k1 k2 st hS1 hw => ?_) (fun r H2 locs2 hJ hI hS2 => ?_)
  · refine lv_aload_n hx hb eL_248 rfl (lv_at hl 2 rfl) ?_
    refine ld_i (k := 1) C hl hS1 (by omega) eL_249 eL_250 eL_251 eL_252 eL_253 ?_
    exact hw
  · obtain ⟨x, rfl⟩ := hJ
    refine W.lcmp hx hb eL_257 ?_
    exact lv_if_eq (tgt := 792) hx hb eL_258 (by decide) (fun _ => hK H2 locs2 hI hS2) (fun h => absurd ((lg_cmp_eq _ _).mpr rfl) h)
set_option maxRecDepth 100000 in
set_option maxHeartbeats 4000000 in
theorem cs_4 (C : Lc p s m c D ca b L xs) (hi : i + 4 ≤ L) (hIv : Iv D ca s qx qm H) (hl : lv_has ls 4 (lvL b qx qm i)) (hS : va_S (AL s) s.heap H locs) (hrm : cells + 1003 ≤ 600000 ∧ slots + 5014 ≤ 7302250) (hK : ∀ (H2 : Heap) (locs2 : List Loc), Iv D ca s qx qm H2 → va_S (AL s) s.heap H2 locs2 → W p l e room_1 s m #[Value.ref b] below meth c H2 locs2 (cells + 1003) (slots + 5014) Q (F0 m (792) ls ([]))) : W p l e room_1 s m #[Value.ref b] below meth c H locs cells slots Q (F0 m (263) ls ([])) := by
  have hx := C.1.1
  have hb := C.1.2.1
  refine lv_aload_n hx hb eL_263 rfl (lv_at hl 1 rfl) ?_
  refine ld_i (k := 1) C hl hS (by omega) eL_264 eL_265 eL_266 eL_267 eL_268 ?_
  refine duo C (pc8 := 269) (pc9 := 278) (idx8 := 35) (idx9 := 38) (av := [.int (xs (i + 1))]) (pr_leaves (xs (i + 1))) (fun r h => isI_cv h) hIv hl hS hrm (fun _ => rfl) rfl rfl rfl ⟨by decide, by decide⟩ cd_X8_leaves in_X8 ml_L_35 im_X8_leaves se_X8_leaves hd_X8_leaves eL_269 cd_X9_leaves in_X9 ml_L_38 im_X9_leaves se_X9_leaves hd_X9_leaves eL_278 rfl (fun H1 locs1 k1 k2 st hS1 hw => ?_) (fun r H2 locs2 hJ hI hS2 => ?_)
  · refine lv_aload_n hx hb eL_272 rfl (lv_at hl 2 rfl) ?_
    refine ld_i (k := 1) C hl hS1 (by omega) eL_273 eL_274 eL_275 eL_276 eL_277 ?_
    exact hw
  · obtain ⟨x, rfl⟩ := hJ
    exact lv_icmp_eq (tgt := 792) hx hb eL_281 (by decide) (fun _ => hK H2 locs2 hI hS2) (fun h => absurd rfl h)
set_option maxRecDepth 100000 in
set_option maxHeartbeats 4000000 in
theorem cs_5 (C : Lc p s m c D ca b L xs) (hi : i + 4 ≤ L) (hIv : Iv D ca s qx qm H) (hl : lv_has ls 4 (lvL b qx qm i)) (hS : va_S (AL s) s.heap H locs) (hrm : cells + 1003 ≤ 600000 ∧ slots + 5014 ≤ 7302250) (hK : ∀ (H2 : Heap) (locs2 : List Loc), Iv D ca s qx qm H2 → va_S (AL s) s.heap H2 locs2 → W p l e room_1 s m #[Value.ref b] below meth c H2 locs2 (cells + 1003) (slots + 5014) Q (F0 m (792) ls ([]))) : W p l e room_1 s m #[Value.ref b] below meth c H locs cells slots Q (F0 m (286) ls ([])) := by
  have hx := C.1.1
  have hb := C.1.2.1
  refine lv_aload_n hx hb eL_286 rfl (lv_at hl 1 rfl) ?_
  refine ld_i (k := 1) C hl hS (by omega) eL_287 eL_288 eL_289 eL_290 eL_291 ?_
  refine ld_i (k := 2) C hl hS (by omega) eL_292 eL_293 eL_294 eL_295 eL_296 ?_
  refine duo C (pc8 := 297) (pc9 := 311) (idx8 := 39) (idx9 := 43) (av := [.int (xs (i + 1)), .int (xs (i + 2))]) (pr_want (xs (i + 1)) (xs (i + 2))) (fun r h => isI_cv h) hIv hl hS hrm (fun _ => rfl) rfl rfl rfl ⟨by decide, by decide⟩ cd_X8_want in_X8 ml_L_39 im_X8_want se_X8_want hd_X8_want eL_297 cd_X9_want in_X9 ml_L_43 im_X9_want se_X9_want hd_X9_want eL_311 rfl (fun H1 locs1 k1 k2 st hS1 hw => ?_) (fun r H2 locs2 hJ hI hS2 => ?_)
  · refine lv_aload_n hx hb eL_300 rfl (lv_at hl 2 rfl) ?_
    refine ld_i (k := 1) C hl hS1 (by omega) eL_301 eL_302 eL_303 eL_304 eL_305 ?_
    refine ld_i (k := 2) C hl hS1 (by omega) eL_306 eL_307 eL_308 eL_309 eL_310 ?_
    exact hw
  · obtain ⟨x, rfl⟩ := hJ
    exact lv_icmp_eq (tgt := 792) hx hb eL_314 (by decide) (fun _ => hK H2 locs2 hI hS2) (fun h => absurd rfl h)
set_option maxRecDepth 100000 in
set_option maxHeartbeats 4000000 in
theorem cs_6 (C : Lc p s m c D ca b L xs) (hi : i + 4 ≤ L) (hIv : Iv D ca s qx qm H) (hl : lv_has ls 4 (lvL b qx qm i)) (hS : va_S (AL s) s.heap H locs) (hrm : cells + 1003 ≤ 600000 ∧ slots + 5014 ≤ 7302250) (hK : ∀ (H2 : Heap) (locs2 : List Loc), Iv D ca s qx qm H2 → va_S (AL s) s.heap H2 locs2 → W p l e room_1 s m #[Value.ref b] below meth c H2 locs2 (cells + 1003) (slots + 5014) Q (F0 m (792) ls ([]))) : W p l e room_1 s m #[Value.ref b] below meth c H locs cells slots Q (F0 m (319) ls ([])) := by
  have hx := C.1.1
  have hb := C.1.2.1
  refine lv_aload_n hx hb eL_319 rfl (lv_at hl 1 rfl) ?_
  refine duo C (pc8 := 320) (pc9 := 324) (idx8 := 44) (idx9 := 47) (av := []) (pr_forget) (fun r h => isI_cv h) hIv hl hS hrm (fun _ => rfl) rfl rfl rfl ⟨by decide, by decide⟩ cd_X8_forget in_X8 ml_L_44 im_X8_forget se_X8_forget hd_X8_forget eL_320 cd_X9_forget in_X9 ml_L_47 im_X9_forget se_X9_forget hd_X9_forget eL_324 rfl (fun H1 locs1 k1 k2 st hS1 hw => ?_) (fun r H2 locs2 hJ hI hS2 => ?_)
  · refine lv_aload_n hx hb eL_323 rfl (lv_at hl 2 rfl) ?_
    exact hw
  · obtain ⟨x, rfl⟩ := hJ
    exact lv_icmp_eq (tgt := 792) hx hb eL_327 (by decide) (fun _ => hK H2 locs2 hI hS2) (fun h => absurd rfl h)
set_option maxRecDepth 100000 in
set_option maxHeartbeats 4000000 in
theorem cs_7 (C : Lc p s m c D ca b L xs) (hi : i + 4 ≤ L) (hIv : Iv D ca s qx qm H) (hl : lv_has ls 4 (lvL b qx qm i)) (hS : va_S (AL s) s.heap H locs) (hrm : cells + 1003 ≤ 600000 ∧ slots + 5014 ≤ 7302250) (hK : ∀ (H2 : Heap) (locs2 : List Loc), Iv D ca s qx qm H2 → va_S (AL s) s.heap H2 locs2 → W p l e room_1 s m #[Value.ref b] below meth c H2 locs2 (cells + 1003) (slots + 5014) Q (F0 m (792) ls ([]))) : W p l e room_1 s m #[Value.ref b] below meth c H locs cells slots Q (F0 m (332) ls ([])) := by
  have hx := C.1.1
  have hb := C.1.2.1
  refine lv_aload_n hx hb eL_332 rfl (lv_at hl 1 rfl) ?_
  refine ld_i (k := 1) C hl hS (by omega) eL_333 eL_334 eL_335 eL_336 eL_337 ?_
  refine duo C (pc8 := 338) (pc9 := 347) (idx8 := 48) (idx9 := 51) (av := [.int (xs (i + 1))]) (pr_show (xs (i + 1))) (fun r h => isI_cv h) hIv hl hS hrm (fun _ => rfl) rfl rfl rfl ⟨by decide, by decide⟩ cd_X8_show in_X8 ml_L_48 im_X8_show se_X8_show hd_X8_show eL_338 cd_X9_show in_X9 ml_L_51 im_X9_show se_X9_show hd_X9_show eL_347 rfl (fun H1 locs1 k1 k2 st hS1 hw => ?_) (fun r H2 locs2 hJ hI hS2 => ?_)
  · refine lv_aload_n hx hb eL_341 rfl (lv_at hl 2 rfl) ?_
    refine ld_i (k := 1) C hl hS1 (by omega) eL_342 eL_343 eL_344 eL_345 eL_346 ?_
    exact hw
  · obtain ⟨x, rfl⟩ := hJ
    exact lv_icmp_eq (tgt := 792) hx hb eL_350 (by decide) (fun _ => hK H2 locs2 hI hS2) (fun h => absurd rfl h)
set_option maxRecDepth 100000 in
set_option maxHeartbeats 4000000 in
theorem cs_8 (C : Lc p s m c D ca b L xs) (hi : i + 4 ≤ L) (hIv : Iv D ca s qx qm H) (hl : lv_has ls 4 (lvL b qx qm i)) (hS : va_S (AL s) s.heap H locs) (hrm : cells + 1003 ≤ 600000 ∧ slots + 5014 ≤ 7302250) (hK : ∀ (H2 : Heap) (locs2 : List Loc), Iv D ca s qx qm H2 → va_S (AL s) s.heap H2 locs2 → W p l e room_1 s m #[Value.ref b] below meth c H2 locs2 (cells + 1003) (slots + 5014) Q (F0 m (792) ls ([]))) : W p l e room_1 s m #[Value.ref b] below meth c H locs cells slots Q (F0 m (355) ls ([])) := by
  have hx := C.1.1
  have hb := C.1.2.1
  refine lv_aload_n hx hb eL_355 rfl (lv_at hl 1 rfl) ?_
  refine duo C (pc8 := 356) (pc9 := 360) (idx8 := 52) (idx9 := 55) (av := []) (pr_pass) (fun r h => isI_cv h) hIv hl hS hrm (fun _ => rfl) rfl rfl rfl ⟨by decide, by decide⟩ cd_X8_pass in_X8 ml_L_52 im_X8_pass se_X8_pass hd_X8_pass eL_356 cd_X9_pass in_X9 ml_L_55 im_X9_pass se_X9_pass hd_X9_pass eL_360 rfl (fun H1 locs1 k1 k2 st hS1 hw => ?_) (fun r H2 locs2 hJ hI hS2 => ?_)
  · refine lv_aload_n hx hb eL_359 rfl (lv_at hl 2 rfl) ?_
    exact hw
  · obtain ⟨x, rfl⟩ := hJ
    exact lv_icmp_eq (tgt := 792) hx hb eL_363 (by decide) (fun _ => hK H2 locs2 hI hS2) (fun h => absurd rfl h)
set_option maxRecDepth 100000 in
set_option maxHeartbeats 4000000 in
theorem cs_9 (C : Lc p s m c D ca b L xs) (hi : i + 4 ≤ L) (hIv : Iv D ca s qx qm H) (hl : lv_has ls 4 (lvL b qx qm i)) (hS : va_S (AL s) s.heap H locs) (hrm : cells + 1003 ≤ 600000 ∧ slots + 5014 ≤ 7302250) (hK : ∀ (H2 : Heap) (locs2 : List Loc), Iv D ca s qx qm H2 → va_S (AL s) s.heap H2 locs2 → W p l e room_1 s m #[Value.ref b] below meth c H2 locs2 (cells + 1003) (slots + 5014) Q (F0 m (792) ls ([]))) : W p l e room_1 s m #[Value.ref b] below meth c H locs cells slots Q (F0 m (368) ls ([])) := by
  have hx := C.1.1
  have hb := C.1.2.1
  refine lv_aload_n hx hb eL_368 rfl (lv_at hl 1 rfl) ?_
  refine ld_i (k := 1) C hl hS (by omega) eL_369 eL_370 eL_371 eL_372 eL_373 ?_
  refine ld_l (k := 2) (j := 3) C hl hS (by omega) (by omega) eL_374 eL_375 eL_376 eL_377 eL_378 eL_379 eL_380 eL_382 eL_383 eL_384 eL_385 eL_386 eL_387 eL_388 eL_389 eL_392 eL_393 co_L_13 ?_
  refine duo C (pc8 := 394) (pc9 := 423) (idx8 := 56) (idx9 := 59) (av := [.int (xs (i + 1)), .long (lgv (xs (i + 2)) (xs (i + 3)))]) (pr_feed (xs (i + 1)) (lgv (xs (i + 2)) (xs (i + 3)))) (fun r h => isI_cv h) hIv hl hS hrm (fun _ => rfl) rfl rfl rfl ⟨by decide, by decide⟩ cd_X8_feed in_X8 ml_L_56 im_X8_feed se_X8_feed hd_X8_feed eL_394 cd_X9_feed in_X9 ml_L_59 im_X9_feed se_X9_feed hd_X9_feed eL_423 rfl (fun H1 locs1 k1 k2 st hS1 hw => ?_) (fun r H2 locs2 hJ hI hS2 => ?_)
  · refine lv_aload_n hx hb eL_397 rfl (lv_at hl 2 rfl) ?_
    refine ld_i (k := 1) C hl hS1 (by omega) eL_398 eL_399 eL_400 eL_401 eL_402 ?_
    refine ld_l (k := 2) (j := 3) C hl hS1 (by omega) (by omega) eL_403 eL_404 eL_405 eL_406 eL_407 eL_408 eL_409 eL_411 eL_412 eL_413 eL_414 eL_415 eL_416 eL_417 eL_418 eL_421 eL_422 co_L_13 ?_
    exact hw
  · obtain ⟨x, rfl⟩ := hJ
    exact lv_icmp_eq (tgt := 792) hx hb eL_426 (by decide) (fun _ => hK H2 locs2 hI hS2) (fun h => absurd rfl h)
set_option maxRecDepth 100000 in
set_option maxHeartbeats 4000000 in
theorem cs_10 (C : Lc p s m c D ca b L xs) (hi : i + 4 ≤ L) (hIv : Iv D ca s qx qm H) (hl : lv_has ls 4 (lvL b qx qm i)) (hS : va_S (AL s) s.heap H locs) (hrm : cells + 1003 ≤ 600000 ∧ slots + 5014 ≤ 7302250) (hK : ∀ (H2 : Heap) (locs2 : List Loc), Iv D ca s qx qm H2 → va_S (AL s) s.heap H2 locs2 → W p l e room_1 s m #[Value.ref b] below meth c H2 locs2 (cells + 1003) (slots + 5014) Q (F0 m (792) ls ([]))) : W p l e room_1 s m #[Value.ref b] below meth c H locs cells slots Q (F0 m (431) ls ([])) := by
  have hx := C.1.1
  have hb := C.1.2.1
  refine lv_aload_n hx hb eL_431 rfl (lv_at hl 1 rfl) ?_
  refine ld_i (k := 1) C hl hS (by omega) eL_432 eL_433 eL_434 eL_435 eL_436 ?_
  refine duo C (pc8 := 437) (pc9 := 446) (idx8 := 60) (idx9 := 63) (av := [.int (xs (i + 1))]) (pr_cut (xs (i + 1))) (fun r h => isI_cv h) hIv hl hS hrm (fun _ => rfl) rfl rfl rfl ⟨by decide, by decide⟩ cd_X8_cut in_X8 ml_L_60 im_X8_cut se_X8_cut hd_X8_cut eL_437 cd_X9_cut in_X9 ml_L_63 im_X9_cut se_X9_cut hd_X9_cut eL_446 rfl (fun H1 locs1 k1 k2 st hS1 hw => ?_) (fun r H2 locs2 hJ hI hS2 => ?_)
  · refine lv_aload_n hx hb eL_440 rfl (lv_at hl 2 rfl) ?_
    refine ld_i (k := 1) C hl hS1 (by omega) eL_441 eL_442 eL_443 eL_444 eL_445 ?_
    exact hw
  · obtain ⟨x, rfl⟩ := hJ
    exact lv_icmp_eq (tgt := 792) hx hb eL_449 (by decide) (fun _ => hK H2 locs2 hI hS2) (fun h => absurd rfl h)
set_option maxRecDepth 100000 in
set_option maxHeartbeats 4000000 in
theorem cs_11 (C : Lc p s m c D ca b L xs) (hi : i + 4 ≤ L) (hIv : Iv D ca s qx qm H) (hl : lv_has ls 4 (lvL b qx qm i)) (hS : va_S (AL s) s.heap H locs) (hrm : cells + 1003 ≤ 600000 ∧ slots + 5014 ≤ 7302250) (hK : ∀ (H2 : Heap) (locs2 : List Loc), Iv D ca s qx qm H2 → va_S (AL s) s.heap H2 locs2 → W p l e room_1 s m #[Value.ref b] below meth c H2 locs2 (cells + 1003) (slots + 5014) Q (F0 m (792) ls ([]))) : W p l e room_1 s m #[Value.ref b] below meth c H locs cells slots Q (F0 m (454) ls ([])) := by
  have hx := C.1.1
  have hb := C.1.2.1
  refine lv_aload_n hx hb eL_454 rfl (lv_at hl 1 rfl) ?_
  refine ld_i (k := 1) C hl hS (by omega) eL_455 eL_456 eL_457 eL_458 eL_459 ?_
  refine ld_i (k := 2) C hl hS (by omega) eL_460 eL_461 eL_462 eL_463 eL_464 ?_
  refine duo C (pc8 := 465) (pc9 := 479) (idx8 := 64) (idx9 := 67) (av := [.int (xs (i + 1)), .int (xs (i + 2))]) (pr_spoil (xs (i + 1)) (xs (i + 2))) (fun r h => isI_cv h) hIv hl hS hrm (fun _ => rfl) rfl rfl rfl ⟨by decide, by decide⟩ cd_X8_spoil in_X8 ml_L_64 im_X8_spoil se_X8_spoil hd_X8_spoil eL_465 cd_X9_spoil in_X9 ml_L_67 im_X9_spoil se_X9_spoil hd_X9_spoil eL_479 rfl (fun H1 locs1 k1 k2 st hS1 hw => ?_) (fun r H2 locs2 hJ hI hS2 => ?_)
  · refine lv_aload_n hx hb eL_468 rfl (lv_at hl 2 rfl) ?_
    refine ld_i (k := 1) C hl hS1 (by omega) eL_469 eL_470 eL_471 eL_472 eL_473 ?_
    refine ld_i (k := 2) C hl hS1 (by omega) eL_474 eL_475 eL_476 eL_477 eL_478 ?_
    exact hw
  · obtain ⟨x, rfl⟩ := hJ
    exact lv_icmp_eq (tgt := 792) hx hb eL_482 (by decide) (fun _ => hK H2 locs2 hI hS2) (fun h => absurd rfl h)
set_option maxRecDepth 100000 in
set_option maxHeartbeats 4000000 in
theorem cs_12 (C : Lc p s m c D ca b L xs) (hi : i + 4 ≤ L) (hIv : Iv D ca s qx qm H) (hl : lv_has ls 4 (lvL b qx qm i)) (hS : va_S (AL s) s.heap H locs) (hrm : cells + 1003 ≤ 600000 ∧ slots + 5014 ≤ 7302250) (hK : ∀ (H2 : Heap) (locs2 : List Loc), Iv D ca s qx qm H2 → va_S (AL s) s.heap H2 locs2 → W p l e room_1 s m #[Value.ref b] below meth c H2 locs2 (cells + 1003) (slots + 5014) Q (F0 m (792) ls ([]))) : W p l e room_1 s m #[Value.ref b] below meth c H locs cells slots Q (F0 m (487) ls ([])) := by
  have hx := C.1.1
  have hb := C.1.2.1
  refine lv_aload_n hx hb eL_487 rfl (lv_at hl 1 rfl) ?_
  refine ld_l (k := 1) (j := 2) C hl hS (by omega) (by omega) eL_488 eL_489 eL_490 eL_491 eL_492 eL_493 eL_494 eL_496 eL_497 eL_498 eL_499 eL_500 eL_501 eL_502 eL_503 eL_506 eL_507 co_L_13 ?_
  refine duo C (pc8 := 508) (pc9 := 532) (idx8 := 68) (idx9 := 72) (av := [.long (lgv (xs (i + 1)) (xs (i + 2)))]) (pr_take (lgv (xs (i + 1)) (xs (i + 2)))) (fun r h => isI_cv h) hIv hl hS hrm (fun _ => rfl) rfl rfl rfl ⟨by decide, by decide⟩ cd_X8_take in_X8 ml_L_68 im_X8_take se_X8_take hd_X8_take eL_508 cd_X9_take in_X9 ml_L_72 im_X9_take se_X9_take hd_X9_take eL_532 rfl (fun H1 locs1 k1 k2 st hS1 hw => ?_) (fun r H2 locs2 hJ hI hS2 => ?_)
  · refine lv_aload_n hx hb eL_511 rfl (lv_at hl 2 rfl) ?_
    refine ld_l (k := 1) (j := 2) C hl hS1 (by omega) (by omega) eL_512 eL_513 eL_514 eL_515 eL_516 eL_517 eL_518 eL_520 eL_521 eL_522 eL_523 eL_524 eL_525 eL_526 eL_527 eL_530 eL_531 co_L_13 ?_
    exact hw
  · obtain ⟨x, rfl⟩ := hJ
    exact lv_icmp_eq (tgt := 792) hx hb eL_535 (by decide) (fun _ => hK H2 locs2 hI hS2) (fun h => absurd rfl h)
set_option maxRecDepth 100000 in
set_option maxHeartbeats 4000000 in
theorem cs_13 (C : Lc p s m c D ca b L xs) (hi : i + 4 ≤ L) (hIv : Iv D ca s qx qm H) (hl : lv_has ls 4 (lvL b qx qm i)) (hS : va_S (AL s) s.heap H locs) (hrm : cells + 1003 ≤ 600000 ∧ slots + 5014 ≤ 7302250) (hK : ∀ (H2 : Heap) (locs2 : List Loc), Iv D ca s qx qm H2 → va_S (AL s) s.heap H2 locs2 → W p l e room_1 s m #[Value.ref b] below meth c H2 locs2 (cells + 1003) (slots + 5014) Q (F0 m (792) ls ([]))) : W p l e room_1 s m #[Value.ref b] below meth c H locs cells slots Q (F0 m (540) ls ([])) := by
  have hx := C.1.1
  have hb := C.1.2.1
  refine lv_aload_n hx hb eL_540 rfl (lv_at hl 1 rfl) ?_
  refine duo C (pc8 := 541) (pc9 := 545) (idx8 := 73) (idx9 := 76) (av := []) (pr_place) (fun r h => isI_cv h) hIv hl hS hrm (fun _ => rfl) rfl rfl rfl ⟨by decide, by decide⟩ cd_X8_place in_X8 ml_L_73 im_X8_place se_X8_place hd_X8_place eL_541 cd_X9_place in_X9 ml_L_76 im_X9_place se_X9_place hd_X9_place eL_545 rfl (fun H1 locs1 k1 k2 st hS1 hw => ?_) (fun r H2 locs2 hJ hI hS2 => ?_)
  · refine lv_aload_n hx hb eL_544 rfl (lv_at hl 2 rfl) ?_
    exact hw
  · obtain ⟨x, rfl⟩ := hJ
    exact lv_icmp_eq (tgt := 792) hx hb eL_548 (by decide) (fun _ => hK H2 locs2 hI hS2) (fun h => absurd rfl h)
set_option maxRecDepth 100000 in
set_option maxHeartbeats 4000000 in
theorem cs_14 (C : Lc p s m c D ca b L xs) (hi : i + 4 ≤ L) (hIv : Iv D ca s qx qm H) (hl : lv_has ls 4 (lvL b qx qm i)) (hS : va_S (AL s) s.heap H locs) (hrm : cells + 1003 ≤ 600000 ∧ slots + 5014 ≤ 7302250) (hK : ∀ (H2 : Heap) (locs2 : List Loc), Iv D ca s qx qm H2 → va_S (AL s) s.heap H2 locs2 → W p l e room_1 s m #[Value.ref b] below meth c H2 locs2 (cells + 1003) (slots + 5014) Q (F0 m (792) ls ([]))) : W p l e room_1 s m #[Value.ref b] below meth c H locs cells slots Q (F0 m (553) ls ([])) := by
  have hx := C.1.1
  have hb := C.1.2.1
  refine lv_aload_n hx hb eL_553 rfl (lv_at hl 1 rfl) ?_
  refine ld_i (k := 1) C hl hS (by omega) eL_554 eL_555 eL_556 eL_557 eL_558 ?_
  refine duo C (pc8 := 559) (pc9 := 568) (idx8 := 77) (idx9 := 80) (av := [.int (xs (i + 1))]) (pr_get (xs (i + 1))) (fun r h => isI_cv h) hIv hl hS hrm (fun _ => rfl) rfl rfl rfl ⟨by decide, by decide⟩ cd_X8_get in_X8 ml_L_77 im_X8_get se_X8_get hd_X8_get eL_559 cd_X9_get in_X9 ml_L_80 im_X9_get se_X9_get hd_X9_get eL_568 rfl (fun H1 locs1 k1 k2 st hS1 hw => ?_) (fun r H2 locs2 hJ hI hS2 => ?_)
  · refine lv_aload_n hx hb eL_562 rfl (lv_at hl 2 rfl) ?_
    refine ld_i (k := 1) C hl hS1 (by omega) eL_563 eL_564 eL_565 eL_566 eL_567 ?_
    exact hw
  · obtain ⟨x, rfl⟩ := hJ
    exact lv_icmp_eq (tgt := 792) hx hb eL_571 (by decide) (fun _ => hK H2 locs2 hI hS2) (fun h => absurd rfl h)
set_option maxRecDepth 100000 in
set_option maxHeartbeats 4000000 in
theorem cs_15 (C : Lc p s m c D ca b L xs) (hi : i + 4 ≤ L) (hIv : Iv D ca s qx qm H) (hl : lv_has ls 4 (lvL b qx qm i)) (hS : va_S (AL s) s.heap H locs) (hrm : cells + 1003 ≤ 600000 ∧ slots + 5014 ≤ 7302250) (hK : ∀ (H2 : Heap) (locs2 : List Loc), Iv D ca s qx qm H2 → va_S (AL s) s.heap H2 locs2 → W p l e room_1 s m #[Value.ref b] below meth c H2 locs2 (cells + 1003) (slots + 5014) Q (F0 m (792) ls ([]))) : W p l e room_1 s m #[Value.ref b] below meth c H locs cells slots Q (F0 m (576) ls ([])) := by
  have hx := C.1.1
  have hb := C.1.2.1
  refine lv_aload_n hx hb eL_576 rfl (lv_at hl 1 rfl) ?_
  refine duo C (pc8 := 577) (pc9 := 581) (idx8 := 81) (idx9 := 85) (av := []) (pr_value) (fun r h => isJ_cv h) hIv hl hS hrm (fun _ => rfl) rfl rfl rfl ⟨by decide, by decide⟩ cd_X8_value in_X8 ml_L_81 im_X8_value se_X8_value hd_X8_value eL_577 cd_X9_value in_X9 ml_L_85 im_X9_value se_X9_value hd_X9_value eL_581 rfl (fun H1 locs1 k1 k2 st hS1 hw => ?_) (fun r H2 locs2 hJ hI hS2 => ?_)
  · refine lv_aload_n hx hb eL_580 rfl (lv_at hl 2 rfl) ?_
    exact hw
  · obtain ⟨x, rfl⟩ := hJ
    refine W.lcmp hx hb eL_584 ?_
    exact lv_if_eq (tgt := 792) hx hb eL_585 (by decide) (fun _ => hK H2 locs2 hI hS2) (fun h => absurd ((lg_cmp_eq _ _).mpr rfl) h)
set_option maxRecDepth 100000 in
set_option maxHeartbeats 4000000 in
theorem cs_16 (C : Lc p s m c D ca b L xs) (hi : i + 4 ≤ L) (hIv : Iv D ca s qx qm H) (hl : lv_has ls 4 (lvL b qx qm i)) (hS : va_S (AL s) s.heap H locs) (hrm : cells + 1003 ≤ 600000 ∧ slots + 5014 ≤ 7302250) (hK : ∀ (H2 : Heap) (locs2 : List Loc), Iv D ca s qx qm H2 → va_S (AL s) s.heap H2 locs2 → W p l e room_1 s m #[Value.ref b] below meth c H2 locs2 (cells + 1003) (slots + 5014) Q (F0 m (792) ls ([]))) : W p l e room_1 s m #[Value.ref b] below meth c H locs cells slots Q (F0 m (590) ls ([])) := by
  have hx := C.1.1
  have hb := C.1.2.1
  refine lv_aload_n hx hb eL_590 rfl (lv_at hl 1 rfl) ?_
  refine ld_i (k := 1) C hl hS (by omega) eL_591 eL_592 eL_593 eL_594 eL_595 ?_
  refine ld_l (k := 2) (j := 3) C hl hS (by omega) (by omega) eL_596 eL_597 eL_598 eL_599 eL_600 eL_601 eL_602 eL_604 eL_605 eL_606 eL_607 eL_608 eL_609 eL_610 eL_611 eL_614 eL_615 co_L_13 ?_
  refine duo C (pc8 := 616) (pc9 := 645) (idx8 := 86) (idx9 := 89) (av := [.int (xs (i + 1)), .long (lgv (xs (i + 2)) (xs (i + 3)))]) (pr_write (xs (i + 1)) (lgv (xs (i + 2)) (xs (i + 3)))) (fun r h => isI_cv h) hIv hl hS hrm (fun _ => rfl) rfl rfl rfl ⟨by decide, by decide⟩ cd_X8_write in_X8 ml_L_86 im_X8_write se_X8_write hd_X8_write eL_616 cd_X9_write in_X9 ml_L_89 im_X9_write se_X9_write hd_X9_write eL_645 rfl (fun H1 locs1 k1 k2 st hS1 hw => ?_) (fun r H2 locs2 hJ hI hS2 => ?_)
  · refine lv_aload_n hx hb eL_619 rfl (lv_at hl 2 rfl) ?_
    refine ld_i (k := 1) C hl hS1 (by omega) eL_620 eL_621 eL_622 eL_623 eL_624 ?_
    refine ld_l (k := 2) (j := 3) C hl hS1 (by omega) (by omega) eL_625 eL_626 eL_627 eL_628 eL_629 eL_630 eL_631 eL_633 eL_634 eL_635 eL_636 eL_637 eL_638 eL_639 eL_640 eL_643 eL_644 co_L_13 ?_
    exact hw
  · obtain ⟨x, rfl⟩ := hJ
    exact lv_icmp_eq (tgt := 792) hx hb eL_648 (by decide) (fun _ => hK H2 locs2 hI hS2) (fun h => absurd rfl h)
set_option maxRecDepth 100000 in
set_option maxHeartbeats 4000000 in
theorem cs_17 (C : Lc p s m c D ca b L xs) (hi : i + 4 ≤ L) (hIv : Iv D ca s qx qm H) (hl : lv_has ls 4 (lvL b qx qm i)) (hS : va_S (AL s) s.heap H locs) (hrm : cells + 1003 ≤ 600000 ∧ slots + 5014 ≤ 7302250) (hK : ∀ (H2 : Heap) (locs2 : List Loc), Iv D ca s qx qm H2 → va_S (AL s) s.heap H2 locs2 → W p l e room_1 s m #[Value.ref b] below meth c H2 locs2 (cells + 1003) (slots + 5014) Q (F0 m (792) ls ([]))) : W p l e room_1 s m #[Value.ref b] below meth c H locs cells slots Q (F0 m (653) ls ([])) := by
  have hx := C.1.1
  have hb := C.1.2.1
  refine lv_aload_n hx hb eL_653 rfl (lv_at hl 1 rfl) ?_
  refine ld_i (k := 1) C hl hS (by omega) eL_654 eL_655 eL_656 eL_657 eL_658 ?_
  refine duo C (pc8 := 659) (pc9 := 668) (idx8 := 90) (idx9 := 93) (av := [.int (xs (i + 1))]) (pr_erase (xs (i + 1))) (fun r h => isI_cv h) hIv hl hS hrm (fun _ => rfl) rfl rfl rfl ⟨by decide, by decide⟩ cd_X8_erase in_X8 ml_L_90 im_X8_erase se_X8_erase hd_X8_erase eL_659 cd_X9_erase in_X9 ml_L_93 im_X9_erase se_X9_erase hd_X9_erase eL_668 rfl (fun H1 locs1 k1 k2 st hS1 hw => ?_) (fun r H2 locs2 hJ hI hS2 => ?_)
  · refine lv_aload_n hx hb eL_662 rfl (lv_at hl 2 rfl) ?_
    refine ld_i (k := 1) C hl hS1 (by omega) eL_663 eL_664 eL_665 eL_666 eL_667 ?_
    exact hw
  · obtain ⟨x, rfl⟩ := hJ
    exact lv_icmp_eq (tgt := 792) hx hb eL_671 (by decide) (fun _ => hK H2 locs2 hI hS2) (fun h => absurd rfl h)
set_option maxRecDepth 100000 in
set_option maxHeartbeats 4000000 in
theorem cs_18 (C : Lc p s m c D ca b L xs) (hi : i + 4 ≤ L) (hIv : Iv D ca s qx qm H) (hl : lv_has ls 4 (lvL b qx qm i)) (hS : va_S (AL s) s.heap H locs) (hrm : cells + 1003 ≤ 600000 ∧ slots + 5014 ≤ 7302250) (hK : ∀ (H2 : Heap) (locs2 : List Loc), Iv D ca s qx qm H2 → va_S (AL s) s.heap H2 locs2 → W p l e room_1 s m #[Value.ref b] below meth c H2 locs2 (cells + 1003) (slots + 5014) Q (F0 m (792) ls ([]))) : W p l e room_1 s m #[Value.ref b] below meth c H locs cells slots Q (F0 m (676) ls ([])) := by
  have hx := C.1.1
  have hb := C.1.2.1
  refine lv_aload_n hx hb eL_676 rfl (lv_at hl 1 rfl) ?_
  refine duo C (pc8 := 677) (pc9 := 681) (idx8 := 94) (idx9 := 97) (av := []) (pr_view) (fun r h => isJ_cv h) hIv hl hS hrm (fun _ => rfl) rfl rfl rfl ⟨by decide, by decide⟩ cd_X8_view in_X8 ml_L_94 im_X8_view se_X8_view hd_X8_view eL_677 cd_X9_view in_X9 ml_L_97 im_X9_view se_X9_view hd_X9_view eL_681 rfl (fun H1 locs1 k1 k2 st hS1 hw => ?_) (fun r H2 locs2 hJ hI hS2 => ?_)
  · refine lv_aload_n hx hb eL_680 rfl (lv_at hl 2 rfl) ?_
    exact hw
  · obtain ⟨x, rfl⟩ := hJ
    refine W.lcmp hx hb eL_684 ?_
    exact lv_if_eq (tgt := 792) hx hb eL_685 (by decide) (fun _ => hK H2 locs2 hI hS2) (fun h => absurd ((lg_cmp_eq _ _).mpr rfl) h)
set_option maxRecDepth 100000 in
set_option maxHeartbeats 4000000 in
theorem cs_19 (C : Lc p s m c D ca b L xs) (hi : i + 4 ≤ L) (hIv : Iv D ca s qx qm H) (hl : lv_has ls 4 (lvL b qx qm i)) (hS : va_S (AL s) s.heap H locs) (hrm : cells + 1003 ≤ 600000 ∧ slots + 5014 ≤ 7302250) (hK : ∀ (H2 : Heap) (locs2 : List Loc), Iv D ca s qx qm H2 → va_S (AL s) s.heap H2 locs2 → W p l e room_1 s m #[Value.ref b] below meth c H2 locs2 (cells + 1003) (slots + 5014) Q (F0 m (792) ls ([]))) : W p l e room_1 s m #[Value.ref b] below meth c H locs cells slots Q (F0 m (690) ls ([])) := by
  have hx := C.1.1
  have hb := C.1.2.1
  refine lv_aload_n hx hb eL_690 rfl (lv_at hl 1 rfl) ?_
  refine ld_i (k := 1) C hl hS (by omega) eL_691 eL_692 eL_693 eL_694 eL_695 ?_
  refine ld_i (k := 2) C hl hS (by omega) eL_696 eL_697 eL_698 eL_699 eL_700 ?_
  refine duo C (pc8 := 701) (pc9 := 715) (idx8 := 98) (idx9 := 101) (av := [.int (xs (i + 1)), .int (xs (i + 2))]) (pr_count (xs (i + 1)) (xs (i + 2))) (fun r h => isI_cv h) hIv hl hS hrm (fun _ => rfl) rfl rfl rfl ⟨by decide, by decide⟩ cd_X8_count in_X8 ml_L_98 im_X8_count se_X8_count hd_X8_count eL_701 cd_X9_count in_X9 ml_L_101 im_X9_count se_X9_count hd_X9_count eL_715 rfl (fun H1 locs1 k1 k2 st hS1 hw => ?_) (fun r H2 locs2 hJ hI hS2 => ?_)
  · refine lv_aload_n hx hb eL_704 rfl (lv_at hl 2 rfl) ?_
    refine ld_i (k := 1) C hl hS1 (by omega) eL_705 eL_706 eL_707 eL_708 eL_709 ?_
    refine ld_i (k := 2) C hl hS1 (by omega) eL_710 eL_711 eL_712 eL_713 eL_714 ?_
    exact hw
  · obtain ⟨x, rfl⟩ := hJ
    exact lv_icmp_eq (tgt := 792) hx hb eL_718 (by decide) (fun _ => hK H2 locs2 hI hS2) (fun h => absurd rfl h)
set_option maxRecDepth 100000 in
set_option maxHeartbeats 4000000 in
theorem cs_20 (C : Lc p s m c D ca b L xs) (hi : i + 4 ≤ L) (hIv : Iv D ca s qx qm H) (hl : lv_has ls 4 (lvL b qx qm i)) (hS : va_S (AL s) s.heap H locs) (hrm : cells + 1003 ≤ 600000 ∧ slots + 5014 ≤ 7302250) (hK : ∀ (H2 : Heap) (locs2 : List Loc), Iv D ca s qx qm H2 → va_S (AL s) s.heap H2 locs2 → W p l e room_1 s m #[Value.ref b] below meth c H2 locs2 (cells + 1003) (slots + 5014) Q (F0 m (792) ls ([]))) : W p l e room_1 s m #[Value.ref b] below meth c H locs cells slots Q (F0 m (723) ls ([])) := by
  have hx := C.1.1
  have hb := C.1.2.1
  refine lv_aload_n hx hb eL_723 rfl (lv_at hl 1 rfl) ?_
  refine ld_i (k := 1) C hl hS (by omega) eL_724 eL_725 eL_726 eL_727 eL_728 ?_
  refine duo C (pc8 := 729) (pc9 := 738) (idx8 := 102) (idx9 := 105) (av := [.int (xs (i + 1))]) (pr_next (xs (i + 1))) (fun r h => isI_cv h) hIv hl hS hrm (fun _ => rfl) rfl rfl rfl ⟨by decide, by decide⟩ cd_X8_next in_X8 ml_L_102 im_X8_next se_X8_next hd_X8_next eL_729 cd_X9_next in_X9 ml_L_105 im_X9_next se_X9_next hd_X9_next eL_738 rfl (fun H1 locs1 k1 k2 st hS1 hw => ?_) (fun r H2 locs2 hJ hI hS2 => ?_)
  · refine lv_aload_n hx hb eL_732 rfl (lv_at hl 2 rfl) ?_
    refine ld_i (k := 1) C hl hS1 (by omega) eL_733 eL_734 eL_735 eL_736 eL_737 ?_
    exact hw
  · obtain ⟨x, rfl⟩ := hJ
    exact lv_icmp_eq (tgt := 792) hx hb eL_741 (by decide) (fun _ => hK H2 locs2 hI hS2) (fun h => absurd rfl h)
set_option maxRecDepth 100000 in
set_option maxHeartbeats 4000000 in
theorem cs_21 (C : Lc p s m c D ca b L xs) (hi : i + 4 ≤ L) (hIv : Iv D ca s qx qm H) (hl : lv_has ls 4 (lvL b qx qm i)) (hS : va_S (AL s) s.heap H locs) (hrm : cells + 1003 ≤ 600000 ∧ slots + 5014 ≤ 7302250) (hK : ∀ (H2 : Heap) (locs2 : List Loc), Iv D ca s qx qm H2 → va_S (AL s) s.heap H2 locs2 → W p l e room_1 s m #[Value.ref b] below meth c H2 locs2 (cells + 1003) (slots + 5014) Q (F0 m (792) ls ([]))) : W p l e room_1 s m #[Value.ref b] below meth c H locs cells slots Q (F0 m (746) ls ([])) := by
  have hx := C.1.1
  have hb := C.1.2.1
  refine lv_aload_n hx hb eL_746 rfl (lv_at hl 1 rfl) ?_
  refine ld_i (k := 1) C hl hS (by omega) eL_747 eL_748 eL_749 eL_750 eL_751 ?_
  refine duo C (pc8 := 752) (pc9 := 761) (idx8 := 106) (idx9 := 109) (av := [.int (xs (i + 1))]) (pr_told (xs (i + 1))) (fun r h => isI_cv h) hIv hl hS hrm (fun _ => rfl) rfl rfl rfl ⟨by decide, by decide⟩ cd_X8_told in_X8 ml_L_106 im_X8_told se_X8_told hd_X8_told eL_752 cd_X9_told in_X9 ml_L_109 im_X9_told se_X9_told hd_X9_told eL_761 rfl (fun H1 locs1 k1 k2 st hS1 hw => ?_) (fun r H2 locs2 hJ hI hS2 => ?_)
  · refine lv_aload_n hx hb eL_755 rfl (lv_at hl 2 rfl) ?_
    refine ld_i (k := 1) C hl hS1 (by omega) eL_756 eL_757 eL_758 eL_759 eL_760 ?_
    exact hw
  · obtain ⟨x, rfl⟩ := hJ
    exact lv_icmp_eq (tgt := 792) hx hb eL_764 (by decide) (fun _ => hK H2 locs2 hI hS2) (fun h => absurd rfl h)
set_option maxRecDepth 100000 in
set_option maxHeartbeats 4000000 in
theorem cs_22 (C : Lc p s m c D ca b L xs) (hi : i + 4 ≤ L) (hIv : Iv D ca s qx qm H) (hl : lv_has ls 4 (lvL b qx qm i)) (hS : va_S (AL s) s.heap H locs) (hrm : cells + 1003 ≤ 600000 ∧ slots + 5014 ≤ 7302250) (hK : ∀ (H2 : Heap) (locs2 : List Loc), Iv D ca s qx qm H2 → va_S (AL s) s.heap H2 locs2 → W p l e room_1 s m #[Value.ref b] below meth c H2 locs2 (cells + 1003) (slots + 5014) Q (F0 m (792) ls ([]))) : W p l e room_1 s m #[Value.ref b] below meth c H locs cells slots Q (F0 m (769) ls ([])) := by
  have hx := C.1.1
  have hb := C.1.2.1
  refine lv_aload_n hx hb eL_769 rfl (lv_at hl 1 rfl) ?_
  refine ld_i (k := 1) C hl hS (by omega) eL_770 eL_771 eL_772 eL_773 eL_774 ?_
  refine duo C (pc8 := 775) (pc9 := 784) (idx8 := 110) (idx9 := 113) (av := [.int (xs (i + 1))]) (pr_octet (xs (i + 1))) (fun r h => isI_cv h) hIv hl hS hrm (fun _ => rfl) rfl rfl rfl ⟨by decide, by decide⟩ cd_X8_octet in_X8 ml_L_110 im_X8_octet se_X8_octet hd_X8_octet eL_775 cd_X9_octet in_X9 ml_L_113 im_X9_octet se_X9_octet hd_X9_octet eL_784 rfl (fun H1 locs1 k1 k2 st hS1 hw => ?_) (fun r H2 locs2 hJ hI hS2 => ?_)
  · refine lv_aload_n hx hb eL_778 rfl (lv_at hl 2 rfl) ?_
    refine ld_i (k := 1) C hl hS1 (by omega) eL_779 eL_780 eL_781 eL_782 eL_783 ?_
    exact hw
  · obtain ⟨x, rfl⟩ := hJ
    exact lv_icmp_eq (tgt := 792) hx hb eL_787 (by decide) (fun _ => hK H2 locs2 hI hS2) (fun h => absurd rfl h)
end
