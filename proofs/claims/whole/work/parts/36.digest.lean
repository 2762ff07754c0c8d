/-! the model's digest: a stack of what waits -/
theorem fb_uniq {P Q B : Nat} (hP : P < 65536) (hQ : Q < 65536) (hB : B ≤ 15) (h1 : P / 2 ^ (16 - B) = Q / 2 ^ (16 - B)) (h2 : P / 2 ^ (15 - B) ≠ Q / 2 ^ (15 - B)) : fbit P Q = B := by
  have hne : P ≠ Q := fun e => h2 (by rw [e])
  obtain ⟨a1, a2, a3⟩ := fbit_spec hP hQ hne
  rcases Nat.lt_trichotomy (fbit P Q) B with h | h | h
  · exact absurd (dv_up (show 16 - B ≤ 15 - fbit P Q by omega) h1) a3
  · exact h
  · exact absurd (dv_up (show 16 - fbit P Q ≤ 15 - B by omega) a2) h2
def lastOf : Term → Nat
  | .add (.arg _) (.elem (.arg P) (.long _)) => P
  | .add (.arg _) (.sub (.elem (.arg _) (.arg _)) (.mul _ y)) => lastOf y
  | _ => 0
def firstOf : Term → Nat
  | .add (.arg _) (.elem (.arg P) (.long _)) => P
  | .add (.arg _) (.sub (.elem (.arg _) (.arg _)) (.mul x _)) => firstOf x
  | _ => 0
theorem last_lvs (T : Term) (hT : isT T) : fll T → ∃ A v, lvs T = A ++ [(lastOf T, v)] := by
  refine tr_ind (P := fun T => fll T → ∃ A v, lvs T = A ++ [(lastOf T, v)]) ?_ ?_ ?_ ?_ T hT
  · exact fun q h => h.elim
  · exact fun q d h => h.elim
  · exact fun q p v _ => ⟨[], v, rfl⟩
  · intro q B S x y _ _ _ i2 h
    obtain ⟨A, v, e⟩ := i2 h.2
    exact ⟨lvs x ++ A, v, by simp only [lvs, lastOf]; rw [e, List.append_assoc]⟩
theorem first_lvs (T : Term) (hT : isT T) : fll T → ∃ A v, lvs T = (firstOf T, v) :: A := by
  refine tr_ind (P := fun T => fll T → ∃ A v, lvs T = (firstOf T, v) :: A) ?_ ?_ ?_ ?_ T hT
  · exact fun q h => h.elim
  · exact fun q d h => h.elim
  · exact fun q p v _ => ⟨[], v, rfl⟩
  · intro q B S x y _ _ i1 _ h
    obtain ⟨A, v, e⟩ := i1 h.1
    exact ⟨A ++ lvs y, v, by simp only [lvs, firstOf]; rw [e, List.cons_append]⟩
theorem last_pl {T : Term} (hT : isT T) (hf : fll T) {F k : Nat} (h : okT T F k) : lastOf T / 2 ^ k = F := by
  obtain ⟨A, v, e⟩ := last_lvs T hT hf
  exact lvs_pl T hT F k h (lastOf T, v) (by rw [e]; simp)
theorem first_pl {T : Term} (hT : isT T) (hf : fll T) {F k : Nat} (h : okT T F k) : firstOf T / 2 ^ k = F := by
  obtain ⟨A, v, e⟩ := first_lvs T hT hf
  exact lvs_pl T hT F k h (firstOf T, v) (by rw [e]; simp)
/-- the bit between a path and what comes behind it -/
def bdy (u : Nat) : List (Nat × Int64) → Int32
  | [] => -1
  | w :: _ => nI (fbit u w.1)
def agR (n : Nat) (wd wd2 : Nat → Int64) (wb wb2 wp wp2 : Nat → Int32) : Prop := ∀ j, j < n → wd2 j = wd j ∧ wb2 j = wb j ∧ wp2 j = wp j
theorem nI_gm1 {n : Nat} (h : n < 2 ^ 31) : ¬ nI n ≤ -1 := fun e => by
  rw [Int32.le_iff_toInt_le, nI_toInt h, show (-1 : Int32).toInt = -1 from rfl] at e
  omega
section
variable {p : Program} {l : Launch} {e : Env} {R : Room} {s : State} {m : MethodId} {args : Array Value} {below : List Frame} {meth : Method} {c : Code} {cells slots : Nat} {QQ : State → Prop} {D : va_G} {ca : Nat → ClassId} {ad : Nat → Nat} {A : Nat → Prop} {N : Heap → Prop} {pa : Nat → Int32} {va : Nat → Int64} {sz : Nat → Int32} {fr : Nat → Int32} {tw : Nat → Int32} {ta : Nat → Int32} {wd : Nat → Int64} {wb : Nat → Int32} {wp : Nat → Int32} {ou : Nat → Int32} {o1 : Nat → Int32} {o2 : Nat → Int32} {pf : Nat → Int32} {pt : Nat → Int32} {ki : Nat → Int32} {bi : Nat → Int32} {ste : Nat → Int32} {hel : Nat → Int64} {low : Nat → Int32} {hgh : Nat → Int32} {su : Nat → Int64} {ro : Nat → Int32} {fe : Nat → Int32} {vs : Int32} {wn : Int32} {tp : Int32} {dp : Int32} {la : Int32} {rst : Int32} {hlf : Int32} {nd : Int32} {rt : Int32} {frd : Int32} {fa : Int32} {at_ : Int32} {end_ : Int32} {ab : Int32} {fo : Int64} {co : Int32} {ll : Int32} {lh : Int32} {hm : Int32}
set_option maxRecDepth 100000 in
set_option maxHeartbeats 4000000 in
theorem dg_leaf (C : Cx p s m args c cX9_digest 9 RX9 D ca ad A N 24) (hAD : AD ad 24) (hN : NS D N) (hR : 2 ≤ R.frames ∧ 80 ≤ R.locals ∧ cells ≤ R.cells ∧ slots ≤ R.slots) {a b n : Nat} (hb : b ≤ 2700) {xs pre suf : List (Nat × Int64)} {P : Nat} {v : Int64} (hxs : lsR pa va a xs) (hbx : b = a + xs.length) (hpt : ∀ q ∈ xs, q.1 < 65536) (hsrt : srt xs) (he : xs = pre ++ (P, v) :: suf) {top : Int64} {dpv bt : Int32} (hK : Wa p l e R s m args below meth c cells slots QQ D ca ad A 9 N ([(0, .ref 0), (1, .int (nI a)), (2, .int (nI b)), (3, .int (nI n)), (4, .long (leafF P v)), (6, .int 0), (7, .int (nI (a + pre.length + 1))), (8, .int (bdy P suf))], [], (mW pa va sz fr tw ta wd wb wp ou o1 o2 pf pt ki bi ste hel low hgh su ro fe vs wn tp dp la rst hlf nd rt frd fa at_ end_ ab fo co ll lh hm)) 77) : Wa p l e R s m args below meth c cells slots QQ D ca ad A 9 N ([(0, .ref 0), (1, .int (nI a)), (2, .int (nI b)), (3, .int (nI n)), (4, .long (top)), (6, .int dpv), (7, .int (nI (a + pre.length))), (8, .int bt)], [], (mW pa va sz fr tw ta wd wb wp ou o1 o2 pf pt ki bi ste hel low hgh su ro fe vs wn tp dp la rst hlf nd rt frd fa at_ end_ ab fo co ll lh hm)) 208 := by
  obtain ⟨hR1, hR2, hR3, hR4⟩ := hR
  have hl : pre.length < xs.length := by rw [he]; simp
  have hat : xs[pre.length]? = some (P, v) := by rw [he]; simp
  obtain ⟨hr1, hr2⟩ := hxs pre.length (P, v) hat
  have hP : P < 65536 := hpt (P, v) (List.mem_of_getElem? hat)
  have hcl : (nI (a + pre.length)).toNatClampNeg = a + pre.length := nI_clamp (by omega)
  have hcl2 : (nI (a + pre.length + 1)).toNatClampNeg = a + pre.length + 1 := nI_clamp (by omega)
  have hp1 : nI (a + pre.length + 1) - 1 = nI (a + pre.length) := by rw [show (1 : Int32) = nI 1 from rfl, pk_sub (by omega)]; rfl
  cases suf with
  | nil =>
    have hlast : xs.length = pre.length + 1 := by rw [he]; simp
    refine sg0 C foX9 coX9 oX9_digest_208 rfl rfl rfl ?_
    refine b2_ge (tgt := 236) C jX9_digest_211 (by decide) (fun h211 => ?_) (fun h211 => ?_)
    · exact absurd h211 (nI_ge (by omega) (by omega))
    · refine sg C foX9 coX9 oX9_digest_214 rfl rfl rfl ⟨vp_in_nI (by omega) (by decide), vp_in_nI (by omega) (by decide), trivial⟩ ?_
      rw [hcl, show pa (a + pre.length) = nI P from hr1, show va (a + pre.length) = v from hr2]
      refine cl_s C (kX9_leafDigest hAD rfl hN P v) cd_X9_leafDigest in_X9 ml_X9_125 sm_X9_leafDigest hd_X9_leafDigest rfl rfl ⟨by show 1 + 1 ≤ R.frames; omega, by show 8 + (3 + 11) + 40 * 1 ≤ R.locals; omega⟩ ⟨by show cells + 0 ≤ R.cells; omega, by show slots + 0 ≤ R.slots; omega⟩ (Nat.le_of_ble_eq_true rfl) jX9_digest_228 (fun v ws' => Wa.and (fun hv => ?_))
      obtain ⟨rfl, rfl⟩ := hv
      refine sg0 C foX9 coX9 oX9_digest_231 rfl rfl rfl ?_
      refine sg0 C foX9 coX9 oX9_digest_236 rfl rfl rfl ?_
      refine sg0 C foX9 coX9 oX9_digest_29 rfl rfl rfl ?_
      rw [nI_1]
      refine b2_gt (tgt := 242) C jX9_digest_32 (by decide) (fun h32 => ?_) (fun h32 => ?_)
      · exact absurd h32 (Int32.not_lt.mpr (nI_le (by omega) (by omega)))
      · refine sg0 C foX9 coX9 oX9_digest_35 rfl rfl rfl ?_
        refine b2_ne (tgt := 45) C jX9_digest_38 (by decide) (fun h38 => ?_) (fun h38 => ?_)
        · exact absurd (by rw [show a + pre.length + 1 = b by omega]) h38
        · refine sg0 C foX9 coX9 oX9_digest_41 rfl rfl rfl ?_
          refine sg0 C foX9 coX9 oX9_digest_75 rfl rfl rfl ?_
          exact hK
  | cons w suf =>
    have hl2 : pre.length + 1 < xs.length := by rw [he]; simp
    have hat2 : xs[pre.length + 1]? = some w := by rw [he]; simp
    obtain ⟨hs1, hs2⟩ := hxs (pre.length + 1) w hat2
    have hw : w.1 < 65536 := hpt w (List.mem_of_getElem? hat2)
    have hne : P ≠ w.1 := by
      rw [he] at hsrt
      have := (List.pairwise_cons.mp (List.pairwise_append.mp hsrt).2.1).1 w List.mem_cons_self
      exact Nat.ne_of_lt this
    refine sg0 C foX9 coX9 oX9_digest_208 rfl rfl rfl ?_
    refine b2_ge (tgt := 236) C jX9_digest_211 (by decide) (fun h211 => ?_) (fun h211 => ?_)
    · exact absurd h211 (nI_ge (by omega) (by omega))
    · refine sg C foX9 coX9 oX9_digest_214 rfl rfl rfl ⟨vp_in_nI (by omega) (by decide), vp_in_nI (by omega) (by decide), trivial⟩ ?_
      rw [hcl, show pa (a + pre.length) = nI P from hr1, show va (a + pre.length) = v from hr2]
      refine cl_s C (kX9_leafDigest hAD rfl hN P v) cd_X9_leafDigest in_X9 ml_X9_125 sm_X9_leafDigest hd_X9_leafDigest rfl rfl ⟨by show 1 + 1 ≤ R.frames; omega, by show 8 + (3 + 11) + 40 * 1 ≤ R.locals; omega⟩ ⟨by show cells + 0 ≤ R.cells; omega, by show slots + 0 ≤ R.slots; omega⟩ (Nat.le_of_ble_eq_true rfl) jX9_digest_228 (fun v ws' => Wa.and (fun hv => ?_))
      obtain ⟨rfl, rfl⟩ := hv
      refine sg0 C foX9 coX9 oX9_digest_231 rfl rfl rfl ?_
      refine sg0 C foX9 coX9 oX9_digest_236 rfl rfl rfl ?_
      refine sg0 C foX9 coX9 oX9_digest_29 rfl rfl rfl ?_
      rw [nI_1]
      refine b2_gt (tgt := 242) C jX9_digest_32 (by decide) (fun h32 => ?_) (fun h32 => ?_)
      · exact absurd h32 (Int32.not_lt.mpr (nI_le (by omega) (by omega)))
      · refine sg0 C foX9 coX9 oX9_digest_35 rfl rfl rfl ?_
        refine b2_ne (tgt := 45) C jX9_digest_38 (by decide) (fun h38 => ?_) (fun h38 => ?_)
        · refine sg0 C foX9 coX9 oX9_digest_45 rfl rfl rfl ?_
          refine b2_ne (tgt := 56) C jX9_digest_48 (by decide) (fun h48 => ?_) (fun h48 => ?_)
          · refine sg C foX9 coX9 oX9_digest_56 rfl rfl rfl (by rw [hp1]; exact ⟨vp_in_nI (by omega) (by decide), vp_in_nI (by omega) (by decide), trivial⟩) ?_
            rw [hp1, hcl, hcl2, show pa (a + pre.length) = nI P from hr1, show pa (a + pre.length + 1) = nI w.1 from hs1]
            refine cl_s C (kX9_firstBit hAD hN rfl hP hw hne) cd_X9_firstBit in_X9 ml_X9_114 sm_X9_firstBit hd_X9_firstBit rfl rfl ⟨by show 0 + 1 ≤ R.frames; omega, by show 8 + (3 + 11) + 40 * 0 ≤ R.locals; omega⟩ ⟨by show cells + 0 ≤ R.cells; omega, by show slots + 0 ≤ R.slots; omega⟩ (Nat.le_of_ble_eq_true rfl) jX9_digest_72 (fun v ws' => Wa.and (fun hv => ?_))
            obtain ⟨rfl, rfl⟩ := hv
            refine sg0 C foX9 coX9 oX9_digest_75 rfl rfl rfl ?_
            exact hK
          · exact absurd ((nI_eq (by omega) (by omega)).mp h48) (by omega)
        · exact absurd ((nI_eq (by omega) (by omega)).mp h38) (by omega)
set_option maxRecDepth 100000 in
set_option maxHeartbeats 4000000 in
theorem dg_push (C : Cx p s m args c cX9_digest 9 RX9 D ca ad A N 24) (hAD : AD ad 24) (hN : NS D N) (hR : 2 ≤ R.frames ∧ 80 ≤ R.locals ∧ cells ≤ R.cells ∧ slots ≤ R.slots) {a b n : Nat} (hb : b ≤ 2700) {B i : Nat} (hB : B ≤ 15) (hn : n ≤ 300) (hst : ∀ j, n = j + 1 → ∃ c, wb j = nI c ∧ c ≤ B) (hi1 : a < i) (hi2 : i < b) {top : Int64} {dpv : Int32} (hK : Wa p l e R s m args below meth c cells slots QQ D ca ad A 9 N ([(0, .ref 0), (1, .int (nI a)), (2, .int (nI b)), (3, .int (nI (n + 1))), (4, .long (top)), (6, .int dpv), (7, .int (nI (i))), (8, .int (nI B))], [], (mW pa va sz fr tw ta (vp_updL wd n top) (upd wb n (nI B)) (upd wp n dpv) ou o1 o2 pf pt ki bi ste hel low hgh su ro fe vs wn tp dp la rst hlf nd rt frd fa at_ end_ ab fo co ll lh hm)) 208) : Wa p l e R s m args below meth c cells slots QQ D ca ad A 9 N ([(0, .ref 0), (1, .int (nI a)), (2, .int (nI b)), (3, .int (nI n)), (4, .long (top)), (6, .int dpv), (7, .int (nI (i))), (8, .int (nI B))], [], (mW pa va sz fr tw ta wd wb wp ou o1 o2 pf pt ki bi ste hel low hgh su ro fe vs wn tp dp la rst hlf nd rt frd fa at_ end_ ab fo co ll lh hm)) 77 := by
  have hcl : (nI n).toNatClampNeg = n := nI_clamp (by omega)
  cases n with
  | zero =>
    refine sg0 C foX9 coX9 oX9_digest_77 rfl rfl rfl ?_
    refine b2_le (tgt := 169) C jX9_digest_80 (by decide) (fun h80 => ?_) (fun h80 => ?_)
    · exact absurd h80 (Int32.not_le.mpr (nI_lt (by omega) (by omega)))
    · refine sg0 C foX9 coX9 oX9_digest_83 rfl rfl rfl ?_
      refine b1_le (tgt := 169) C jX9_digest_84 (by decide) (fun h84 => ?_) (fun h84 => ?_)
      · refine sg0 C foX9 coX9 oX9_digest_169 rfl rfl rfl ?_
        refine b2_le (tgt := 208) C jX9_digest_172 (by decide) (fun h172 => ?_) (fun h172 => ?_)
        · exact absurd h172 (Int32.not_le.mpr (nI_lt (by omega) (by omega)))
        · refine sg0 C foX9 coX9 oX9_digest_175 rfl rfl rfl ?_
          refine b2_ge (tgt := 208) C jX9_digest_178 (by decide) (fun h178 => ?_) (fun h178 => ?_)
          · exact absurd h178 (nI_ge (by omega) (by omega))
          · refine sg C foX9 coX9 oX9_digest_181 rfl rfl rfl ⟨vp_in_nI (by omega) (by decide), vp_in_nI (by omega) (by decide), vp_in_nI (by omega) (by decide), trivial⟩ ?_
            rw [nI_1, hcl]
            exact hK
      · exact absurd (by decide) h84
  | succ n =>
    obtain ⟨c0, hc, hcB⟩ := hst n rfl
    have hcl0 : (nI n).toNatClampNeg = n := nI_clamp (by omega)
    have hp1 : nI (n + 1) - 1 = nI n := by rw [show (1 : Int32) = nI 1 from rfl, pk_sub (by omega)]; rfl
    refine sg0 C foX9 coX9 oX9_digest_77 rfl rfl rfl ?_
    refine b2_le (tgt := 169) C jX9_digest_80 (by decide) (fun h80 => ?_) (fun h80 => ?_)
    · exact absurd h80 (Int32.not_le.mpr (nI_lt (by omega) (by omega)))
    · refine sg0 C foX9 coX9 oX9_digest_83 rfl rfl rfl ?_
      refine b1_le (tgt := 169) C jX9_digest_84 (by decide) (fun h84 => ?_) (fun h84 => ?_)
      · exact absurd h84 (Int32.not_le.mpr (show nI 0 < nI (n + 1) from nI_lt (by omega) (by omega)))
      · refine sg C foX9 coX9 oX9_digest_87 rfl rfl rfl (by rw [hp1]; exact ⟨vp_in_nI (by omega) (by decide), trivial⟩) ?_
        rw [hp1, hcl0, hc]
        refine b2_le (tgt := 169) C jX9_digest_97 (by decide) (fun h97 => ?_) (fun h97 => ?_)
        · refine sg0 C foX9 coX9 oX9_digest_169 rfl rfl rfl ?_
          refine b2_le (tgt := 208) C jX9_digest_172 (by decide) (fun h172 => ?_) (fun h172 => ?_)
          · exact absurd h172 (Int32.not_le.mpr (nI_lt (by omega) (by omega)))
          · refine sg0 C foX9 coX9 oX9_digest_175 rfl rfl rfl ?_
            refine b2_ge (tgt := 208) C jX9_digest_178 (by decide) (fun h178 => ?_) (fun h178 => ?_)
            · exact absurd h178 (nI_ge (by omega) (by omega))
            · refine sg C foX9 coX9 oX9_digest_181 rfl rfl rfl ⟨vp_in_nI (by omega) (by decide), vp_in_nI (by omega) (by decide), vp_in_nI (by omega) (by decide), trivial⟩ ?_
              rw [nI_1, hcl]
              exact hK
        · exact absurd (nI_le (by omega) (by omega)) h97
set_option maxRecDepth 100000 in
set_option maxHeartbeats 4000000 in
theorem dg_pop (C : Cx p s m args c cX9_digest 9 RX9 D ca ad A N 24) (hAD : AD ad 24) (hN : NS D N) (hR : 2 ≤ R.frames ∧ 80 ≤ R.locals ∧ cells ≤ R.cells ∧ slots ≤ R.slots) {a b n : Nat} (hb : b ≤ 2700) {B S Q i d1 d2 : Nat} (hB : B ≤ 15) (hn : n < 300) {bt : Int32} {dl top : Int64} (hwb : wb n = nI B) (hwd : wd n = dl) (hwp : wp n = nI d1) (hd1 : d1 ≤ 1000) (hd2 : d2 ≤ 1000) (hbt : ¬ nI B ≤ bt) (hpa : pa (i - 1) = nI Q) (hQ : Q < 65536) (hstm : stm Q B = S) (hi1 : a < i) (hi2 : i ≤ b) (hK : Wa p l e R s m args below meth c cells slots QQ D ca ad A 9 N ([(0, .ref 0), (1, .int (nI a)), (2, .int (nI b)), (3, .int (nI n)), (4, .long (forkF B S dl top)), (6, .int (nI (1 + max d1 d2))), (7, .int (nI (i))), (8, .int bt)], [], (mW pa va sz fr tw ta wd wb wp ou o1 o2 pf pt ki bi ste hel low hgh su ro fe vs wn tp dp la rst hlf nd rt frd fa at_ end_ ab fo co ll lh hm)) 77) : Wa p l e R s m args below meth c cells slots QQ D ca ad A 9 N ([(0, .ref 0), (1, .int (nI a)), (2, .int (nI b)), (3, .int (nI (n + 1))), (4, .long (top)), (6, .int (nI d2)), (7, .int (nI (i))), (8, .int bt)], [], (mW pa va sz fr tw ta wd wb wp ou o1 o2 pf pt ki bi ste hel low hgh su ro fe vs wn tp dp la rst hlf nd rt frd fa at_ end_ ab fo co ll lh hm)) 77 := by
  obtain ⟨hR1, hR2, hR3, hR4⟩ := hR
  have hcl : (nI n).toNatClampNeg = n := nI_clamp (by omega)
  have hci : (nI (i - 1)).toNatClampNeg = i - 1 := nI_clamp (by omega)
  have hp1 : nI (n + 1) - 1 = nI n := by rw [show (1 : Int32) = nI 1 from rfl, pk_sub (by omega)]; rfl
  have hpi : nI i - 1 = nI (i - 1) := by rw [show (1 : Int32) = nI 1 from rfl, pk_sub (by omega)]
  refine sg0 C foX9 coX9 oX9_digest_77 rfl rfl rfl ?_
  refine b2_le (tgt := 169) C jX9_digest_80 (by decide) (fun h80 => ?_) (fun h80 => ?_)
  · exact absurd h80 (Int32.not_le.mpr (nI_lt (by omega) (by omega)))
  · refine sg0 C foX9 coX9 oX9_digest_83 rfl rfl rfl ?_
    refine b1_le (tgt := 169) C jX9_digest_84 (by decide) (fun h84 => ?_) (fun h84 => ?_)
    · exact absurd h84 (Int32.not_le.mpr (show nI 0 < nI (n + 1) from nI_lt (by omega) (by omega)))
    · refine sg C foX9 coX9 oX9_digest_87 rfl rfl rfl (by rw [hp1]; exact ⟨vp_in_nI (by omega) (by decide), trivial⟩) ?_
      rw [hp1, hcl, hwb]
      refine b2_le (tgt := 169) C jX9_digest_97 (by decide) (fun h97 => ?_) (fun h97 => ?_)
      · exact absurd h97 hbt
      · refine sg C foX9 coX9 oX9_digest_100 rfl rfl rfl (by rw [sub_m1, hp1, hpi]; exact ⟨vp_in_nI (by omega) (by decide), vp_in_nI (by omega) (by decide), vp_in_nI (by omega) (by decide), trivial⟩) ?_
        rw [sub_m1, hp1, hpi, hcl, hci, hwb, hpa]
        refine cl_s C (kX9_stemOf hAD rfl hN hQ (show B ≤ 16 by omega)) cd_X9_stemOf in_X9 ml_X9_118 sm_X9_stemOf hd_X9_stemOf rfl rfl ⟨by show 0 + 1 ≤ R.frames; omega, by show 8 + (2 + 11) + 40 * 0 ≤ R.locals; omega⟩ ⟨by show cells + 0 ≤ R.cells; omega, by show slots + 0 ≤ R.slots; omega⟩ (Nat.le_of_ble_eq_true rfl) jX9_digest_124 (fun v ws' => Wa.and (fun hv => ?_))
        obtain ⟨rfl, rfl⟩ := hv
        refine sg C foX9 coX9 oX9_digest_127 rfl rfl rfl ⟨vp_in_nI (by omega) (by decide), trivial⟩ ?_
        rw [hcl, hwd, hstm]
        refine cl_s C (kX9_forkDigest hAD rfl hN B S dl top) cd_X9_forkDigest in_X9 ml_X9_121 sm_X9_forkDigest hd_X9_forkDigest rfl rfl ⟨by show 1 + 1 ≤ R.frames; omega, by show 8 + (6 + 11) + 40 * 1 ≤ R.locals; omega⟩ ⟨by show cells + 0 ≤ R.cells; omega, by show slots + 0 ≤ R.slots; omega⟩ (Nat.le_of_ble_eq_true rfl) jX9_digest_135 (fun v ws' => Wa.and (fun hv => ?_))
        obtain ⟨rfl, rfl⟩ := hv
        refine sg C foX9 coX9 oX9_digest_138 rfl rfl rfl ⟨vp_in_nI (by omega) (by decide), trivial⟩ ?_
        rw [hcl, hwp]
        refine b2_le (tgt := 161) C jX9_digest_149 (by decide) (fun h149 => ?_) (fun h149 => ?_)
        · have hq : d1 ≤ d2 := (nI_leI (by omega) (by omega)).mp h149
          rw [Nat.max_eq_right hq] at hK
          refine sg0 C foX9 coX9 oX9_digest_161 rfl rfl rfl ?_
          refine sg0 C foX9 coX9 oX9_digest_163 rfl rfl rfl ?_
          rw [show (1 : Int32) = nI 1 from rfl, nI_add]
          exact hK
        · have hq : d2 < d1 := Nat.not_le.mp fun q9 => h149 (nI_le q9 (by omega))
          rw [Nat.max_eq_left (Nat.le_of_lt hq)] at hK
          refine sg C foX9 coX9 oX9_digest_152 rfl rfl rfl ⟨vp_in_nI (by omega) (by decide), trivial⟩ ?_
          refine sg0 C foX9 coX9 oX9_digest_163 rfl rfl rfl ?_
          rw [hcl, hwp, show (1 : Int32) = nI 1 from rfl, nI_add]
          exact hK
set_option maxRecDepth 100000 in
set_option maxHeartbeats 4000000 in
theorem dg_tree (C : Cx p s m args c cX9_digest 9 RX9 D ca ad A N 24) (hAD : AD ad 24) (hN : NS D N) (hR : 2 ≤ R.frames ∧ 80 ≤ R.locals ∧ cells ≤ R.cells ∧ slots ≤ R.slots) {a b : Nat} (hb : b ≤ 2700) {xs : List (Nat × Int64)} (hxs : lsR pa va a xs) (hbx : b = a + xs.length) (hpt : ∀ q ∈ xs, q.1 < 65536) (hsrt : srt xs) (T : Term) (hT : isT T) : ∀ (F k n : Nat) (wd : Nat → Int64) (wb wp : Nat → Int32) (pre suf : List (Nat × Int64)) (top : Int64) (dpv bt : Int32), okT (T) F k → fll (T) → n + k ≤ 16 → xs = pre ++ (lvs (T) ++ suf) → (∀ j, n = j + 1 → ∃ c, wb j = nI c ∧ c + k < 16) → (∀ w suf2, suf = w :: suf2 → fbit (lastOf (T)) w.1 + k < 16) → (∀ (wd2 : Nat → Int64) (wb2 wp2 : Nat → Int32), agR n wd wd2 wb wb2 wp wp2 → Wa p l e R s m args below meth c cells slots QQ D ca ad A 9 N ([(0, .ref 0), (1, .int (nI a)), (2, .int (nI b)), (3, .int (nI n)), (4, .long (dig (T))), (6, .int (nI (frkT (T)))), (7, .int (nI (a + pre.length + (lvs (T)).length))), (8, .int (bdy (lastOf (T)) suf))], [], (mW pa va sz fr tw ta wd2 wb2 wp2 ou o1 o2 pf pt ki bi ste hel low hgh su ro fe vs wn tp dp la rst hlf nd rt frd fa at_ end_ ab fo co ll lh hm)) 77) → Wa p l e R s m args below meth c cells slots QQ D ca ad A 9 N ([(0, .ref 0), (1, .int (nI a)), (2, .int (nI b)), (3, .int (nI n)), (4, .long (top)), (6, .int dpv), (7, .int (nI (a + pre.length))), (8, .int bt)], [], (mW pa va sz fr tw ta wd wb wp ou o1 o2 pf pt ki bi ste hel low hgh su ro fe vs wn tp dp la rst hlf nd rt frd fa at_ end_ ab fo co ll lh hm)) 208 := by
  refine tr_ind (P := fun T => ∀ (F k n : Nat) (wd : Nat → Int64) (wb wp : Nat → Int32) (pre suf : List (Nat × Int64)) (top : Int64) (dpv bt : Int32), okT (T) F k → fll (T) → n + k ≤ 16 → xs = pre ++ (lvs (T) ++ suf) → (∀ j, n = j + 1 → ∃ c, wb j = nI c ∧ c + k < 16) → (∀ w suf2, suf = w :: suf2 → fbit (lastOf (T)) w.1 + k < 16) → (∀ (wd2 : Nat → Int64) (wb2 wp2 : Nat → Int32), agR n wd wd2 wb wb2 wp wp2 → Wa p l e R s m args below meth c cells slots QQ D ca ad A 9 N ([(0, .ref 0), (1, .int (nI a)), (2, .int (nI b)), (3, .int (nI n)), (4, .long (dig (T))), (6, .int (nI (frkT (T)))), (7, .int (nI (a + pre.length + (lvs (T)).length))), (8, .int (bdy (lastOf (T)) suf))], [], (mW pa va sz fr tw ta wd2 wb2 wp2 ou o1 o2 pf pt ki bi ste hel low hgh su ro fe vs wn tp dp la rst hlf nd rt frd fa at_ end_ ab fo co ll lh hm)) 77) → Wa p l e R s m args below meth c cells slots QQ D ca ad A 9 N ([(0, .ref 0), (1, .int (nI a)), (2, .int (nI b)), (3, .int (nI n)), (4, .long (top)), (6, .int dpv), (7, .int (nI (a + pre.length))), (8, .int bt)], [], (mW pa va sz fr tw ta wd wb wp ou o1 o2 pf pt ki bi ste hel low hgh su ro fe vs wn tp dp la rst hlf nd rt frd fa at_ end_ ab fo co ll lh hm)) 208) ?_ ?_ ?_ ?_ T hT
  · exact fun q F k n wd wb wp pre suf top dpv bt h => h.elim
  · exact fun q d F k n wd wb wp pre suf top dpv bt _ h => h.elim
  · intro q P v F k n wd wb wp pre suf top dpv bt hok hf hnk he hst hbd hK
    exact dg_leaf C hAD hN hR hb hxs hbx hpt hsrt (by rw [he]; rfl) (hK wd wb wp (fun j _ => ⟨rfl, rfl, rfl⟩))
  · intro q B S x y t1 t2 i1 i2 F k n wd wb wp pre suf top dpv bt hok hf hnk he hst hbd hK
    obtain ⟨⟨a1, a2, a3, a4⟩, a5, a6⟩ := okF hok
    obtain ⟨A1, v1, e1⟩ := last_lvs x t1 hf.1
    obtain ⟨A2, v2, e2⟩ := first_lvs y t2 hf.2
    obtain ⟨A3, v3, e3⟩ := last_lvs y t2 hf.2
    have hl : xs.length = pre.length + ((lvs x).length + (lvs y).length + suf.length) := by rw [he]; simp only [lvs, List.length_append]
    have hlx : 0 < (lvs x).length := by rw [e1]; simp
    have hly : 0 < (lvs y).length := by rw [e2]; simp
    have p1 := last_pl t1 hf.1 a5
    have p2 := first_pl t2 hf.2 a6
    have p3 := last_pl t2 hf.2 a6
    have m1 : lastOf x < 65536 := hpt (lastOf x, v1) (by rw [he]; simp only [lvs]; rw [e1]; simp)
    have m2 : firstOf y < 65536 := hpt (firstOf y, v2) (by rw [he]; simp only [lvs]; rw [e2]; simp)
    have m3 : lastOf y < 65536 := hpt (lastOf y, v3) (by rw [he]; simp only [lvs]; rw [e3]; simp)
    have k1 := pl_tk a1 a4 (b := 0) (by decide) (by omega : lastOf x / 2 ^ (15 - B) = S / 2 ^ (15 - B) + 0)
    have k2 := pl_tk a1 a4 (b := 1) (by decide) p2
    have k3 := pl_tk a1 a4 (b := 1) (by decide) p3
    have hfb : fbit (lastOf x) (firstOf y) = B := fb_uniq m1 m2 a1 (((tk_iff a4).mp k1.1).trans ((tk_iff a4).mp k2.1).symm) (by omega)
    have hdx := frk_le x t1 (15 - B) (ok_fit x t1 _ _ a5 (by
      have b1 := stm_lo a1 a4
      have b2 := Nat.two_pow_pos (15 - B)
      have b3 : (S / 2 ^ (15 - B) + 1) * 2 ^ (15 - B) ≤ firstOf y := by rw [← p2]; exact Nat.div_mul_le_self _ _
      omega))
    have hdy := frk_le y t2 (15 - B) (ok_fit y t2 _ _ a6 (by
      have b1 := stm_lo a1 a4
      have b2 := pw_s a1
      have b3 : stm S B + 2 ^ (16 - B) ≤ 65536 := by
        have c1 := pl_end (k := 16) a1 (by omega) (p16 (Nat.lt_of_le_of_lt (Nat.le_trans (Nat.le_of_eq k1.1.symm) (stm_le _ _)) m1)) a4
        rw [a4]
        simpa using c1
      rw [a4] at b3
      rw [Nat.add_mul, Nat.add_mul]
      omega))
    refine i1 (S / 2 ^ (15 - B)) (15 - B) n wd wb wp pre (lvs y ++ suf) top dpv bt a5 hf.1 (by omega) (by rw [he]; simp only [lvs, List.append_assoc]) (fun j hj => ?_) (fun w suf2 hw => ?_) (fun wd1 wb1 wp1 hag => ?_)
    · obtain ⟨c0, h1, h2⟩ := hst j hj
      exact ⟨c0, h1, by omega⟩
    · rw [e2, List.cons_append] at hw
      cases hw
      show fbit (lastOf x) (firstOf y) + (15 - B) < 16
      omega
    · rw [show bdy (lastOf x) (lvs y ++ suf) = nI B by rw [e2]; show nI (fbit (lastOf x) (firstOf y)) = nI B; rw [hfb]]
      refine dg_push C hAD hN hR hb a1 (by omega) (fun j hj => ?_) (by omega) (by omega) ?_
      · obtain ⟨c0, h1, h2⟩ := hst j hj
        exact ⟨c0, by rw [(hag j (by omega)).2.1]; exact h1, by omega⟩
      · have hle : (pre ++ lvs x).length = pre.length + (lvs x).length := by simp
        have h9 := i2 (S / 2 ^ (15 - B) + 1) (15 - B) (n + 1) (vp_updL wd1 n (dig x)) (upd wb1 n (nI B)) (upd wp1 n (nI (frkT x))) (pre ++ lvs x) suf (dig x) (nI (frkT x)) (nI B) a6 hf.2 (by omega) (by rw [he]; simp only [lvs, List.append_assoc]) (fun j hj => ?_) (fun w suf2 hw => ?_) (fun wd2 wb2 wp2 hag2 => ?_)
        · rw [hle, ← Nat.add_assoc] at h9
          exact h9
        · have : j = n := by omega
          subst this
          exact ⟨B, if_pos rfl, by omega⟩
        · have := hbd w suf2 hw
          have hlo : lastOf (tF q B S x y) = lastOf y := rfl
          rw [hlo] at this
          omega
        · obtain ⟨g1, g2, g3⟩ := hag2 n (by omega)
          have hn1 : a + (pre ++ lvs x).length + (lvs y).length = a + pre.length + (lvs (tF q B S x y)).length := by simp only [lvs, List.length_append]; omega
          rw [hn1]
          have hlast : pa (a + pre.length + (lvs (tF q B S x y)).length - 1) = nI (lastOf y) := by
            have hz : xs[pre.length + (lvs x).length + A3.length]? = some (lastOf y, v3) := by
              rw [he]
              simp only [lvs]
              rw [e3, List.getElem?_append_right (by omega), List.getElem?_append_left (by simp; omega), List.getElem?_append_right (by omega), List.getElem?_append_right (by omega)]
              rw [show pre.length + (lvs x).length + A3.length - pre.length - (lvs x).length - A3.length = 0 by omega]
              rfl
            have hl3 : (lvs y).length = A3.length + 1 := by rw [e3]; simp
            have := (hxs _ _ hz).1
            rw [show a + pre.length + (lvs (tF q B S x y)).length - 1 = a + (pre.length + (lvs x).length + A3.length) by simp only [lvs, List.length_append]; omega]
            exact this
          refine dg_pop C hAD hN hR hb (B := B) (S := S) (Q := lastOf y) (d1 := frkT x) (d2 := frkT y) (dl := dig x) (top := dig y) a1 (by omega) (g2.trans (if_pos rfl)) (g1.trans (if_pos rfl)) (g3.trans (if_pos rfl)) (by omega) (by omega) ?_ hlast m3 k3.1 (by simp only [lvs, List.length_append]; omega) (by simp only [lvs, List.length_append]; omega) ?_
          · intro hle2
            cases suf with
            | nil => exact absurd hle2 (by show ¬ nI B ≤ -1; exact nI_gm1 (by omega))
            | cons w suf2 =>
              have h7 : fbit (lastOf y) w.1 + k < 16 := hbd w suf2 rfl
              exact absurd hle2 (Int32.not_le.mpr (by show nI (fbit (lastOf y) w.1) < nI B; exact nI_lt (by omega) (by omega)))
          · exact hK wd2 wb2 wp2 (fun j hj => by
              obtain ⟨g4, g5, g6⟩ := hag2 j (by omega)
              obtain ⟨g7, g8, g9⟩ := hag j hj
              have ne : ¬ j = n := by omega
              refine ⟨g4.trans ?_, g5.trans ?_, g6.trans ?_⟩
              · show vp_updL wd1 n (dig x) j = wd j
                rw [← g7]; exact if_neg ne
              · show upd wb1 n (nI B) j = wb j
                rw [← g8]; exact if_neg ne
              · show upd wp1 n (nI (frkT x)) j = wp j
                rw [← g9]; exact if_neg ne)
end
section
variable {l : Launch} {D : va_G} {ca : Nat → ClassId} {ad : Nat → Nat} {N : Heap → Prop} {pa : Nat → Int32} {va : Nat → Int64} {sz : Nat → Int32} {fr : Nat → Int32} {tw : Nat → Int32} {ta : Nat → Int32} {wd : Nat → Int64} {wb : Nat → Int32} {wp : Nat → Int32} {ou : Nat → Int32} {o1 : Nat → Int32} {o2 : Nat → Int32} {pf : Nat → Int32} {pt : Nat → Int32} {ki : Nat → Int32} {bi : Nat → Int32} {ste : Nat → Int32} {hel : Nat → Int64} {low : Nat → Int32} {hgh : Nat → Int32} {su : Nat → Int64} {ro : Nat → Int32} {fe : Nat → Int32} {vs : Int32} {wn : Int32} {tp : Int32} {dp : Int32} {la : Int32} {rst : Int32} {hlf : Int32} {nd : Int32} {rt : Int32} {frd : Int32} {fa : Int32} {at_ : Int32} {end_ : Int32} {ab : Int32} {fo : Int64} {co : Int32} {ll : Int32} {lh : Int32} {hm : Int32}
set_option maxRecDepth 100000 in
set_option maxHeartbeats 4000000 in
theorem kX9_digest0 (hAD : AD ad 24) (hN : NS D N) {a : Nat} : Ct l yX9_digest cX9_digest 9 (some .long) (rK 2 0 0) D ca ad (mW pa va sz fr tw ta wd wb wp ou o1 o2 pf pt ki bi ste hel low hgh su ro fe vs wn tp dp la rst hlf nd rt frd fa at_ end_ ab fo co ll lh hm) 24 [.ref 0, .int (nI a), .int (nI a)] N (pG (mW pa va sz fr tw ta wd wb wp ou o1 o2 pf pt ki bi ste hel low hgh su ro fe vs wn tp 0 la rst hlf nd rt frd fa at_ end_ ab fo co ll lh hm) N (some (.long emptyF))) := by
  refine enter (lv := [(0, .ref 0), (1, .int (nI a)), (2, .int (nI a))]) (by decide +kernel) (Nat.le_of_ble_eq_true rfl) rfl hAD (fun U hK => ns_write hK hN) ?_
  intro p e s m below meth c A args hA C hr hlk hnm
  refine sg0 C foX9 coX9 oX9_digest_0 rfl rfl rfl ?_
  refine b2_ne (tgt := 18) C jX9_digest_7 (by decide) (fun h7 => ?_) (fun h7 => ?_)
  · exact absurd rfl h7
  · refine sg0 C foX9 coX9 oX9_digest_10 rfl rfl rfl ?_
    refine cl_s C (kX9_mix hAD rfl hN 0 3) cd_X9_mix in_X9 ml_X9_92 sm_X9_mix hd_X9_mix rfl rfl ⟨(Nat.le_of_ble_eq_true rfl), (Nat.le_of_ble_eq_true rfl)⟩ ⟨(Nat.le_of_ble_eq_true rfl), (Nat.le_of_ble_eq_true rfl)⟩ (Nat.le_of_ble_eq_true rfl) jX9_digest_14 (fun v ws' => Wa.and (fun hv => ?_))
    obtain ⟨rfl, rfl⟩ := hv
    exact rt_l C hr hlk jX9_digest_17 (fun H hN => ⟨⟨rfl, rfl⟩, hN⟩)
set_option maxRecDepth 100000 in
set_option maxHeartbeats 4000000 in
theorem kX9_digest (hAD : AD ad 24) (hN : NS D N) {a F k : Nat} {T : Term} (hT : isT T) (hok : okT T F k) (hf : fll T) (hk : k ≤ 16) (hxs : lsR pa va a (lvs T)) (hb : a + (lvs T).length ≤ 2700) (hpt : ∀ q ∈ lvs T, q.1 < 65536) : Ct l yX9_digest cX9_digest 9 (some .long) (rK 2 0 0) D ca ad (mW pa va sz fr tw ta wd wb wp ou o1 o2 pf pt ki bi ste hel low hgh su ro fe vs wn tp dp la rst hlf nd rt frd fa at_ end_ ab fo co ll lh hm) 24 [.ref 0, .int (nI a), .int (nI (a + (lvs T).length))] N (fun r ws2 H => ∃ (wd2 : Nat → Int64) (wb2 wp2 : Nat → Int32), (r = some (.long (dig T)) ∧ ws2 = (mW pa va sz fr tw ta wd2 wb2 wp2 ou o1 o2 pf pt ki bi ste hel low hgh su ro fe vs wn tp (nI (frkT T)) la rst hlf nd rt frd fa at_ end_ ab fo co ll lh hm)) ∧ N H) := by
  have hsrt := lvs_srt T hT F k hok
  have hne : 0 < (lvs T).length := List.length_pos_iff.mpr (fll_ne T hT hf)
  refine enter (lv := [(0, .ref 0), (1, .int (nI a)), (2, .int (nI (a + (lvs T).length)))]) (by decide +kernel) (Nat.le_of_ble_eq_true rfl) rfl hAD (fun U hK => ns_write hK hN) ?_
  intro p e s m below meth c A args hA C hr hlk hnm
  refine sg0 C foX9 coX9 oX9_digest_0 rfl rfl rfl ?_
  refine b2_ne (tgt := 18) C jX9_digest_7 (by decide) (fun h7 => ?_) (fun h7 => ?_)
  · refine sg0 C foX9 coX9 oX9_digest_18 rfl rfl rfl ?_
    refine sg0 C foX9 coX9 oX9_digest_29 rfl rfl rfl ?_
    refine b2_gt (tgt := 242) C jX9_digest_32 (by decide) (fun h32 => ?_) (fun h32 => ?_)
    · exact absurd h32 (Int32.not_lt.mpr (nI_le (by omega) (by omega)))
    · refine sg0 C foX9 coX9 oX9_digest_35 rfl rfl rfl ?_
      refine b2_ne (tgt := 45) C jX9_digest_38 (by decide) (fun h38 => ?_) (fun h38 => ?_)
      · refine sg0 C foX9 coX9 oX9_digest_45 rfl rfl rfl ?_
        refine b2_ne (tgt := 56) C jX9_digest_48 (by decide) (fun h48 => ?_) (fun h48 => ?_)
        · exact absurd rfl h48
        · refine sg0 C foX9 coX9 oX9_digest_51 rfl rfl rfl ?_
          refine sg0 C foX9 coX9 oX9_digest_75 rfl rfl rfl ?_
          refine sg0 C foX9 coX9 oX9_digest_77 rfl rfl rfl ?_
          refine b2_le (tgt := 169) C jX9_digest_80 (by decide) (fun h80 => ?_) (fun h80 => ?_)
          · refine sg0 C foX9 coX9 oX9_digest_169 rfl rfl rfl ?_
            refine b2_le (tgt := 208) C jX9_digest_172 (by decide) (fun h172 => ?_) (fun h172 => ?_)
            · refine dg_tree C hAD hN ⟨(Nat.le_of_ble_eq_true rfl), (Nat.le_of_ble_eq_true rfl), (Nat.le_of_ble_eq_true rfl), (Nat.le_of_ble_eq_true rfl)⟩ (by omega) hxs rfl hpt hsrt T hT F k 0 wd wb wp [] [] 0 0 16 hok hf (by omega) (by simp) (fun j hj => absurd hj (by omega)) (fun w s2 hw => by cases hw) (fun wd2 wb2 wp2 _ => ?_)
              refine sg0 C foX9 coX9 oX9_digest_77 rfl rfl rfl ?_
              refine b2_le (tgt := 169) C jX9_digest_80 (by decide) (fun h80 => ?_) (fun h80 => ?_)
              · exact absurd h80 (Int32.not_le.mpr (nI_lt (by simp; omega) (by simp; omega)))
              · refine sg0 C foX9 coX9 oX9_digest_83 rfl rfl rfl ?_
                refine b1_le (tgt := 169) C jX9_digest_84 (by decide) (fun h84 => ?_) (fun h84 => ?_)
                · refine sg0 C foX9 coX9 oX9_digest_169 rfl rfl rfl ?_
                  refine b2_le (tgt := 208) C jX9_digest_172 (by decide) (fun h172 => ?_) (fun h172 => ?_)
                  · exact absurd h172 (Int32.not_le.mpr (nI_lt (by simp; omega) (by simp; omega)))
                  · refine sg0 C foX9 coX9 oX9_digest_175 rfl rfl rfl ?_
                    refine b2_ge (tgt := 208) C jX9_digest_178 (by decide) (fun h178 => ?_) (fun h178 => ?_)
                    · refine sg0 C foX9 coX9 oX9_digest_208 rfl rfl rfl ?_
                      refine b2_ge (tgt := 236) C jX9_digest_211 (by decide) (fun h211 => ?_) (fun h211 => ?_)
                      · refine sg0 C foX9 coX9 oX9_digest_236 rfl rfl rfl ?_
                        refine sg0 C foX9 coX9 oX9_digest_29 rfl rfl rfl ?_
                        rw [nI_1]
                        refine b2_gt (tgt := 242) C jX9_digest_32 (by decide) (fun h32 => ?_) (fun h32 => ?_)
                        · refine sg0 C foX9 coX9 oX9_digest_242 rfl rfl rfl ?_
                          exact rt_l C hr hlk jX9_digest_250 (fun H hH => ⟨wd2, wb2, wp2, ⟨rfl, rfl⟩, hH⟩)
                        · exact absurd (nI_lt (by simp) (by simp; omega)) h32
                      · exact absurd (nI_le (by simp) (by simp; omega)) h211
                    · exact absurd (nI_le (by simp) (by simp; omega)) h178
                · exact absurd (by decide) h84
            · exact absurd (Int32.le_refl _) h172
          · exact absurd (Int32.le_refl _) h80
      · exact absurd ((nI_eq (by omega) (by omega)).mp h38) (by omega)
  · exact absurd ((nI_eq (by omega) (by omega)).mp h7) (by omega)
end
