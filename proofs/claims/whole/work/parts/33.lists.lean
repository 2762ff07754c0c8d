/-! the leaves of a tree, in their order -/
def lvs : Term → List (Nat × Int64)
  | .add (.arg _) (.elem (.arg P) (.long v)) => [(P, v)]
  | .add (.arg _) (.sub (.elem (.arg _) (.arg _)) (.mul x y)) => lvs x ++ lvs y
  | _ => []
/-- nothing is hidden, and nothing is empty -/
def fll : Term → Prop
  | .add (.arg _) (.elem (.arg _) (.long _)) => True
  | .add (.arg _) (.sub (.elem (.arg _) (.arg _)) (.mul x y)) => fll x ∧ fll y
  | _ => False
/-- a tree of the owner's -/
def okM (T : Term) : Prop := strp T = tE 0 ∨ (okT T 0 16 ∧ fll T)
theorem okM_W {T : Term} (h : okM T) : okW T := h.elim Or.inl (fun h => Or.inr h.1)
theorem strp_lvs (T : Term) (h : isT T) : lvs (strp T) = lvs T := by
  refine tr_ind (P := fun T => lvs (strp T) = lvs T) ?_ ?_ ?_ ?_ T h
  · exact fun q => rfl
  · exact fun q d => rfl
  · exact fun q p v => rfl
  · exact fun q B S x y _ _ i1 i2 => by simp only [strp, lvs, i1, i2]
theorem strp_fll (T : Term) (h : isT T) : fll (strp T) ↔ fll T := by
  refine tr_ind (P := fun T => fll (strp T) ↔ fll T) ?_ ?_ ?_ ?_ T h
  · exact fun q => Iff.rfl
  · exact fun q d => Iff.rfl
  · exact fun q p v => Iff.rfl
  · exact fun q B S x y _ _ i1 i2 => by simp only [strp, fll, i1, i2]
theorem okM_strp {T : Term} (hT : isT T) : okM (strp T) ↔ okM T := by
  unfold okM
  rw [strp_ok T hT, strp_strp T hT, strp_fll T hT]
theorem lvs_pl (T : Term) (hT : isT T) : ∀ F k, okT T F k → ∀ q ∈ lvs T, q.1 / 2 ^ k = F := by
  refine tr_ind (P := fun T => ∀ F k, okT T F k → ∀ q ∈ lvs T, q.1 / 2 ^ k = F) ?_ ?_ ?_ ?_ T hT
  · intro q F k h; exact h.elim
  · intro q d F k h x hx; cases hx
  · intro q p v F k h x hx
    rw [List.mem_singleton.mp hx]; exact h
  · intro q B S x y _ _ i1 i2 F k h z hz
    obtain ⟨⟨a1, a2, a3, a4⟩, a5, a6⟩ := okF h
    have e0 : 16 - B ≤ k := by omega
    have key : z.1 / 2 ^ (16 - B) = S / 2 ^ (16 - B) := by
      have h3 := dv_2 z.1 (15 - B)
      rw [show 15 - B + 1 = 16 - B by omega] at h3
      have h4 := stm_dv a1 a4
      rcases List.mem_append.mp hz with hz | hz
      · have := i1 _ _ a5 z hz
        omega
      · have := i2 _ _ a6 z hz
        omega
    rw [dv_up e0 key, a3]
theorem pl_less {p q c k : Nat} (h1 : p / 2 ^ k = c) (h2 : q / 2 ^ k = c + 1) : p < q := Nat.not_le.mp fun h => by
  have := Nat.div_le_div_right (c := 2 ^ k) h
  omega
def srt (xs : List (Nat × Int64)) : Prop := xs.Pairwise (fun a b => a.1 < b.1)
theorem lvs_srt (T : Term) (hT : isT T) : ∀ F k, okT T F k → srt (lvs T) := by
  refine tr_ind (P := fun T => ∀ F k, okT T F k → srt (lvs T)) ?_ ?_ ?_ ?_ T hT
  · intro q F k h; exact h.elim
  · intro q d F k h; exact List.Pairwise.nil
  · intro q p v F k h; exact List.pairwise_singleton _ _
  · intro q B S x y t1 t2 i1 i2 F k h
    obtain ⟨⟨a1, a2, a3, a4⟩, a5, a6⟩ := okF h
    exact List.pairwise_append.mpr ⟨i1 _ _ a5, i2 _ _ a6, fun a ha b hb => pl_less (lvs_pl x t1 _ _ a5 a ha) (lvs_pl y t2 _ _ a6 b hb)⟩
theorem okM_srt {T : Term} (hT : isT T) (h : okM T) : srt (lvs T) ∧ ∀ q ∈ lvs T, q.1 < 65536 := by
  rcases h with h | h
  · rw [← strp_lvs T hT, h]
    exact ⟨List.Pairwise.nil, fun q hq => by cases hq⟩
  · exact ⟨lvs_srt T hT _ _ h.1, fun q hq => by have := (pl_lt (lvs_pl T hT _ _ h.1 q hq)).1; omega⟩
theorem fll_ne (T : Term) (hT : isT T) : fll T → lvs T ≠ [] := by
  refine tr_ind (P := fun T => fll T → lvs T ≠ []) ?_ ?_ ?_ ?_ T hT
  · intro q h; exact h.elim
  · intro q d h; exact h.elim
  · intro q p v h; simp [lvs]
  · intro q B S x y _ _ i1 i2 h
    simp only [lvs]
    intro e
    exact i1 h.1 (List.append_eq_nil_iff.mp e).1
/-- to write a path into a row -/
def insL (P : Nat) (v : Int64) : List (Nat × Int64) → List (Nat × Int64)
  | [] => [(P, v)]
  | q :: r => if q.1 < P then q :: insL P v r else if q.1 = P then (P, v) :: r else (P, v) :: q :: r
def ixL (P : Nat) : List (Nat × Int64) → Nat
  | [] => 0
  | q :: r => if q.1 < P then ixL P r + 1 else 0
theorem ins_app1 {P : Nat} {v : Int64} : ∀ (a b : List (Nat × Int64)), (∀ q ∈ a, q.1 < P) → insL P v (a ++ b) = a ++ insL P v b := by
  intro a
  induction a with
  | nil => intro b _; rfl
  | cons q r ih =>
    intro b h
    simp only [List.cons_append, insL]
    rw [if_pos (h q List.mem_cons_self), ih b (fun x hx => h x (List.mem_cons_of_mem _ hx))]
theorem ins_app2 {P : Nat} {v : Int64} : ∀ (a b : List (Nat × Int64)), (∀ q ∈ b, P < q.1) → insL P v (a ++ b) = insL P v a ++ b := by
  intro a
  induction a with
  | nil =>
    intro b h
    cases b with
    | nil => rfl
    | cons q r =>
      have := h q List.mem_cons_self
      simp only [List.nil_append, insL]
      rw [if_neg (by omega), if_neg (by omega)]
      rfl
  | cons q r ih =>
    intro b h
    simp only [List.cons_append, insL]
    split
    · rw [ih b h]; rfl
    · split <;> rfl
theorem fk_lvs {T : Term} {pn P q0 : Nat} {v : Int64} (hpn : pn < 65536) (hP : P < 65536) (hne : pn ≠ P) (hT : ∀ q ∈ lvs T, q.1 / 2 ^ (15 - fbit pn P) = pn / 2 ^ (15 - fbit pn P)) : lvs (fkT T pn P (tL q0 P v)) = insL P v (lvs T) := by
  obtain ⟨h1, h2, h3⟩ := fbit_spec hpn hP hne
  generalize hb : fbit pn P = b at h1 h2 h3 hT
  rw [show 16 - b = 15 - b + 1 by omega] at h2
  obtain ⟨c1, c2⟩ := pl_two h2.symm (Ne.symm h3)
  unfold fkT
  rw [hb]
  split
  next hbit =>
    obtain ⟨d1, d2⟩ := c1 hbit
    have h4 := ins_app1 (P := P) (v := v) (lvs T) [] (fun q hq => pl_less ((hT q hq).trans d1) d2)
    rw [List.append_nil] at h4
    rw [h4]
    rfl
  next hbit =>
    obtain ⟨d1, d2⟩ := c2 hbit
    have h4 := ins_app2 (P := P) (v := v) [] (lvs T) (fun q hq => pl_less d1 ((hT q hq).trans d2))
    rw [List.nil_append] at h4
    rw [h4]
    rfl
theorem wrt_lvs (T : Term) (hT : isT T) {P q0 : Nat} {v : Int64} : ∀ F k, okT T F k → fll T → (F + 1) * 2 ^ k ≤ 65536 → P / 2 ^ k = F → lvs (wrtT T P (tL q0 P v)) = insL P v (lvs T) := by
  refine tr_ind (P := fun T => ∀ F k, okT T F k → fll T → (F + 1) * 2 ^ k ≤ 65536 → P / 2 ^ k = F → lvs (wrtT T P (tL q0 P v)) = insL P v (lvs T)) ?_ ?_ ?_ ?_ T hT
  · exact fun q F k h _ _ _ => h.elim
  · exact fun q d F k _ h _ _ => h.elim
  · intro q p v0 F k h _ h1 h2
    have h : p / 2 ^ k = F := h
    simp only [wrtT]
    split
    next e =>
      subst e
      simp only [lvs, insL]
      rw [if_neg (by omega), if_pos trivial]
    next hne => exact fk_lvs (Nat.lt_of_lt_of_le (pl_lt h).1 h1) (Nat.lt_of_lt_of_le (pl_lt h2).1 h1) hne (fun x hx => by rw [List.mem_singleton.mp hx])
  · intro q B S x y t1 t2 i1 i2 F k h hf h1 h2
    obtain ⟨⟨a1, a2, a3, a4⟩, a5, a6⟩ := okF h
    have b1 := pl_end a1 a2 a3 a4
    have b2 := pw_s a1
    have b3 := stm_lo a1 a4
    simp only [wrtT]
    split
    next ht =>
      have hw := way_pl a1 a4 ht
      split
      next hb =>
        simp only [lvs]
        rw [i2 _ _ a6 hf.2 (by rw [Nat.add_mul, Nat.add_mul]; omega) (by omega), ins_app1 _ _ (fun z hz => pl_less (lvs_pl x t1 _ _ a5 z hz) (hw.trans (by rw [hb])))]
      next hb =>
        have := bitA_lt P B
        have hb0 : bitA P B = 0 := by omega
        simp only [lvs]
        rw [i1 _ _ a5 hf.1 (by rw [Nat.add_mul]; omega) (by omega), ins_app2 _ _ (fun z hz => pl_less (hw.trans (by rw [hb0, Nat.add_zero])) (lvs_pl y t2 _ _ a6 z hz))]
    next ht =>
      have hP := Nat.lt_of_lt_of_le (pl_lt h2).1 h1
      have hS := Nat.lt_of_lt_of_le (pl_lt a3).1 h1
      have hne : S ≠ P := fun e => ht (by rw [← e]; exact a4)
      obtain ⟨c1, c2, c3⟩ := fbit_spec hS hP hne
      have hlt : 16 - B ≤ 15 - fbit S P := by
        refine Nat.not_lt.mp fun q9 => ht ((tk_iff a4).mpr (dv_up (show 16 - fbit S P ≤ 16 - B by omega) c2).symm)
      exact fk_lvs hS hP hne (fun z hz => lvs_pl (tF q B S x y) ⟨t1, t2⟩ _ _ ⟨⟨a1, by omega, rfl, a4⟩, a5, a6⟩ z hz)
theorem fk_fll {T L : Term} {pn P : Nat} (h1 : fll T) (h2 : fll L) : fll (fkT T pn P L) := by
  unfold fkT
  split
  · exact ⟨h1, h2⟩
  · exact ⟨h2, h1⟩
theorem wrt_fll (T : Term) (hT : isT T) {P q0 : Nat} {v : Int64} : fll T → fll (wrtT T P (tL q0 P v)) := by
  refine tr_ind (P := fun T => fll T → fll (wrtT T P (tL q0 P v))) ?_ ?_ ?_ ?_ T hT
  · exact fun q h => h.elim
  · exact fun q d h => h.elim
  · intro q p v0 _
    simp only [wrtT]
    split
    · trivial
    · exact fk_fll trivial trivial
  · intro q B S x y _ _ i1 i2 h
    simp only [wrtT]
    split
    · split
      · exact ⟨h.1, i2 h.2⟩
      · exact ⟨i1 h.1, h.2⟩
    · exact fk_fll h trivial
theorem wrtM {T : Term} (hT : isT T) {P q0 : Nat} {v : Int64} (hP : P < 65536) (h : okM T) : okM (wrtT T P (tL q0 P v)) ∧ lvs (wrtT T P (tL q0 P v)) = insL P v (lvs T) := by
  rcases h with h | h
  · rcases shp T hT with ⟨q, rfl⟩ | ⟨q, d, rfl⟩ | ⟨q, p, v, rfl⟩ | ⟨q, B, S, x, y, rfl⟩
    · exact ⟨Or.inr ⟨p16 hP, trivial⟩, rfl⟩
    · exact absurd h (by simp [strp])
    · exact absurd h (by simp [strp])
    · exact absurd h (by simp [strp])
  · exact ⟨Or.inr ⟨wrt_ok T hT 0 16 h.1 (by decide) (p16 hP), wrt_fll T hT h.2⟩, wrt_lvs T hT 0 16 h.1 h.2 (by decide) (p16 hP)⟩
/-- the way's end tells whether a path is there -/
theorem way_lvs (T : Term) (hT : isT T) {P : Nat} : ∀ F k, okT T F k → fll T → P / 2 ^ k = F → (lfT (wayT T P) P = true ↔ ∃ v, (P, v) ∈ lvs T) := by
  refine tr_ind (P := fun T => ∀ F k, okT T F k → fll T → P / 2 ^ k = F → (lfT (wayT T P) P = true ↔ ∃ v, (P, v) ∈ lvs T)) ?_ ?_ ?_ ?_ T hT
  · exact fun q F k h _ _ => h.elim
  · exact fun q d F k _ h _ => h.elim
  · intro q p v F k _ _ _
    simp only [wayT, lfT, lvs, List.mem_singleton, Prod.mk.injEq, decide_eq_true_eq]
    exact ⟨fun h => ⟨v, by simpa using h.symm, rfl⟩, fun ⟨w, h, _⟩ => by simpa using h.symm⟩
  · intro q B S x y t1 t2 i1 i2 F k h hf h2
    obtain ⟨⟨a1, a2, a3, a4⟩, a5, a6⟩ := okF h
    simp only [wayT, lvs, List.mem_append]
    split
    next ht =>
      have hw := way_pl a1 a4 ht
      split
      next hb =>
        rw [i2 _ _ a6 hf.2 (by omega)]
        refine ⟨fun ⟨v, hv⟩ => ⟨v, Or.inr hv⟩, fun ⟨v, hv⟩ => ⟨v, hv.elim (fun h9 => ?_) id⟩⟩
        have := lvs_pl x t1 _ _ a5 _ h9
        simp only at this
        omega
      next hb =>
        have := bitA_lt P B
        have hb0 : bitA P B = 0 := by omega
        rw [i1 _ _ a5 hf.1 (by omega)]
        refine ⟨fun ⟨v, hv⟩ => ⟨v, Or.inl hv⟩, fun ⟨v, hv⟩ => ⟨v, hv.elim id (fun h9 => ?_)⟩⟩
        have := lvs_pl y t2 _ _ a6 _ h9
        simp only at this
        omega
    next ht =>
      refine ⟨fun h9 => by simp [lfT] at h9, fun ⟨v, hv⟩ => ?_⟩
      exfalso
      apply ht
      rcases hv with hv | hv
      · exact (pl_tk a1 a4 (b := 0) (by decide) (by have := lvs_pl x t1 _ _ a5 _ hv; simp only at this; omega)).1
      · exact (pl_tk a1 a4 (b := 1) (by decide) (by have := lvs_pl y t2 _ _ a6 _ hv; simp only at this; omega)).1
theorem wayM {T : Term} (hT : isT T) {P : Nat} (hP : P < 65536) (h : okM T) : lfT (wayT T P) P = true ↔ ∃ v, (P, v) ∈ lvs T := by
  rcases h with h | h
  · rcases shp T hT with ⟨q, rfl⟩ | ⟨q, d, rfl⟩ | ⟨q, p, v, rfl⟩ | ⟨q, B, S, x, y, rfl⟩
    · exact ⟨fun h => by simp [wayT, lfT] at h, fun ⟨v, hv⟩ => by cases hv⟩
    · exact absurd h (by simp [strp])
    · exact absurd h (by simp [strp])
    · exact absurd h (by simp [strp])
  · exact way_lvs T hT 0 16 h.1 h.2 (p16 hP)
/-- to take a path out of a row -/
def delL (P : Nat) (xs : List (Nat × Int64)) : List (Nat × Int64) := xs.filter (fun q => !(q.1 == P))
theorem delL_no {P : Nat} {xs : List (Nat × Int64)} (h : ∀ q ∈ xs, q.1 ≠ P) : delL P xs = xs := List.filter_eq_self.mpr fun q hq => by simp [h q hq]
theorem delL_app (P : Nat) (a b : List (Nat × Int64)) : delL P (a ++ b) = delL P a ++ delL P b := by simp [delL]
theorem del_lvs (T : Term) (hT : isT T) {P : Nat} : ∀ F k, okT T F k → fll T → P / 2 ^ k = F → lfT (wayT T P) P = true → lvs (delT T P) = delL P (lvs T) ∧ (isF T = true → fll (delT T P)) := by
  refine tr_ind (P := fun T => ∀ F k, okT T F k → fll T → P / 2 ^ k = F → lfT (wayT T P) P = true → lvs (delT T P) = delL P (lvs T) ∧ (isF T = true → fll (delT T P))) ?_ ?_ ?_ ?_ T hT
  · exact fun q F k h _ _ _ => h.elim
  · exact fun q d F k _ h _ _ => h.elim
  · intro q p v F k _ _ _ hl
    have : p = P := by simpa [wayT, lfT] using hl
    subst this
    exact ⟨by simp [delT, lvs, delL], fun h => by cases h⟩
  · intro q B S x y t1 t2 i1 i2 F k h hf h2 hl
    obtain ⟨⟨a1, a2, a3, a4⟩, a5, a6⟩ := okF h
    simp only [wayT] at hl
    split at hl
    next ht =>
      have hw := way_pl a1 a4 ht
      have hb2 := bitA_lt P B
      simp only [lvs, delL_app]
      split at hl
      next hb =>
        have hx : delL P (lvs x) = lvs x := delL_no fun z hz e9 => by
          have := lvs_pl x t1 _ _ a5 z hz
          rw [e9] at this
          omega
        obtain ⟨j1, j2⟩ := i2 _ _ a6 hf.2 (by omega) hl
        simp only [delT]
        rw [if_pos hb]
        split
        next hy => exact ⟨by simp only [lvs]; rw [j1, hx], fun _ => ⟨hf.1, j2 hy⟩⟩
        next hy =>
          refine ⟨?_, fun _ => hf.1⟩
          rw [hx]
          have : delL P (lvs y) = [] := by
            rcases shp y t2 with ⟨q, rfl⟩ | ⟨q, d, rfl⟩ | ⟨q, p, v, rfl⟩ | ⟨q, B, S, x, z, rfl⟩
            · rfl
            · rfl
            · have : p = P := by simpa [wayT, lfT] using hl
              subst this
              simp [lvs, delL]
            · exact absurd rfl hy
          rw [this, List.append_nil]
      next hb =>
        have hb0 : bitA P B = 0 := by omega
        have hy0 : delL P (lvs y) = lvs y := delL_no fun z hz e9 => by
          have := lvs_pl y t2 _ _ a6 z hz
          rw [e9] at this
          omega
        obtain ⟨j1, j2⟩ := i1 _ _ a5 hf.1 (by omega) hl
        simp only [delT]
        rw [if_neg hb]
        split
        next hx => exact ⟨by simp only [lvs]; rw [j1, hy0], fun _ => ⟨j2 hx, hf.2⟩⟩
        next hx =>
          refine ⟨?_, fun _ => hf.2⟩
          rw [hy0]
          have : delL P (lvs x) = [] := by
            rcases shp x t1 with ⟨q, rfl⟩ | ⟨q, d, rfl⟩ | ⟨q, p, v, rfl⟩ | ⟨q, B, S, z, y, rfl⟩
            · rfl
            · rfl
            · have : p = P := by simpa [wayT, lfT] using hl
              subst this
              simp [lvs, delL]
            · exact absurd rfl hx
          rw [this, List.nil_append]
    next ht => simp [lfT] at hl
theorem delM {T : Term} (hT : isT T) {P : Nat} (hP : P < 65536) (h : okM T) (hl : lfT (wayT T P) P = true) : okM (delT T P) ∧ lvs (delT T P) = delL P (lvs T) := by
  rcases h with h | h
  · rcases shp T hT with ⟨q, rfl⟩ | ⟨q, d, rfl⟩ | ⟨q, p, v, rfl⟩ | ⟨q, B, S, x, y, rfl⟩
    · simp [wayT, lfT] at hl
    · exact absurd h (by simp [strp])
    · exact absurd h (by simp [strp])
    · exact absurd h (by simp [strp])
  · obtain ⟨j1, j2⟩ := del_lvs T hT 0 16 h.1 h.2 (p16 hP) hl
    refine ⟨?_, j1⟩
    by_cases hf : isF T = true
    · exact Or.inr ⟨del_ok T hT P 0 16 h.1 hf, j2 hf⟩
    · refine Or.inl ?_
      rcases shp T hT with ⟨q, rfl⟩ | ⟨q, d, rfl⟩ | ⟨q, p, v, rfl⟩ | ⟨q, B, S, x, y, rfl⟩
      · rfl
      · rfl
      · rfl
      · exact absurd rfl hf
theorem cnt_lvs (T : Term) (hT : isT T) {a b : Nat} : (∀ q ∈ lvs T, a ≤ q.1 ∧ q.1 ≤ b) → cntT T a b = (lvs T).length := by
  refine tr_ind (P := fun T => (∀ q ∈ lvs T, a ≤ q.1 ∧ q.1 ≤ b) → cntT T a b = (lvs T).length) ?_ ?_ ?_ ?_ T hT
  · exact fun q _ => rfl
  · exact fun q d _ => rfl
  · intro q p v h
    have := h (p, v) (by simp [lvs])
    simp only [cntT, lvs]
    rw [if_pos this]
    rfl
  · intro q B S x y _ _ i1 i2 h
    simp only [cntT, lvs, List.length_append]
    rw [i1 (fun z hz => h z (by simp only [lvs]; exact List.mem_append_left _ hz)), i2 (fun z hz => h z (by simp only [lvs]; exact List.mem_append_right _ hz))]
theorem cntM {T : Term} (hT : isT T) (h : okM T) : cntT T 0 65535 = (lvs T).length := cnt_lvs T hT fun q hq => ⟨Nat.zero_le _, by have := (okM_srt hT h).2 q hq; omega⟩
/-! rows: where a path stands -/
theorem ix_le (P : Nat) : ∀ xs : List (Nat × Int64), ixL P xs ≤ xs.length
  | [] => Nat.le_refl _
  | q :: r => by
    have := ix_le P r
    simp only [ixL, List.length_cons]
    split <;> omega
theorem ix_at {P : Nat} : ∀ {xs : List (Nat × Int64)}, srt xs → ((∃ w, (P, w) ∈ xs) ↔ ∃ w, xs[ixL P xs]? = some (P, w)) := by
  intro xs
  induction xs with
  | nil => intro _; simp
  | cons q r ih =>
    intro h
    obtain ⟨h1, h2⟩ := List.pairwise_cons.mp h
    have ih := ih h2
    simp only [ixL]
    split
    next hq =>
      rw [List.getElem?_cons_succ, ← ih]
      refine ⟨fun ⟨w, hw⟩ => ?_, fun ⟨w, hw⟩ => ⟨w, List.mem_cons_of_mem _ hw⟩⟩
      rcases List.mem_cons.mp hw with rfl | hw
      · exact absurd hq (by simp)
      · exact ⟨w, hw⟩
    next hq =>
      rw [List.getElem?_cons_zero]
      refine ⟨fun ⟨w, hw⟩ => ?_, fun ⟨w, hw⟩ => ⟨w, by rw [← Option.some.inj hw]; exact List.mem_cons_self⟩⟩
      rcases List.mem_cons.mp hw with rfl | hw
      · exact ⟨w, rfl⟩
      · have := h1 _ hw
        simp only at this
        omega
/-- written over, at its place -/
theorem ins_set {P : Nat} {v : Int64} : ∀ {xs : List (Nat × Int64)}, srt xs → (∃ w, xs[ixL P xs]? = some (P, w)) → insL P v xs = xs.set (ixL P xs) (P, v) := by
  intro xs
  induction xs with
  | nil => intro _ ⟨w, hw⟩; simp at hw
  | cons q r ih =>
    intro h hw
    obtain ⟨h1, h2⟩ := List.pairwise_cons.mp h
    simp only [ixL, insL] at hw ⊢
    split at hw
    next hq =>
      rw [if_pos hq, if_pos hq, List.set_cons_succ, ih h2 (by simpa using hw)]
    next hq =>
      obtain ⟨w, hw⟩ := hw
      rw [List.getElem?_cons_zero] at hw
      have hw := Option.some.inj hw
      rw [if_neg hq, if_pos (by rw [hw]), if_neg hq]
      rfl
/-- put in, at its place -/
theorem ins_mid {P : Nat} {v : Int64} : ∀ {xs : List (Nat × Int64)}, (¬ ∃ w, xs[ixL P xs]? = some (P, w)) → insL P v xs = xs.take (ixL P xs) ++ (P, v) :: xs.drop (ixL P xs) := by
  intro xs
  induction xs with
  | nil => intro _; rfl
  | cons q r ih =>
    intro hw
    simp only [ixL, insL] at hw ⊢
    split
    next hq =>
      rw [if_pos hq] at hw
      simp only [List.take_succ_cons, List.drop_succ_cons, List.cons_append]
      rw [ih (by simpa using hw)]
    next hq =>
      rw [if_neg hq] at hw
      rw [if_neg (fun e => hw ⟨q.2, by rw [← e]; rfl⟩)]
      rfl
theorem delL_ix {P : Nat} : ∀ {xs : List (Nat × Int64)}, srt xs → (∃ w, xs[ixL P xs]? = some (P, w)) → delL P xs = xs.take (ixL P xs) ++ xs.drop (ixL P xs + 1) := by
  intro xs
  induction xs with
  | nil => intro _ ⟨w, hw⟩; simp at hw
  | cons q r ih =>
    intro h hw
    obtain ⟨h1, h2⟩ := List.pairwise_cons.mp h
    simp only [ixL] at hw ⊢
    split at hw
    next hq =>
      rw [if_pos hq]
      simp only [List.take_succ_cons, List.drop_succ_cons, List.cons_append]
      rw [← ih h2 (by simpa using hw)]
      simp [delL, show ¬ q.1 = P by omega]
    next hq =>
      obtain ⟨w, hw⟩ := hw
      rw [List.getElem?_cons_zero] at hw
      have hw := Option.some.inj hw
      rw [if_neg hq]
      have e1 : delL P r = r := delL_no fun z hz e9 => by
        have := h1 z hz
        rw [hw] at this
        simp only at this
        omega
      simp only [List.take_zero, List.nil_append, Nat.zero_add, List.drop_succ_cons, List.drop_zero]
      rw [show delL P (q :: r) = delL P r by simp [delL, hw]]
      exact e1
theorem ins_len1 {P : Nat} {v : Int64} {xs : List (Nat × Int64)} (h : srt xs) (hw : ∃ w, xs[ixL P xs]? = some (P, w)) : (insL P v xs).length = xs.length := by rw [ins_set h hw, List.length_set]
theorem ins_len2 {P : Nat} {v : Int64} {xs : List (Nat × Int64)} (hw : ¬ ∃ w, xs[ixL P xs]? = some (P, w)) : (insL P v xs).length = xs.length + 1 := by
  have := ix_le P xs
  rw [ins_mid hw]
  simp
  omega
