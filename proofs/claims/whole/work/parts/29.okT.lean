/-! trees that are well made: every node in its place; F, k: the paths p with p / 2^k = F -/
def okT : Term → Nat → Nat → Prop
  | .add (.arg _) (.long _), _, _ => True
  | .add (.arg _) (.elem (.arg P) (.long _)), F, k => P / 2 ^ k = F
  | .add (.arg _) (.sub (.elem (.arg B) (.arg S)) (.mul x y)), F, k => (B ≤ 15 ∧ 16 ≤ k + B ∧ S / 2 ^ k = F ∧ stm S B = S) ∧ okT x (S / 2 ^ (15 - B)) (15 - B) ∧ okT y (S / 2 ^ (15 - B) + 1) (15 - B)
  | _, _, _ => False
/-- a whole: empty, or well made -/
def okW (T : Term) : Prop := strp T = tE 0 ∨ okT T 0 16
theorem ok_T (T : Term) : ∀ F k : Nat, okT T F k → isT T := by
  induction T using isT.induct with
  | case1 q => intro _ _ _; exact trivial
  | case2 q d => intro _ _ _; exact trivial
  | case3 q p v => intro _ _ _; exact trivial
  | case4 q B S x y i1 i2 => intro F k h; exact ⟨i1 _ _ h.2.1, i2 _ _ h.2.2⟩
  | case5 T h1 h2 h3 h4 => intro F k h; exfalso; unfold okT at h; split at h <;> first | exact h | (simp_all; done) | (exact h4 _ _ _ _ _ rfl)
theorem okF {q B S F k : Nat} {x y : Term} (h : okT (tF q B S x y) F k) : (B ≤ 15 ∧ 16 ≤ k + B ∧ S / 2 ^ k = F ∧ stm S B = S) ∧ okT x (S / 2 ^ (15 - B)) (15 - B) ∧ okT y (S / 2 ^ (15 - B) + 1) (15 - B) := h
theorem strp_ok (T : Term) (h : isT T) : ∀ F k, okT (strp T) F k ↔ okT T F k := by
  refine tr_ind (P := fun T => ∀ F k, okT (strp T) F k ↔ okT T F k) ?_ ?_ ?_ ?_ T h
  · exact fun q F k => Iff.rfl
  · exact fun q d F k => Iff.rfl
  · exact fun q p v F k => Iff.rfl
  · exact fun q B S x y _ _ i1 i2 F k => by simp only [strp, okT, i1, i2]
theorem dv_mul {S k j : Nat} (hj : j ≤ k) : S / 2 ^ k = S / 2 ^ j / 2 ^ (k - j) := by
  rw [Nat.div_div_eq_div_mul, ← Nat.pow_add]; congr 2; omega
theorem dv_up {P Q j k : Nat} (hj : j ≤ k) (h : P / 2 ^ j = Q / 2 ^ j) : P / 2 ^ k = Q / 2 ^ k := by rw [dv_mul hj, dv_mul hj, h]
theorem dv_2 (P j : Nat) : P / 2 ^ (j + 1) = P / 2 ^ j / 2 := by rw [Nat.pow_succ, Nat.div_div_eq_div_mul]
theorem dv_s (c j : Nat) : c * 2 ^ (j + 1) / 2 ^ j = 2 * c := by rw [Nat.pow_succ, Nat.mul_comm (2 ^ j) 2, ← Nat.mul_assoc, Nat.mul_comm c 2, Nat.mul_div_cancel _ (Nat.two_pow_pos j)]
/-- a fork's stem: an even prefix -/
theorem stm_dv {S B : Nat} (hB : B ≤ 15) (h : stm S B = S) : S / 2 ^ (15 - B) = 2 * (S / 2 ^ (16 - B)) := by
  have h1 : S / 2 ^ (16 - B) * 2 ^ (15 - B + 1) / 2 ^ (15 - B) = 2 * (S / 2 ^ (16 - B)) := dv_s _ _
  rw [show 15 - B + 1 = 16 - B by omega] at h1
  rw [← h1]
  congr 1
  exact h.symm
theorem tk_iff {P S B : Nat} (h : stm S B = S) : stm P B = S ↔ P / 2 ^ (16 - B) = S / 2 ^ (16 - B) := by
  have hp := Nat.two_pow_pos (16 - B)
  constructor
  · intro h1
    rw [← h1]
    unfold stm
    rw [Nat.mul_div_cancel _ hp]
  · intro h1
    unfold stm
    rw [h1]
    exact h
theorem way_pl {P S B : Nat} (hB : B ≤ 15) (h : stm S B = S) (ht : stm P B = S) : P / 2 ^ (15 - B) = S / 2 ^ (15 - B) + bitA P B := by
  have h1 := stm_dv hB h
  have h2 := (tk_iff h).mp ht
  have h3 := dv_2 P (15 - B)
  rw [show 15 - B + 1 = 16 - B by omega] at h3
  unfold bitA
  omega
/-- in a place below: in the place of the fork -/
theorem pl_tk {P S B : Nat} (hB : B ≤ 15) (h : stm S B = S) {b : Nat} (hb : b < 2) (hp : P / 2 ^ (15 - B) = S / 2 ^ (15 - B) + b) : stm P B = S ∧ bitA P B = b := by
  have h1 := stm_dv hB h
  have h3 := dv_2 P (15 - B)
  rw [show 15 - B + 1 = 16 - B by omega] at h3
  exact ⟨(tk_iff h).mpr (by omega), by unfold bitA; omega⟩
theorem ok_up (T : Term) (hT : isT T) : ∀ F' k' F k, okT T F' k' → k' ≤ k → F' / 2 ^ (k - k') = F → okT T F k := by
  refine tr_ind (P := fun T => ∀ F' k' F k, okT T F' k' → k' ≤ k → F' / 2 ^ (k - k') = F → okT T F k) ?_ ?_ ?_ ?_ T hT
  · exact fun q F' k' F k h _ _ => h.elim
  · exact fun q d F' k' F k h _ _ => trivial
  · intro q p v F' k' F k h h1 h2
    have h : p / 2 ^ k' = F' := h
    show p / 2 ^ k = F
    rw [dv_mul h1, h, h2]
  · intro q B S x y _ _ _ _ F' k' F k h h1 h2
    obtain ⟨⟨a1, a2, a3, a4⟩, a5, a6⟩ := okF h
    exact ⟨⟨a1, by omega, by rw [dv_mul h1, a3, h2], a4⟩, a5, a6⟩
theorem pl_lt {P F k : Nat} (h : P / 2 ^ k = F) : P < (F + 1) * 2 ^ k ∧ F * 2 ^ k ≤ P := by
  have hp := Nat.two_pow_pos k
  have h1 := Nat.div_add_mod P (2 ^ k)
  have h2 := Nat.mod_lt P hp
  rw [h] at h1
  rw [Nat.add_mul, Nat.mul_comm F]
  omega
theorem pl_of {P F k : Nat} (h1 : F * 2 ^ k ≤ P) (h2 : P < (F + 1) * 2 ^ k) : P / 2 ^ k = F := by
  have hp := Nat.two_pow_pos k
  exact Nat.div_eq_of_lt_le h1 h2
/-- a fork's place lies in the place -/
theorem pl_end {S B F k : Nat} (hB : B ≤ 15) (hk : 16 ≤ k + B) (hS : S / 2 ^ k = F) (h : stm S B = S) : S + 2 ^ (16 - B) ≤ (F + 1) * 2 ^ k := by
  have h1 : S / 2 ^ (16 - B) / 2 ^ (k - (16 - B)) = F := by rw [← dv_mul (by omega)]; exact hS
  have h2 := (pl_lt h1).1
  have h3 : 2 ^ k = 2 ^ (k - (16 - B)) * 2 ^ (16 - B) := by rw [← Nat.pow_add]; congr 1; omega
  have h4 : (S / 2 ^ (16 - B) + 1) * 2 ^ (16 - B) ≤ (F + 1) * 2 ^ (k - (16 - B)) * 2 ^ (16 - B) := Nat.mul_le_mul_right _ h2
  rw [Nat.add_mul, Nat.one_mul, show S / 2 ^ (16 - B) * 2 ^ (16 - B) = S from h, Nat.mul_assoc, ← h3] at h4
  exact h4
theorem pw_s {B : Nat} (hB : B ≤ 15) : 2 ^ (16 - B) = 2 ^ (15 - B) + 2 ^ (15 - B) := by
  rw [show 16 - B = 15 - B + 1 by omega, Nat.pow_succ]; omega
theorem stm_lo {S B : Nat} (hB : B ≤ 15) (h : stm S B = S) : S / 2 ^ (15 - B) * 2 ^ (15 - B) = S := by
  rw [stm_dv hB h]
  rw [Nat.mul_comm 2, Nat.mul_assoc, Nat.two_mul, ← pw_s hB]
  exact h
theorem ok_fit (T : Term) (hT : isT T) : ∀ F k, okT T F k → (F + 1) * 2 ^ k ≤ 65536 → fitT T k := by
  refine tr_ind (P := fun T => ∀ F k, okT T F k → (F + 1) * 2 ^ k ≤ 65536 → fitT T k) ?_ ?_ ?_ ?_ T hT
  · exact fun q F k h _ => trivial
  · exact fun q d F k h _ => trivial
  · intro q p v F k h h1
    exact Nat.lt_of_lt_of_le (pl_lt h).1 h1
  · intro q B S x y _ _ i1 i2 F k h h1
    obtain ⟨⟨a1, a2, a3, a4⟩, a5, a6⟩ := okF h
    have b1 := pl_end a1 a2 a3 a4
    have b2 := pw_s a1
    have b3 := stm_lo a1 a4
    refine ⟨⟨a1, a2, by omega, a4⟩, i1 _ _ a5 ?_, i2 _ _ a6 ?_⟩
    · rw [Nat.add_mul]; omega
    · rw [Nat.add_mul, Nat.add_mul]; omega
theorem okW_fit {T : Term} (hT : isT T) (h : okW T) : fitT T 16 := by
  rcases h with h | h
  · exact (strp_fit T hT 16).mp (by rw [h]; trivial)
  · exact ok_fit T hT 0 16 h (by decide)
theorem okW_strp {T : Term} (hT : isT T) : okW (strp T) ↔ okW T := by
  unfold okW
  rw [strp_ok T hT, strp_strp T hT]
theorem pl_two {P Q i : Nat} (h : P / 2 ^ (i + 1) = Q / 2 ^ (i + 1)) (hne : P / 2 ^ i ≠ Q / 2 ^ i) : (P / 2 ^ i % 2 = 1 → Q / 2 ^ i = P / 2 ^ (i + 1) * 2 ^ (i + 1) / 2 ^ i ∧ P / 2 ^ i = P / 2 ^ (i + 1) * 2 ^ (i + 1) / 2 ^ i + 1) ∧ (¬ P / 2 ^ i % 2 = 1 → P / 2 ^ i = P / 2 ^ (i + 1) * 2 ^ (i + 1) / 2 ^ i ∧ Q / 2 ^ i = P / 2 ^ (i + 1) * 2 ^ (i + 1) / 2 ^ i + 1) := by
  rw [dv_s]
  rw [dv_2, dv_2] at h
  rw [dv_2]
  constructor <;> intro h1 <;> omega
theorem fk_ok {T L : Term} {pn P F k : Nat} (hpn : pn < 65536) (hP : P < 65536) (hne : pn ≠ P) (hF : pn / 2 ^ k = F) (hF2 : P / 2 ^ k = F) (hT : okT T (pn / 2 ^ (15 - fbit pn P)) (15 - fbit pn P)) (hL : ∀ i, okT L (P / 2 ^ i) i) : okT (fkT T pn P L) F k := by
  obtain ⟨h1, h2, h3⟩ := fbit_spec hpn hP hne
  generalize hb : fbit pn P = b at h1 h2 h3 hT
  have hik : 15 - b < k := Nat.not_le.mp fun q => h3 (dv_up q (hF.trans hF2.symm))
  rw [show 16 - b = 15 - b + 1 by omega] at h2
  obtain ⟨c1, c2⟩ := pl_two h2.symm (Ne.symm h3)
  have hst : stm P b / 2 ^ (15 - b) = P / 2 ^ (15 - b + 1) * 2 ^ (15 - b + 1) / 2 ^ (15 - b) := by unfold stm; rw [show 16 - b = 15 - b + 1 by omega]
  have hs1 : stm P b / 2 ^ k = F := by
    rw [← hF2]
    have e1 : 16 - b ≤ k := by omega
    rw [dv_mul e1, dv_mul (S := P) e1]
    unfold stm
    rw [Nat.mul_div_cancel _ (Nat.two_pow_pos _)]
  have hs2 : stm (stm P b) b = stm P b := by
    unfold stm
    rw [Nat.mul_div_cancel _ (Nat.two_pow_pos _)]
  unfold fkT
  rw [hb]
  split
  next hbit =>
    obtain ⟨d1, d2⟩ := c1 hbit
    refine ⟨⟨h1, by omega, hs1, hs2⟩, ?_, ?_⟩
    · rw [hst, ← d1]; exact hT
    · rw [hst, ← d2]; exact hL _
  next hbit =>
    obtain ⟨d1, d2⟩ := c2 hbit
    refine ⟨⟨h1, by omega, hs1, hs2⟩, ?_, ?_⟩
    · rw [hst, ← d1]; exact hL _
    · rw [hst, ← d2]; exact hT
theorem wrt_ok (T : Term) (hT : isT T) {P q0 : Nat} {v : Int64} : ∀ F k, okT T F k → (F + 1) * 2 ^ k ≤ 65536 → P / 2 ^ k = F → okT (wrtT T P (tL q0 P v)) F k := by
  refine tr_ind (P := fun T => ∀ F k, okT T F k → (F + 1) * 2 ^ k ≤ 65536 → P / 2 ^ k = F → okT (wrtT T P (tL q0 P v)) F k) ?_ ?_ ?_ ?_ T hT
  · exact fun q F k h _ _ => h.elim
  · exact fun q d F k _ _ h => h
  · intro q p v0 F k h h1 h2
    have h : p / 2 ^ k = F := h
    simp only [wrtT]
    split
    · exact h2
    next hne => exact fk_ok (Nat.lt_of_lt_of_le (pl_lt h).1 h1) (Nat.lt_of_lt_of_le (pl_lt h2).1 h1) hne h h2 rfl (fun i => rfl)
  · intro q B S x y t1 t2 i1 i2 F k h h1 h2
    obtain ⟨⟨a1, a2, a3, a4⟩, a5, a6⟩ := okF h
    have b1 := pl_end a1 a2 a3 a4
    have b2 := pw_s a1
    have b3 := stm_lo a1 a4
    simp only [wrtT]
    split
    next ht =>
      have hw := way_pl a1 a4 ht
      split
      next hb => exact ⟨⟨a1, a2, a3, a4⟩, a5, i2 _ _ a6 (by rw [Nat.add_mul, Nat.add_mul]; omega) (by omega)⟩
      next hb =>
        have := bitA_lt P B
        exact ⟨⟨a1, a2, a3, a4⟩, i1 _ _ a5 (by rw [Nat.add_mul]; omega) (by omega), a6⟩
    next ht =>
      have hP := Nat.lt_of_lt_of_le (pl_lt h2).1 h1
      have hS := Nat.lt_of_lt_of_le (pl_lt a3).1 h1
      have hne : S ≠ P := fun e => ht (by rw [← e]; exact a4)
      obtain ⟨c1, c2, c3⟩ := fbit_spec hS hP hne
      have hlt : 16 - B ≤ 15 - fbit S P := by
        refine Nat.not_lt.mp fun q9 => ht ((tk_iff a4).mpr (dv_up (show 16 - fbit S P ≤ 16 - B by omega) c2).symm)
      exact fk_ok hS hP hne a3 h2 ⟨⟨a1, by omega, rfl, a4⟩, a5, a6⟩ (fun i => rfl)
theorem wrtW_ok {T : Term} (hT : isT T) {P q0 : Nat} {v : Int64} (hP : P < 65536) (h : okW T) : okW (wrtT T P (tL q0 P v)) := by
  rcases h with h | h
  · refine Or.inr ?_
    rcases shp T hT with ⟨q, rfl⟩ | ⟨q, d, rfl⟩ | ⟨q, p, v, rfl⟩ | ⟨q, B, S, x, y, rfl⟩
    · show P / 2 ^ 16 = 0
      exact p16 hP
    · exact absurd h (by simp [strp])
    · exact absurd h (by simp [strp])
    · exact absurd h (by simp [strp])
  · exact Or.inr (wrt_ok T hT 0 16 h (by decide) (p16 hP))
theorem del_ok (T : Term) (hT : isT T) (P : Nat) : ∀ F k, okT T F k → isF T = true → okT (delT T P) F k := by
  refine tr_ind (P := fun T => ∀ F k, okT T F k → isF T = true → okT (delT T P) F k) ?_ ?_ ?_ ?_ T hT
  · exact fun q F k h _ => h.elim
  · intro q d F k _ h; cases h
  · intro q p v F k _ h; cases h
  · intro q B S x y t1 t2 i1 i2 F k h _
    obtain ⟨⟨a1, a2, a3, a4⟩, a5, a6⟩ := okF h
    have e0 : 15 - B ≤ k := by omega
    have e1 : S / 2 ^ (15 - B) / 2 ^ (k - (15 - B)) = F := by rw [← dv_mul e0]; exact a3
    have e2 : (S / 2 ^ (15 - B) + 1) / 2 ^ (k - (15 - B)) = F := by
      rw [show k - (15 - B) = (k - (16 - B)) + 1 by omega, Nat.pow_succ, Nat.mul_comm, ← Nat.div_div_eq_div_mul] at e1 ⊢
      rw [stm_dv a1 a4] at e1 ⊢
      rw [show (2 * (S / 2 ^ (16 - B)) + 1) / 2 = 2 * (S / 2 ^ (16 - B)) / 2 by omega]
      exact e1
    simp only [delT]
    split
    · split
      next hy => exact ⟨⟨a1, a2, a3, a4⟩, a5, i2 _ _ a6 hy⟩
      · exact ok_up x t1 _ _ _ _ a5 e0 e1
    · split
      next hx => exact ⟨⟨a1, a2, a3, a4⟩, i1 _ _ a5 hx, a6⟩
      · exact ok_up y t2 _ _ _ _ a6 e0 e2
theorem delW_ok {T : Term} (hT : isT T) (P : Nat) (h : okW T) : okW (delT T P) := by
  by_cases hf : isF T = true
  · rcases h with h | h
    · rcases shp T hT with ⟨q, rfl⟩ | ⟨q, d, rfl⟩ | ⟨q, p, v, rfl⟩ | ⟨q, B, S, x, y, rfl⟩
      · cases hf
      · cases hf
      · cases hf
      · exact absurd h (by simp [strp])
    · exact Or.inr (del_ok T hT P 0 16 h hf)
  · refine Or.inl ?_
    rcases shp T hT with ⟨q, rfl⟩ | ⟨q, d, rfl⟩ | ⟨q, p, v, rfl⟩ | ⟨q, B, S, x, y, rfl⟩
    · rfl
    · rfl
    · rfl
    · exact absurd rfl hf
/-! what is read is well made -/
theorem prL_ok {S : List Int32} {i F k i1 : Nat} {U : Term} (h : prL S i (F * 2 ^ k) ((F + 1) * 2 ^ k - 1) = .inr (U, i1)) : okT U F k := by
  have hp := Nat.two_pow_pos k
  unfold prL at h
  split at h
  · cases h
  · split at h
    next hc =>
      split at h
      · cases h
      · cases h
        exact pl_of hc.1 (by rw [Nat.add_mul] at *; omega)
    · cases h
set_option maxRecDepth 100000 in
theorem prK_ok {S : List Int32} {rc : Nat → Nat → Nat → PR} {go : Bool} {i F k i1 : Nat} {U : Term} (hrc : ∀ i F k U i1, rc i (F * 2 ^ k) ((F + 1) * 2 ^ k - 1) = .inr (U, i1) → okT U F k) (h : prK S rc go i (F * 2 ^ k) ((F + 1) * 2 ^ k - 1) = .inr (U, i1)) : okT U F k := by
  have hp := Nat.two_pow_pos k
  unfold prK at h
  split at h
  · cases h
  · split at h
    · cases h
    next hB =>
      have hB : oc S (i + 1) ≤ 15 := by omega
      split at h
      · cases h
      · split at h
        next hc =>
          obtain ⟨c1, c2, c3, c4⟩ := hc
          generalize oc S (i + 2) * 256 + oc S (i + 3) = T0 at h c1 c2 c3
          generalize oc S (i + 1) = B at h c1 c2 c3 hB
          have b2 := pw_s hB
          have b3 := stm_lo hB c1
          have hq := Nat.two_pow_pos (15 - B)
          have c5 : T0 + 2 ^ (16 - B) ≤ (F + 1) * 2 ^ k := by
            have : 2 ^ k ≤ (F + 1) * 2 ^ k := Nat.le_mul_of_pos_left _ (by omega)
            omega
          have hk : 16 ≤ k + B := by
            have e1 : 2 ^ (16 - B) ≤ 2 ^ k := by
              rw [Nat.add_mul] at c5; omega
            have := (Nat.pow_le_pow_iff_right (show 1 < 2 by decide)).mp e1
            omega
          have hF : T0 / 2 ^ k = F := pl_of c2 (by omega)
          split at h
          · cases h
          next x j1 e1 =>
            split at h
            · cases h
            next y j2 e2 =>
              cases h
              refine ⟨⟨hB, hk, hF, c1⟩, hrc (i + 4) _ _ x j1 ?_, hrc j1 _ _ y i1 ?_⟩
              · rw [Nat.add_mul, b3, Nat.one_mul]; exact e1
              · simp only [Nat.add_mul, b3, Nat.one_mul]; rw [show T0 + 2 ^ (15 - B) + 2 ^ (15 - B) - 1 = T0 + 2 ^ (16 - B) - 1 by omega]; exact e2
        · cases h
theorem prN_ok {S : List Int32} {i F k i1 : Nat} {w : Bool} {fk : PR} {U : Term} (hf : ∀ U i1, fk = .inr (U, i1) → okT U F k) (h : prN S i (F * 2 ^ k) ((F + 1) * 2 ^ k - 1) w fk = .inr (U, i1)) : okT U F k ∨ (w = true ∧ U = tE 0) := by
  unfold prN at h
  split at h
  · cases h
  · split at h
    · split at h
      · cases h
      · cases h; exact Or.inl trivial
    · split at h
      · exact Or.inl (hf _ _ h)
      · split at h
        · exact Or.inl (prL_ok h)
        · split at h
          next hc => cases h; exact Or.inr ⟨hc.2, rfl⟩
          · cases h
theorem prs_ok {S : List Int32} : ∀ (g i F k : Nat) (w : Bool) (U : Term) (i1 : Nat), prs S g i (F * 2 ^ k) ((F + 1) * 2 ^ k - 1) w = .inr (U, i1) → okT U F k ∨ (w = true ∧ U = tE 0) := by
  intro g
  induction g with
  | zero =>
    intro i F k w U i1 h
    exact prN_ok (fun U i1 h2 => prK_ok (fun _ _ _ _ _ h9 => by cases h9) h2) h
  | succ g ih =>
    intro i F k w U i1 h
    refine prN_ok (fun U i1 h2 => prK_ok (fun i F k U i1 h9 => ?_) h2) h
    rcases ih i F k false U i1 h9 with h3 | h3
    · exact h3
    · cases h3.1
theorem prs_W {S : List Int32} {U : Term} {i1 : Nat} (h : prs S 16 0 0 65535 true = .inr (U, i1)) : okW U := by
  rcases prs_ok 16 0 0 16 true U i1 (by simpa using h) with h1 | h1
  · exact Or.inr h1
  · exact Or.inl (by rw [h1.2]; rfl)
