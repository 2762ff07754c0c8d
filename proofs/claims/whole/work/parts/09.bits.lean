/-! numbers: shifts of paths, stems, the first bit in which two paths differ -/
abbrev rK (k c s : Nat) : Room := { frames := k, cells := c, slots := s, locals := 40 * k }
theorem sm_l : ∀ k, k < 32 → ((nI k &&& 31).toBitVec.smod 32).toNat = k := by decide +kernel
theorem sm_u : ∀ k, k < 32 → (((nI k).toUInt32 &&& Int32.toUInt32 31).toBitVec % 32).toNat = k := by decide +kernel
theorem c15 {B : Nat} (h : B ≤ 15) : (15 : Int32) - nI B = nI (15 - B) := by
  rw [show (15 : Int32) = nI 15 by decide]; exact pk_sub h
theorem c16 {B : Nat} (h : B ≤ 16) : (16 : Int32) - nI B = nI (16 - B) := by
  rw [show (16 : Int32) = nI 16 by decide]; exact pk_sub h
/-- bit B of the path P, 0 or 1 -/
def bitA (P B : Nat) : Nat := P / 2 ^ (15 - B) % 2
theorem bit_u {P B : Nat} (hP : P < 65536) (hB : B ≤ 15) : ((nI P).toUInt32 >>> (((15 : Int32) - nI B).toUInt32 &&& Int32.toUInt32 31)).toInt32 &&& 1 = nI (bitA P B) := by
  rw [c15 hB, pk_ushrN (by omega) _ (15 - B) (sm_u _ (by omega))]
  have h1 : P / 2 ^ (15 - B) ≤ P := Nat.div_le_self _ _
  exact pk_andN (by omega) 1 (by decide)
theorem bit_s {P B : Nat} (hP : P < 65536) (hB : B ≤ 15) : (nI P >>> (((15 : Int32) - nI B) &&& 31)) &&& 1 = nI (bitA P B) := by
  rw [c15 hB, pk_shrN (by omega) _ (15 - B) (sm_l _ (by omega))]
  have h1 : P / 2 ^ (15 - B) ≤ P := Nat.div_le_self _ _
  exact pk_andN (by omega) 1 (by decide)
/-- the path with 0 from bit B on -/
def stm (P B : Nat) : Nat := P / 2 ^ (16 - B) * 2 ^ (16 - B)
theorem stm_le (P B : Nat) : stm P B ≤ P := Nat.div_mul_le_self _ _
theorem stm_u {P B : Nat} (hP : P < 65536) (hB : B ≤ 16) : ((nI P).toUInt32 >>> (((16 : Int32) - nI B).toUInt32 &&& Int32.toUInt32 31)).toInt32 <<< (((16 : Int32) - nI B) &&& 31) = nI (stm P B) := by
  rw [c16 hB, pk_ushrN (by omega) _ (16 - B) (sm_u _ (by omega))]
  have h1 := stm_le P B
  exact pk_shlN _ (16 - B) (sm_l _ (by omega)) (by unfold stm at h1; omega)
theorem stm_s {P B : Nat} (hP : P < 65536) (hB : B ≤ 16) : (nI P >>> (((16 : Int32) - nI B) &&& 31)) <<< (((16 : Int32) - nI B) &&& 31) = nI (stm P B) := by
  rw [c16 hB, pk_shrN (by omega) _ (16 - B) (sm_l _ (by omega))]
  have h1 := stm_le P B
  exact pk_shlN _ (16 - B) (sm_l _ (by omega)) (by unfold stm at h1; omega)
theorem one_shl15 {B : Nat} (hB : B ≤ 15) : (1 : Int32) <<< (((15 : Int32) - nI B) &&& 31) = nI (2 ^ (15 - B)) := by
  have h1 : 2 ^ (15 - B) ≤ 2 ^ 15 := Nat.pow_le_pow_right (by decide) (by omega)
  have h2 := pk_shlN (n := 1) (((15 : Int32) - nI B) &&& 31) (15 - B) (by rw [c15 hB]; exact sm_l _ (by omega)) (by omega)
  rw [Nat.one_mul] at h2
  exact h2
theorem one_shl16 {B : Nat} (hB : B ≤ 16) : (1 : Int32) <<< (((16 : Int32) - nI B) &&& 31) = nI (2 ^ (16 - B)) := by
  have h1 : 2 ^ (16 - B) ≤ 2 ^ 16 := Nat.pow_le_pow_right (by decide) (by omega)
  have h2 := pk_shlN (n := 1) (((16 : Int32) - nI B) &&& 31) (16 - B) (by rw [c16 hB]; exact sm_l _ (by omega)) (by omega)
  rw [Nat.one_mul] at h2
  exact h2
/-- the first bit in which two paths differ; 16: in none -/
def fbg (P Q : Nat) : Nat → Nat
  | 0 => 16
  | k + 1 => if P / 2 ^ k = Q / 2 ^ k then fbg P Q k else 15 - k
def fbit (P Q : Nat) : Nat := fbg P Q 16
theorem bit_split {P Q k : Nat} (h : P / 2 ^ (k + 1) = Q / 2 ^ (k + 1)) : P / 2 ^ k = Q / 2 ^ k ↔ P / 2 ^ k % 2 = Q / 2 ^ k % 2 := by
  rw [Nat.pow_succ, ← Nat.div_div_eq_div_mul, ← Nat.div_div_eq_div_mul] at h
  constructor
  · intro h1; rw [h1]
  · intro h1; omega
theorem fbg_spec (P Q : Nat) (hne : P ≠ Q) : ∀ k, k ≤ 16 → P / 2 ^ k = Q / 2 ^ k → ∃ B, fbg P Q k = B ∧ B ≤ 15 ∧ 16 ≤ B + k ∧ P / 2 ^ (16 - B) = Q / 2 ^ (16 - B) ∧ P / 2 ^ (15 - B) ≠ Q / 2 ^ (15 - B) := by
  intro k
  induction k with
  | zero => intro _ h; simp at h; exact absurd h hne
  | succ k ih =>
    intro hk h
    unfold fbg
    split
    next h1 =>
      obtain ⟨B, e1, e2, e3, e4⟩ := ih (by omega) h1
      exact ⟨B, e1, e2, by omega, e4⟩
    next h1 =>
      refine ⟨15 - k, rfl, by omega, by omega, ?_, ?_⟩
      · rw [show 16 - (15 - k) = k + 1 by omega]; exact h
      · rw [show 15 - (15 - k) = k by omega]; exact h1
theorem p16 {P : Nat} (h : P < 65536) : P / 2 ^ 16 = 0 := Nat.div_eq_of_lt h
theorem fbit_spec {P Q : Nat} (hP : P < 65536) (hQ : Q < 65536) (hne : P ≠ Q) : fbit P Q ≤ 15 ∧ P / 2 ^ (16 - fbit P Q) = Q / 2 ^ (16 - fbit P Q) ∧ P / 2 ^ (15 - fbit P Q) ≠ Q / 2 ^ (15 - fbit P Q) := by
  obtain ⟨B, e1, e2, -, e3, e4⟩ := fbg_spec P Q hne 16 (by decide) (by rw [p16 hP, p16 hQ])
  unfold fbit
  rw [e1]
  exact ⟨e2, e3, e4⟩
