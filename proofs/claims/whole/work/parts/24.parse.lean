/-! ===== lN n to 2^64: shifts, and, or, masks, one bit ===== -/
theorem wb_tb (n : Nat) : (lN n).toBitVec = BitVec.ofNat 64 n := rfl
theorem wb_inj {a b : Int64} (h : a.toBitVec = b.toBitVec) : a = b := Int64.toBitVec_inj.mp h
theorem wb_tn {n : Nat} (h : n < 2 ^ 64) : (lN n).toBitVec.toNat = n := by rw [wb_tb, BitVec.toNat_ofNat, Nat.mod_eq_of_lt h]
theorem wb_of (x : Int64) : ∃ n, n < 2 ^ 64 ∧ x = lN n := ⟨x.toBitVec.toNat, x.toBitVec.isLt, wb_inj (by rw [wb_tb]; simp)⟩
theorem wb_of32 (x : Int32) : ∃ n, n < 2 ^ 32 ∧ x = nI n := ⟨x.toBitVec.toNat, x.toBitVec.isLt, Int32.toBitVec_inj.mp (by show _ = BitVec.ofNat 32 _; simp)⟩
theorem wb_c : ∀ k, k < 64 → ((nI k).toInt64 &&& 63) = lN k := by decide +kernel
theorem wb_cu : ∀ k, k < 64 → ((nI k).toInt64.toUInt64 &&& Int64.toUInt64 63) = UInt64.ofNat k := by decide +kernel
theorem wb_sm : ∀ k, k < 64 → (BitVec.ofNat 64 k).smod 64 = BitVec.ofNat 64 k := by decide +kernel
theorem wb_pw {a b : Nat} (h : a ≤ b) : 2 ^ b = 2 ^ a * 2 ^ (b - a) := by rw [← Nat.pow_add]; congr 1; omega
theorem wb_lt2 {a b : Nat} (h : a < b) : 2 ^ a < 2 ^ b := Nat.pow_lt_pow_right (by decide) h
theorem wb_mod (n : Nat) : lN n = lN (n % 2 ^ 64) := wb_inj (by rw [wb_tb, wb_tb]; apply BitVec.eq_of_toNat_eq; rw [BitVec.toNat_ofNat, BitVec.toNat_ofNat, Nat.mod_mod])
theorem wb_shr {n k : Nat} (hn : n < 2 ^ 64) (hk : k < 64) : ((lN n).toUInt64 >>> ((nI k).toInt64.toUInt64 &&& Int64.toUInt64 63)).toInt64 = lN (n / 2 ^ k) := by
  rw [wb_cu k hk]
  apply wb_inj
  apply BitVec.eq_of_toNat_eq
  show ((lN n).toUInt64 >>> UInt64.ofNat k).toNat = (BitVec.ofNat 64 _).toNat
  have h1 : (UInt64.ofNat k).toNat = k := by
    show (BitVec.ofNat 64 k).toNat = k
    rw [BitVec.toNat_ofNat, Nat.mod_eq_of_lt (by omega)]
  have h2 : (lN n).toUInt64.toNat = n := wb_tn hn
  rw [UInt64.toNat_shiftRight, h1, h2, Nat.mod_eq_of_lt hk, Nat.shiftRight_eq_div_pow, BitVec.toNat_ofNat, Nat.mod_eq_of_lt (Nat.lt_of_le_of_lt (Nat.div_le_self _ _) hn)]
theorem wb_shl (n : Nat) {k : Nat} (hk : k < 64) : lN n <<< ((nI k).toInt64 &&& 63) = lN (n * 2 ^ k) := by
  rw [wb_c k hk]
  apply wb_inj
  rw [Int64.toBitVec_shiftLeft, wb_tb, wb_tb, wb_tb, wb_sm k hk]
  apply BitVec.eq_of_toNat_eq
  rw [BitVec.shiftLeft_eq', BitVec.toNat_shiftLeft, BitVec.toNat_ofNat, BitVec.toNat_ofNat, BitVec.toNat_ofNat, Nat.mod_eq_of_lt (show k < 2 ^ 64 by omega), Nat.shiftLeft_eq, Nat.mul_mod, Nat.mod_mod, ← Nat.mul_mod]
theorem wb_and {a b : Nat} (ha : a < 2 ^ 64) (hb : b < 2 ^ 64) : lN a &&& lN b = lN (a &&& b) := by
  apply wb_inj
  rw [Int64.toBitVec_and, wb_tb, wb_tb, wb_tb]
  apply BitVec.eq_of_toNat_eq
  rw [BitVec.toNat_and, BitVec.toNat_ofNat, BitVec.toNat_ofNat, BitVec.toNat_ofNat, Nat.mod_eq_of_lt ha, Nat.mod_eq_of_lt hb, Nat.mod_eq_of_lt (Nat.and_lt_two_pow _ hb)]
theorem wb_or {a b : Nat} (ha : a < 2 ^ 64) (hb : b < 2 ^ 64) : lN a ||| lN b = lN (a ||| b) := by
  apply wb_inj
  rw [Int64.toBitVec_or, wb_tb, wb_tb, wb_tb]
  apply BitVec.eq_of_toNat_eq
  rw [BitVec.toNat_or, BitVec.toNat_ofNat, BitVec.toNat_ofNat, BitVec.toNat_ofNat, Nat.mod_eq_of_lt ha, Nat.mod_eq_of_lt hb, Nat.mod_eq_of_lt (Nat.or_lt_two_pow ha hb)]
theorem wb_mask {n k : Nat} (hn : n < 2 ^ 64) (hk : k < 64) : lN n &&& lN (2 ^ k - 1) = lN (n % 2 ^ k) := by
  rw [wb_and hn (by have := wb_lt2 hk; omega), Nat.and_two_pow_sub_one_eq_mod]
theorem wb_a1 {n : Nat} (hn : n < 2 ^ 64) : lN n &&& 1 = lN (n % 2) := wb_mask (k := 1) hn (by decide)
theorem wb_bit {n k : Nat} (hn : n < 2 ^ 64) (hk : k < 64) : ((lN n).toUInt64 >>> ((nI k).toInt64.toUInt64 &&& Int64.toUInt64 63)).toInt64 &&& 1 = lN (n / 2 ^ k % 2) := by
  rw [wb_shr hn hk, wb_a1 (Nat.lt_of_le_of_lt (Nat.div_le_self _ _) hn)]
theorem wb_xor {q k : Nat} (hk : k < 63) (h : 2 ^ k ≤ q) (h2 : q < 2 ^ (k + 1)) : lN q ^^^ lN (2 ^ k) = lN (q - 2 ^ k) := by
  obtain ⟨r, rfl⟩ : ∃ r, q = 2 ^ k + r := ⟨q - 2 ^ k, by omega⟩
  have hr : r < 2 ^ k := by rw [Nat.pow_succ] at h2; omega
  have hx : (2 ^ k + r) ^^^ 2 ^ k = r := by
    apply Nat.eq_of_testBit_eq
    intro i
    rw [Nat.testBit_xor, Nat.testBit_two_pow]
    rcases Nat.lt_trichotomy i k with h | h | h
    · rw [Nat.testBit_two_pow_add_gt h]
      simp [show ¬ k = i by omega]
    · subst h
      rw [Nat.testBit_two_pow_add_eq]
      simp
    · have a1 : 2 ^ (k + 1) ≤ 2 ^ i := Nat.pow_le_pow_right (by decide) h
      rw [Nat.testBit_lt_two_pow (show 2 ^ k + r < 2 ^ i by omega), Nat.testBit_lt_two_pow (show r < 2 ^ i by omega)]
      simp [show ¬ k = i by omega]
  have b1 := wb_lt2 (show k + 1 < 64 by omega)
  have b2 := wb_lt2 (show k < 64 by omega)
  apply wb_inj
  rw [Int64.toBitVec_xor, wb_tb, wb_tb, wb_tb]
  apply BitVec.eq_of_toNat_eq
  rw [BitVec.toNat_xor, BitVec.toNat_ofNat, BitVec.toNat_ofNat, BitVec.toNat_ofNat, Nat.mod_eq_of_lt (by omega : 2 ^ k + r < 2 ^ 64), Nat.mod_eq_of_lt b2, hx, Nat.add_sub_cancel_left, Nat.mod_eq_of_lt (by omega)]
/-! ===== lN: masks, 'or' of parts that don't overlap is a sum ===== -/
theorem u_tn {n : Nat} (h : n < 2 ^ 64) : (UInt64.ofNat n).toNat = n := Nat.mod_eq_of_lt h
theorem g_and {a b c : Nat} (ha : a < 2 ^ 64) (hb : b < 2 ^ 64) (hc : a &&& b = c) : lN a &&& lN b = lN c := by
  subst hc
  have h : UInt64.ofNat a &&& UInt64.ofNat b = UInt64.ofNat (a &&& b) := UInt64.toNat_inj.mp (by rw [UInt64.toNat_and, u_tn ha, u_tn hb, u_tn (Nat.and_lt_two_pow a hb)])
  have h2 := congrArg UInt64.toInt64 h
  exact h2
theorem g_and1 {a : Nat} (ha : a < 2 ^ 64) : lN a &&& 1 = lN (a % 2) := g_and (b := 1) ha (by decide) (Nat.and_two_pow_sub_one_eq_mod a 1)
theorem g_mask {a s p : Nat} (hp : 2 ^ s = p) (hs : s < 64) (ha : a < 2 ^ 64) : lN a &&& lN (p - 1) = lN (a % p) := by
  subst hp
  have := Nat.pow_lt_pow_right (show 1 < 2 by decide) hs
  exact g_and ha (by omega) (Nat.and_two_pow_sub_one_eq_mod a s)
theorem g_or {k p a b : Nat} (hp : 2 ^ k = p) (ha : a < p) (h : b * p + a < 2 ^ 64) : lN (b * p) ||| lN a = lN (b * p + a) := by
  subst hp
  have h1 : b * 2 ^ k ||| a = b * 2 ^ k + a := by rw [← Nat.shiftLeft_eq, Nat.shiftLeft_add_eq_or_of_lt ha]
  have h3 : UInt64.ofNat (b * 2 ^ k) ||| UInt64.ofNat a = UInt64.ofNat (b * 2 ^ k + a) := UInt64.toNat_inj.mp (by rw [UInt64.toNat_or, u_tn (by omega), u_tn (by omega), u_tn h, h1])
  have h2 := congrArg UInt64.toInt64 h3
  exact h2
theorem g_or' {k p a b : Nat} (hp : 2 ^ k = p) (ha : a < p) (h : a + b * p < 2 ^ 64) : lN a ||| lN (b * p) = lN (a + b * p) := by
  rw [Int64.or_comm, g_or hp ha (by omega), Nat.add_comm]
theorem g_ushr {a k p : Nat} {y : UInt64} (hy : y = UInt64.ofNat k) (hk : k < 64) (hp : 2 ^ k = p) (ha : a < 2 ^ 64) : ((lN a).toUInt64 >>> y).toInt64 = lN (a / p) := by
  subst hy hp
  have h : UInt64.ofNat a >>> UInt64.ofNat k = UInt64.ofNat (a / 2 ^ k) := UInt64.toNat_inj.mp (by rw [UInt64.toNat_shiftRight, u_tn ha, u_tn (by omega), u_tn (Nat.lt_of_le_of_lt (Nat.div_le_self _ _) ha), Nat.mod_eq_of_lt hk, Nat.shiftRight_eq_div_pow])
  have h2 := congrArg UInt64.toInt64 h
  exact h2
theorem g_shl {a k p : Nat} {y : Int64} (hy : y.toBitVec.smod 64 = BitVec.ofNat 64 k) (hk : k < 64) (hp : 2 ^ k = p) (ha : a < 2 ^ 64) : lN a <<< y = lN (a * p) := by
  subst hp
  apply Int64.toBitVec_inj.mp
  rw [Int64.toBitVec_shiftLeft, hy]
  apply BitVec.eq_of_toNat_eq
  have hb : (lN a).toBitVec.toNat = a := Nat.mod_eq_of_lt ha
  have hk' : (BitVec.ofNat 64 k).toNat = k := Nat.mod_eq_of_lt (by omega)
  have h : ((lN a).toBitVec <<< BitVec.ofNat 64 k).toNat = (a * 2 ^ k) % 2 ^ 64 := by simp only [BitVec.shiftLeft_eq', BitVec.toNat_shiftLeft, hb, hk', Nat.shiftLeft_eq]
  exact h
/-! octets as numbers; what a row of octets is, read as a node -/
def ocOk (S : List Int32) : Prop := ∀ x ∈ S, ∃ o : Nat, o < 256 ∧ x = nI o
def oc (S : List Int32) (j : Nat) : Nat := ((S[j]?).getD 0).toNatClampNeg
theorem oc_at {S : List Int32} (h : ocOk S) {j : Nat} (hj : j < S.length) : S[j]? = some (nI (oc S j)) ∧ oc S j < 256 := by
  obtain ⟨o, h1, h2⟩ := h S[j] (List.getElem_mem hj)
  have h3 : S[j]? = some S[j] := List.getElem?_eq_getElem hj
  have h4 : oc S j = o := by
    unfold oc
    rw [h3, h2]
    exact nI_clamp (by omega)
  exact ⟨by rw [h3, h4, h2], by omega⟩
/-- a number of n octets from place i on -/
def nmF (S : List Int32) : Nat → Nat → Int64 → Int64
  | 0, _, a => a
  | n + 1, i, a => nmF S n (i + 1) ((a <<< ((8 : Int32).toInt64 &&& 63)) ||| (((S[i]?).getD 0).toInt64))
theorem nm_step {a o : Nat} (ho : o < 256) (ha : a < 2 ^ 40) : (lN a <<< ((8 : Int32).toInt64 &&& 63)) ||| (nI o).toInt64 = lN (a * 256 + o) := by
  rw [show (8 : Int32) = nI 8 from rfl, wb_shl a (by decide), nI_l (by omega)]
  exact g_or (k := 8) (p := 2 ^ 8) (a := o) (b := a) rfl (by omega) (by omega)
theorem nm1 {S : List Int32} (h : ocOk S) {i : Nat} (hi : i < S.length) : (nmF S 1 i 0).toInt32 = nI (oc S i) := by
  obtain ⟨h1, h2⟩ := oc_at h hi
  simp only [nmF]
  rw [h1]
  show ((0 : Int64) <<< _ ||| (nI (oc S i)).toInt64).toInt32 = _
  rw [show (0 : Int64) = lN 0 from rfl, nm_step h2 (by decide), lN_i, Nat.zero_mul, Nat.zero_add]
theorem nm2 {S : List Int32} (h : ocOk S) {i : Nat} (hi : i + 1 < S.length) : (nmF S 2 i 0).toInt32 = nI (oc S i * 256 + oc S (i + 1)) := by
  obtain ⟨h1, h2⟩ := oc_at h (show i < S.length by omega)
  obtain ⟨h3, h4⟩ := oc_at h hi
  simp only [nmF]
  rw [h1, h3]
  show (((0 : Int64) <<< _ ||| (nI (oc S i)).toInt64) <<< _ ||| (nI (oc S (i + 1))).toInt64).toInt32 = _
  rw [show (0 : Int64) = lN 0 from rfl, nm_step h2 (by decide), Nat.zero_mul, Nat.zero_add, nm_step h4 (Nat.lt_trans h2 (by decide)), lN_i]
abbrev PR : Type := (Nat × Nat) ⊕ (Term × Nat)
/-- a fork, its first octet at i; rc reads a node below -/
def prK (S : List Int32) (rc : Nat → Nat → Nat → PR) (go : Bool) (i f t : Nat) : PR :=
  if S.length < i + 2 then .inl (1, S.length) else
  if 16 ≤ oc S (i + 1) then .inl (3, i + 1) else
  if S.length < i + 4 then .inl (1, S.length) else
  if stm (oc S (i + 2) * 256 + oc S (i + 3)) (oc S (i + 1)) = oc S (i + 2) * 256 + oc S (i + 3) ∧ f ≤ oc S (i + 2) * 256 + oc S (i + 3) ∧ oc S (i + 2) * 256 + oc S (i + 3) + 2 ^ (16 - oc S (i + 1)) - 1 ≤ t ∧ go = true then
    match rc (i + 4) (oc S (i + 2) * 256 + oc S (i + 3)) (oc S (i + 2) * 256 + oc S (i + 3) + 2 ^ (15 - oc S (i + 1)) - 1) with
    | .inl z => .inl z
    | .inr (x, i1) => match rc i1 (oc S (i + 2) * 256 + oc S (i + 3) + 2 ^ (15 - oc S (i + 1))) (oc S (i + 2) * 256 + oc S (i + 3) + 2 ^ (16 - oc S (i + 1)) - 1) with
      | .inl z => .inl z
      | .inr (y, i2) => .inr (tF 0 (oc S (i + 1)) (oc S (i + 2) * 256 + oc S (i + 3)) x y, i2)
  else .inl (4, i + 2)
/-- a leaf, its first octet at i -/
def prL (S : List Int32) (i f t : Nat) : PR :=
  if S.length < i + 3 then .inl (1, S.length) else
  if f ≤ oc S (i + 1) * 256 + oc S (i + 2) ∧ oc S (i + 1) * 256 + oc S (i + 2) ≤ t then
    if S.length < i + 11 then .inl (1, S.length) else .inr (tL 0 (oc S (i + 1) * 256 + oc S (i + 2)) (nmF S 8 (i + 3) 0), i + 11)
  else .inl (5, i + 1)
def prN (S : List Int32) (i f t : Nat) (w : Bool) (fk : PR) : PR :=
  if S.length ≤ i then .inl (1, S.length) else
  if oc S i = 0 then (if S.length < i + 9 then .inl (1, S.length) else .inr (tH 0 (nmF S 8 (i + 1) 0), i + 9)) else
  if oc S i = 1 then fk else
  if oc S i = 2 then prL S i f t else
  if oc S i = 3 ∧ w = true then .inr (tE 0, i + 1) else .inl (2, i)
/-- a node whose place is f .. t, from place i of the row on; g forks deep at most -/
def prs (S : List Int32) : Nat → Nat → Nat → Nat → Bool → PR
  | 0, i, f, t, w => prN S i f t w (prK S (fun _ _ _ => .inl (0, 0)) false i f t)
  | g + 1, i, f, t, w => prN S i f t w (prK S (fun i' f' t' => prs S g i' f' t' false) true i f t)
/-- how many octets were used, at most -/
def usd (S : List Int32) (r : PR) (i : Nat) : Nat := match r with
  | .inl _ => S.length - i
  | .inr z => z.2 - i
theorem prL_r {S : List Int32} {i f t i1 : Nat} {U : Term} (h : prL S i f t = .inr (U, i1)) : i < i1 ∧ i1 ≤ S.length := by
  unfold prL at h
  split at h
  · cases h
  · split at h
    · split at h
      · cases h
      · cases h; omega
    · cases h
theorem prK_r {S : List Int32} {rc : Nat → Nat → Nat → PR} (hrc : ∀ i f t U i1, rc i f t = .inr (U, i1) → i < i1 ∧ i1 ≤ S.length) {go : Bool} {i f t i1 : Nat} {U : Term} (h : prK S rc go i f t = .inr (U, i1)) : i + 4 < i1 ∧ i1 ≤ S.length := by
  unfold prK at h
  split at h
  · cases h
  · split at h
    · cases h
    · split at h
      · cases h
      · split at h
        · split at h
          · cases h
          next x j1 e1 =>
            split at h
            · cases h
            next y j2 e2 =>
              cases h
              have a1 := hrc _ _ _ _ _ e1
              have a2 := hrc _ _ _ _ _ e2
              omega
        · cases h
theorem prN_r {S : List Int32} {i f t i1 : Nat} {w : Bool} {fk : PR} {U : Term} (hf : ∀ U i1, fk = .inr (U, i1) → i < i1 ∧ i1 ≤ S.length) (h : prN S i f t w fk = .inr (U, i1)) : i < i1 ∧ i1 ≤ S.length := by
  unfold prN at h
  split at h
  · cases h
  · split at h
    · split at h
      · cases h
      · cases h; omega
    · split at h
      · exact hf _ _ h
      · split at h
        · exact prL_r h
        · split at h
          · cases h; omega
          · cases h
theorem prs_r {S : List Int32} : ∀ (g i f t : Nat) (w : Bool) (U : Term) (i1 : Nat), prs S g i f t w = .inr (U, i1) → i < i1 ∧ i1 ≤ S.length := by
  intro g
  induction g with
  | zero =>
    intro i f t w U i1 h
    refine prN_r (fun U i1 h2 => ?_) h
    have := prK_r (fun i f t U i1 h9 => by cases h9) h2
    omega
  | succ g ih =>
    intro i f t w U i1 h
    refine prN_r (fun U i1 h2 => ?_) h
    have := prK_r (fun i f t U i1 h9 => ih i f t false U i1 h9) h2
    omega
