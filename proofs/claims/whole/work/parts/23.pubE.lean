/-! public methods of the class: put, remove, write, erase -/
theorem wr_fit {T T1 : Term} {P q1 : Nat} {v : Int64} (hT : isT T) (h1 : isT T1) (hK : strp T1 = strp (wrtT T P (tL q1 P v))) (hw : fitT (wrtT (strp T) P (tL 0 P v)) 16) : fitT T1 16 ∧ strp T1 = strp (wrtT (strp T) P (tL 0 P v)) := by
  have e1 : strp T1 = strp (wrtT (strp T) P (tL 0 P v)) := by rw [hK, wrt_strp T hT P (tL q1 P v) trivial]; rfl
  refine ⟨(strp_fit T1 h1 16).mp ?_, e1⟩
  rw [e1]
  exact (strp_fit _ (fit_T _ _ hw) 16).mpr hw
theorem wr_cnt {T1 U : Term} (h1 : isT T1) (hU : isT U) (e1 : strp T1 = strp U) (a b : Nat) : cntT T1 a b = cntT U a b := by rw [← strp_cnt T1 h1, e1, strp_cnt U hU]
theorem wr_nod {T1 U : Term} (h1 : isT T1) (hU : isT U) (e1 : strp T1 = strp U) : nodT T1 = nodT U := by rw [← strp_nod T1 h1, e1, strp_nod U hU]
theorem cnt_le (T : Term) (hT : isT T) : ∀ a b k : Nat, fitT T k → cntT T a b ≤ 2 ^ k := by
  refine tr_ind (P := fun T => ∀ a b k : Nat, fitT T k → cntT T a b ≤ 2 ^ k) ?_ ?_ ?_ ?_ T hT
  · exact fun q a b k _ => Nat.zero_le _
  · exact fun q d a b k _ => Nat.zero_le _
  · intro q p v a b k _
    have := Nat.two_pow_pos k
    simp only [cntT]
    split <;> omega
  · intro q B S x y _ _ i1 i2 a b k h
    obtain ⟨⟨hB, hkB, hS, hstm⟩, hfx, hfy⟩ := fitF h
    have h1 := i1 a b _ hfx
    have h2 := i2 a b _ hfy
    have h3 : 2 ^ (15 - B) * 2 ≤ 2 ^ k := by rw [← Nat.pow_succ]; exact Nat.pow_le_pow_right (by decide) (by omega)
    simp only [cntT]
    omega
theorem nod_le (T : Term) (hT : isT T) : ∀ k : Nat, fitT T k → nodT T + 1 ≤ 2 ^ (k + 1) := by
  have p1 : ∀ k : Nat, 2 ≤ 2 ^ (k + 1) := fun k => by
    have := Nat.two_pow_pos k
    rw [Nat.pow_succ]; omega
  refine tr_ind (P := fun T => ∀ k : Nat, fitT T k → nodT T + 1 ≤ 2 ^ (k + 1)) ?_ ?_ ?_ ?_ T hT
  · exact fun q k _ => p1 k
  · exact fun q d k _ => p1 k
  · exact fun q p v k _ => p1 k
  · intro q B S x y _ _ i1 i2 k h
    obtain ⟨⟨hB, hkB, hS, hstm⟩, hfx, hfy⟩ := fitF h
    have h1 := i1 _ hfx
    have h2 := i2 _ hfy
    have h3 : 2 ^ (15 - B + 1) * 2 ≤ 2 ^ (k + 1) := by rw [← Nat.pow_succ]; exact Nat.pow_le_pow_right (by decide) (by omega)
    simp only [nodT]
    omega
theorem del_fit2 {T T1 : Term} {P : Nat} (hT : isT T) (hK : strp T1 = strp (delT T P)) : strp T1 = strp (delT (strp T) P) := by rw [hK, del_strp T hT P]
section
variable {l : Launch} {D : va_G} {ca : Nat → ClassId} {ad : Nat → Nat} {N : Heap → Prop} {qt nv : Nat} {kf : Nat → Option Nat} {fv : Value} {fp : Int32} {fd : Int64} {ra rb : Nat → Int32} {wn : Nat} {to : Nat → Int32} {tl : Nat} {so : Nat → Int32} {sl : Nat}
end
