/-! functions of trees; addresses don't matter to them -/
/-- forks, stems and paths are such as fit a place of 2^k paths -/
def fitT : Term → Nat → Prop
  | .add (.arg _) .null, _ => True
  | .add (.arg _) (.long _), _ => True
  | .add (.arg _) (.elem (.arg P) (.long _)), _ => P < 65536
  | .add (.arg _) (.sub (.elem (.arg B) (.arg S)) (.mul x y)), k => (B ≤ 15 ∧ 16 ≤ k + B ∧ S + 2 ^ (16 - B) ≤ 65536 ∧ stm S B = S) ∧ fitT x (15 - B) ∧ fitT y (15 - B)
  | _, _ => False
/-- how many leaves have a path a .. b -/
def cntT : Term → Nat → Nat → Nat
  | .add (.arg _) (.elem (.arg P) (.long _)), a, b => if a ≤ P ∧ P ≤ b then 1 else 0
  | .add (.arg _) (.sub (.elem (.arg _) (.arg _)) (.mul x y)), a, b => cntT x a b + cntT y a b
  | _, _, _ => 0
def nodT : Term → Nat
  | .add (.arg _) (.sub (.elem (.arg _) (.arg _)) (.mul x y)) => 1 + nodT x + nodT y
  | _ => 1
def frkT : Term → Nat
  | .add (.arg _) (.sub (.elem (.arg _) (.arg _)) (.mul x y)) => 1 + max (frkT x) (frkT y)
  | _ => 0
/-- how many hidden nodes have a path a .. b in their place; first .. last is the place -/
def hidT : Term → Nat → Nat → Nat → Nat → Nat
  | .add (.arg _) (.long _), f, t, a, b => if f ≤ b ∧ a ≤ t then 1 else 0
  | .add (.arg _) (.sub (.elem (.arg B) (.arg S)) (.mul x y)), _, _, a, b => hidT x S (S + 2 ^ (15 - B) - 1) a b + hidT y (S + 2 ^ (15 - B)) (S + 2 ^ (16 - B) - 1) a b
  | _, _, _, _, _ => 0
/-- the least path from a on: the path, none, or hidden -/
def lstT : Term → Nat → Nat → Int32
  | .add (.arg _) (.long _), t, a => if a ≤ t then -4 else -2
  | .add (.arg _) (.elem (.arg P) (.long _)), _, a => if a ≤ P then nI P else -2
  | .add (.arg _) (.sub (.elem (.arg B) (.arg S)) (.mul x y)), _, a => if lstT x (S + 2 ^ (15 - B) - 1) a = -2 then lstT y (S + 2 ^ (16 - B) - 1) a else lstT x (S + 2 ^ (15 - B) - 1) a
  | _, _, _ => -2
/-- where the way to a path ends -/
def wayT : Term → Nat → Term
  | .add (.arg q) (.sub (.elem (.arg B) (.arg S)) (.mul x y)), P => if stm P B = S then (if bitA P B = 1 then wayT y P else wayT x P) else tF q B S x y
  | T, _ => T
/-- the fork of a node, of which one path is known, and a leaf -/
def fkT (T : Term) (pn P : Nat) (L : Term) : Term := if bitA P (fbit pn P) = 1 then tF 0 (fbit pn P) (stm P (fbit pn P)) T L else tF 0 (fbit pn P) (stm P (fbit pn P)) L T
/-- to write the path of a leaf -/
def wrtT : Term → Nat → Term → Term
  | .add (.arg q) (.elem (.arg p) (.long v)), P, L => if p = P then L else fkT (tL q p v) p P L
  | .add (.arg q) (.sub (.elem (.arg B) (.arg S)) (.mul x y)), P, L => if stm P B = S then (if bitA P B = 1 then tF 0 B S x (wrtT y P L) else tF 0 B S (wrtT x P L) y) else fkT (tF q B S x y) S P L
  | _, _, L => L
def isF : Term → Bool
  | .add (.arg _) (.sub (.elem (.arg _) (.arg _)) (.mul _ _)) => true
  | _ => false
/-- to erase a path that is there -/
def delT : Term → Nat → Term
  | .add (.arg _) (.sub (.elem (.arg B) (.arg S)) (.mul x y)), P => if bitA P B = 1 then (if isF y = true then tF 0 B S x (delT y P) else x) else (if isF x = true then tF 0 B S (delT x P) y else y)
  | _, _ => tE 0
/-- without addresses -/
def strp : Term → Term
  | .add (.arg _) .null => tE 0
  | .add (.arg _) (.long d) => tH 0 d
  | .add (.arg _) (.elem (.arg P) (.long v)) => tL 0 P v
  | .add (.arg _) (.sub (.elem (.arg B) (.arg S)) (.mul x y)) => tF 0 B S (strp x) (strp y)
  | T => T
theorem strp_T (T : Term) (h : isT T) : isT (strp T) := by
  refine tr_ind (P := fun T => isT (strp T)) ?_ ?_ ?_ ?_ T h
  · exact fun q => trivial
  · exact fun q d => trivial
  · exact fun q p v => trivial
  · exact fun q B S x y _ _ i1 i2 => ⟨i1, i2⟩
theorem strp_dig (T : Term) (h : isT T) : dig (strp T) = dig T := by
  refine tr_ind (P := fun T => dig (strp T) = dig T) ?_ ?_ ?_ ?_ T h
  · exact fun q => rfl
  · exact fun q d => rfl
  · exact fun q p v => rfl
  · exact fun q B S x y _ _ i1 i2 => by simp only [strp, dig, i1, i2]
theorem strp_fit (T : Term) (h : isT T) : ∀ k, fitT (strp T) k ↔ fitT T k := by
  refine tr_ind (P := fun T => ∀ k, fitT (strp T) k ↔ fitT T k) ?_ ?_ ?_ ?_ T h
  · exact fun q k => Iff.rfl
  · exact fun q d k => Iff.rfl
  · exact fun q p v k => Iff.rfl
  · exact fun q B S x y _ _ i1 i2 k => by simp only [strp, fitT, i1, i2]
theorem strp_cnt (T : Term) (h : isT T) (a b : Nat) : cntT (strp T) a b = cntT T a b := by
  refine tr_ind (P := fun T => cntT (strp T) a b = cntT T a b) ?_ ?_ ?_ ?_ T h
  · exact fun q => rfl
  · exact fun q d => rfl
  · exact fun q p v => rfl
  · exact fun q B S x y _ _ i1 i2 => by simp only [strp, cntT, i1, i2]
theorem strp_nod (T : Term) (h : isT T) : nodT (strp T) = nodT T := by
  refine tr_ind (P := fun T => nodT (strp T) = nodT T) ?_ ?_ ?_ ?_ T h
  · exact fun q => rfl
  · exact fun q d => rfl
  · exact fun q p v => rfl
  · exact fun q B S x y _ _ i1 i2 => by simp only [strp, nodT, i1, i2]
theorem strp_frk (T : Term) (h : isT T) : frkT (strp T) = frkT T := by
  refine tr_ind (P := fun T => frkT (strp T) = frkT T) ?_ ?_ ?_ ?_ T h
  · exact fun q => rfl
  · exact fun q d => rfl
  · exact fun q p v => rfl
  · exact fun q B S x y _ _ i1 i2 => by simp only [strp, frkT, i1, i2]
theorem strp_hid (T : Term) (h : isT T) : ∀ f t a b : Nat, hidT (strp T) f t a b = hidT T f t a b := by
  refine tr_ind (P := fun T => ∀ f t a b : Nat, hidT (strp T) f t a b = hidT T f t a b) ?_ ?_ ?_ ?_ T h
  · exact fun q f t a b => rfl
  · exact fun q d f t a b => rfl
  · exact fun q p v f t a b => rfl
  · exact fun q B S x y _ _ i1 i2 f t a b => by simp only [strp, hidT, i1, i2]
theorem strp_lst (T : Term) (h : isT T) : ∀ t a : Nat, lstT (strp T) t a = lstT T t a := by
  refine tr_ind (P := fun T => ∀ t a : Nat, lstT (strp T) t a = lstT T t a) ?_ ?_ ?_ ?_ T h
  · exact fun q t a => rfl
  · exact fun q d t a => rfl
  · exact fun q p v t a => rfl
  · exact fun q B S x y _ _ i1 i2 t a => by simp only [strp, lstT, i1, i2]
theorem strp_way (T : Term) (h : isT T) (P : Nat) : strp (wayT T P) = wayT (strp T) P := by
  refine tr_ind (P := fun T => strp (wayT T P) = wayT (strp T) P) ?_ ?_ ?_ ?_ T h
  · exact fun q => rfl
  · exact fun q d => rfl
  · exact fun q p v => rfl
  · intro q B S x y _ _ i1 i2
    simp only [strp, wayT]
    split
    · split
      · exact i2
      · exact i1
    · rfl
theorem way_T (T : Term) (h : isT T) (P : Nat) : isT (wayT T P) := by
  refine tr_ind (P := fun T => isT (wayT T P)) ?_ ?_ ?_ ?_ T h
  · exact fun q => trivial
  · exact fun q d => trivial
  · exact fun q p v => trivial
  · intro q B S x y h1 h2 i1 i2
    simp only [wayT]
    split
    · split
      · exact i2
      · exact i1
    · exact ⟨h1, h2⟩
theorem way_node {D : va_G} {H : Heap} (T : Term) (P : Nat) (hN : nodeAt D H T) : nodeAt D H (wayT T P) := by
  have h := nodeAt.T T hN
  revert hN
  refine tr_ind (P := fun T => nodeAt D H T → nodeAt D H (wayT T P)) ?_ ?_ ?_ ?_ T h
  · exact fun q h => h
  · exact fun q d h => h
  · exact fun q p v h => h
  · intro q B S x y h1 h2 i1 i2 h
    simp only [wayT]
    split
    · split
      · exact i2 h.2.2
      · exact i1 h.2.1
    · exact h
