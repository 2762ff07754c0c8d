/-! the walk in blocks: an evaluator of straight stretches over named cells ('tags'), and its soundness -/
abbrev AS : Type := List (Nat × Value) × List Value × List va_E
abbrev Ent : Type := Nat × Instr × Value × Nat × Nat
abbrev e0 (q : Nat) (i : Instr) : Ent := (q, i, .null, 0, 0)
abbrev ec (q : Nat) (i : Instr) (w : Value) : Ent := (q, i, w, 0, 0)
abbrev ef (q : Nat) (i : Instr) (w : Value) (a b : Nat) : Ent := (q, i, w, a, b)
def nth {α : Type} : List α → Nat → Option α
  | [], _ => none
  | x :: _, 0 => some x
  | _ :: r, k + 1 => nth r k
theorem nth_eq {α : Type} (l : List α) : ∀ k : Nat, nth l k = l[k]? := by
  induction l with
  | nil => intro k; simp [nth]
  | cons x r ih =>
    intro k
    cases k with
    | zero => simp [nth]
    | succ k => simp [nth, ih k]
def setl {α : Type} : List α → Nat → α → Option (List α)
  | [], _, _ => none
  | _ :: r, 0, v => some (v :: r)
  | x :: r, k + 1, v => match setl r k v with
    | some r2 => some (x :: r2)
    | none => none
theorem setl_eq {α : Type} (v : α) : ∀ (l : List α) (k : Nat) (l2 : List α), setl l k v = some l2 → l2 = l.set k v ∧ k < l.length := by
  intro l
  induction l with
  | nil => intro k l2 h; cases h
  | cons x r ih =>
    intro k l2 h
    cases k with
    | zero => cases h; exact ⟨rfl, by simp⟩
    | succ k =>
      simp only [setl] at h
      split at h
      next r2 hr =>
        obtain ⟨h1, h2⟩ := ih k r2 hr
        cases h
        exact ⟨by rw [h1]; rfl, by simp; exact h2⟩
      next => cases h
def c2 : Value → Bool
  | .long _ => true
  | .double _ => true
  | _ => false
theorem c2_eq (v : Value) : c2 v = (v.category == 2) := by cases v <;> rfl
def fnd : List (Nat × Value) → Nat → Option Value
  | [], _ => none
  | q :: r, i => match Nat.beq q.1 i with
    | true => some q.2
    | false => fnd r i
theorem fnd_mem {v : Value} {i : Nat} : ∀ (l : List (Nat × Value)), fnd l i = some v → (i, v) ∈ l := by
  intro l
  induction l with
  | nil => intro h; cases h
  | cons q r ih =>
    intro h
    simp only [fnd] at h
    split at h
    next hb =>
      cases h
      have := Nat.eq_of_beq_eq_true hb
      subst this
      exact List.mem_cons_self
    next => exact List.mem_cons_of_mem _ (ih h)
def dl1 (i : Nat) : List (Nat × Value) → Option (List (Nat × Value))
  | [] => some []
  | q :: r => match dl1 i r with
    | none => none
    | some r2 => match (Nat.beq q.1 i || (Nat.beq (q.1 + 1) i && c2 q.2)) with
      | true => some r2
      | false => some (q :: r2)
def dl2 (i : Nat) : List (Nat × Value) → Option (List (Nat × Value))
  | [] => some []
  | q :: r => match dl2 i r with
    | none => none
    | some r2 => match (Nat.beq q.1 i || (Nat.beq q.1 (i + 1) || (Nat.beq (q.1 + 1) i && c2 q.2))) with
      | true => some r2
      | false => some (q :: r2)
def ins (i : Nat) (v : Value) : List (Nat × Value) → Option (List (Nat × Value))
  | [] => some [(i, v)]
  | q :: r => match Nat.blt i q.1 with
    | true => some ((i, v) :: q :: r)
    | false => match ins i v r with
      | some r2 => some (q :: r2)
      | none => none
theorem ins_mem {i : Nat} {v : Value} : ∀ (l l2 : List (Nat × Value)), ins i v l = some l2 → ∀ x ∈ l2, x = (i, v) ∨ x ∈ l := by
  intro l
  induction l with
  | nil => intro l2 h x hx; cases h; exact Or.inl (List.mem_singleton.mp hx)
  | cons q r ih =>
    intro l2 h x hx
    simp only [ins] at h
    split at h
    · cases h
      exact List.mem_cons.mp hx
    · split at h
      next r2 hr =>
        cases h
        rcases List.mem_cons.mp hx with rfl | hx
        · exact Or.inr List.mem_cons_self
        · rcases ih r2 hr x hx with h1 | h1
          · exact Or.inl h1
          · exact Or.inr (List.mem_cons_of_mem _ h1)
      next => cases h
theorem beqN (a b : Nat) : (a == b) = Nat.beq a b := by
  cases h : Nat.beq a b
  · have h1 : a ≠ b := Nat.ne_of_beq_eq_false h
    simp [h1]
  · have h1 := Nat.eq_of_beq_eq_true h
    simp [h1]
theorem dl1_mem {i : Nat} : ∀ (l l2 : List (Nat × Value)), dl1 i l = some l2 → ∀ x ∈ l2, x ∈ l.filter (fun q => !(q.1 == i) && !(q.1 + 1 == i && q.2.category == 2)) := by
  intro l
  induction l with
  | nil => intro l2 h x hx; cases h; cases hx
  | cons q r ih =>
    intro l2 h x hx
    simp only [dl1] at h
    split at h
    · cases h
    next r2 hr =>
      have ih2 := ih r2 hr
      split at h
      · cases h
        have := ih2 x hx
        rw [List.filter_cons]
        split
        · exact List.mem_cons_of_mem _ this
        · exact this
      next hb =>
        cases h
        have hq : (!(q.1 == i) && !(q.1 + 1 == i && q.2.category == 2)) = true := by
          rw [← c2_eq]
          rw [beqN, beqN]
          revert hb
          cases Nat.beq q.1 i <;> cases Nat.beq (q.1 + 1) i <;> cases c2 q.2 <;> simp
        rw [List.filter_cons, if_pos hq]
        rcases List.mem_cons.mp hx with rfl | hx
        · exact List.mem_cons_self
        · exact List.mem_cons_of_mem _ (ih2 x hx)
theorem dl2_mem {i : Nat} : ∀ (l l2 : List (Nat × Value)), dl2 i l = some l2 → ∀ x ∈ l2, x ∈ l.filter (fun q => !(q.1 == i) && (!(q.1 == i + 1) && !(q.1 + 1 == i && q.2.category == 2))) := by
  intro l
  induction l with
  | nil => intro l2 h x hx; cases h; cases hx
  | cons q r ih =>
    intro l2 h x hx
    simp only [dl2] at h
    split at h
    · cases h
    next r2 hr =>
      have ih2 := ih r2 hr
      split at h
      · cases h
        have := ih2 x hx
        rw [List.filter_cons]
        split
        · exact List.mem_cons_of_mem _ this
        · exact this
      next hb =>
        cases h
        have hq : (!(q.1 == i) && (!(q.1 == i + 1) && !(q.1 + 1 == i && q.2.category == 2))) = true := by
          rw [← c2_eq]
          rw [beqN, beqN, beqN]
          revert hb
          cases Nat.beq q.1 i <;> cases Nat.beq (q.1 + 1) i <;> cases Nat.beq q.1 (i + 1) <;> cases c2 q.2 <;> simp
        rw [List.filter_cons, if_pos hq]
        rcases List.mem_cons.mp hx with rfl | hx
        · exact List.mem_cons_self
        · exact List.mem_cons_of_mem _ (ih2 x hx)
def cv (ad : Nat → Nat) : Value → Value
  | .ref k => .ref (ad k)
  | .int x => .int x
  | .long x => .long x
  | .float x => .float x
  | .double x => .double x
  | .null => .null
  | .retAddr k => .retAddr k
theorem cv_cat (ad : Nat → Nat) (v : Value) : (cv ad v).category = v.category := by cases v <;> rfl
def ce (ad : Nat → Nat) (ca : Nat → ClassId) : va_E → va_E
  | .inl x => .inl (ca x.1, x.2)
  | .inr o => .inr (o.1, o.2.map (cv ad))
def cw (ad : Nat → Nat) (ca : Nat → ClassId) : Nat → List va_E → va_W
  | _, [] => []
  | k, e :: r => (ad k, ce ad ca e) :: cw ad ca (k + 1) r
def cl (ad : Nat → Nat) (lv : List (Nat × Value)) : List (Nat × Value) := lv.map (fun q => (q.1, cv ad q.2))
theorem cw_at (ad : Nat → Nat) (ca : Nat → ClassId) : ∀ (ws : List va_E) (j k : Nat), (cw ad ca j ws)[k]? = (ws[k]?).map (fun e => (ad (j + k), ce ad ca e)) := by
  intro ws
  induction ws with
  | nil => intro j k; simp [cw]
  | cons e r ih =>
    intro j k
    cases k with
    | zero => simp [cw]
    | succ k =>
      simp only [cw, List.getElem?_cons_succ, ih]
      rw [show j + 1 + k = j + (k + 1) by omega]
theorem cw_set (ad : Nat → Nat) (ca : Nat → ClassId) (e : va_E) : ∀ (ws : List va_E) (j k : Nat), cw ad ca j (ws.set k e) = (cw ad ca j ws).set k (ad (j + k), ce ad ca e) := by
  intro ws
  induction ws with
  | nil => intro j k; simp [cw]
  | cons x r ih =>
    intro j k
    cases k with
    | zero => simp [cw]
    | succ k =>
      simp only [cw, List.set_cons_succ, ih]
      rw [show j + 1 + k = j + (k + 1) by omega]
/-- the named cells are apart; a name from 100 on is an address itself -/
def AD (ad : Nat → Nat) (n : Nat) : Prop := (∀ i j : Nat, i < n → j < n → ad i = ad j → i = j) ∧ ∀ q : Nat, ad (q + 100) = q
theorem cw_some {ad : Nat → Nat} {ca : Nat → ClassId} {ws : List va_E} {k : Nat} {q : Nat × va_E} (h : (cw ad ca 0 ws)[k]? = some q) : ∃ e, ws[k]? = some e ∧ q = (ad k, ce ad ca e) ∧ k < ws.length := by
  rw [cw_at] at h
  cases hw : ws[k]? with
  | none => rw [hw] at h; cases h
  | some e =>
    rw [hw] at h
    cases h
    exact ⟨e, rfl, by rw [Nat.zero_add], (List.getElem?_eq_some_iff.mp hw).1⟩
theorem cw_D {ad : Nat → Nat} {ca : Nat → ClassId} {ws : List va_E} {A : Nat → Prop} {n : Nat} (hn : ws.length = n) (h : AD ad n) (hA : ∀ k, k < n → A (ad k)) : va_D A (cw ad ca 0 ws) := by
  subst hn
  refine ⟨fun i j x y hi hj hxy => ?_, fun k q hk => ?_⟩
  · obtain ⟨e1, -, rfl, l1⟩ := cw_some hi
    obtain ⟨e2, -, rfl, l2⟩ := cw_some hj
    exact h.1 i j l1 l2 hxy
  · obtain ⟨e, -, rfl, hl⟩ := cw_some hk
    exact hA k hl
theorem cl_fnd {ad : Nat → Nat} {lv : List (Nat × Value)} {i : Nat} {v : Value} {ls : Array Slot} {nL : Nat} (hl : lv_has ls nL (cl ad lv)) (h : fnd lv i = some v) : ls[i]? = some (.val (cv ad v)) :=
  hl.2.2 (i, cv ad v) (List.mem_map.mpr ⟨(i, v), fnd_mem lv h, rfl⟩)
theorem cl_filter1 (ad : Nat → Nat) (i : Nat) (lv : List (Nat × Value)) : (cl ad lv).filter (fun q => !(q.1 == i) && !(q.1 + 1 == i && q.2.category == 2)) = cl ad (lv.filter (fun q => !(q.1 == i) && !(q.1 + 1 == i && q.2.category == 2))) := by
  unfold cl
  rw [List.filter_map]
  congr 1
  apply List.filter_congr
  intro q _
  simp only [Function.comp, cv_cat]
theorem cl_filter2 (ad : Nat → Nat) (i : Nat) (lv : List (Nat × Value)) : (cl ad lv).filter (fun q => !(q.1 == i) && (!(q.1 == i + 1) && !(q.1 + 1 == i && q.2.category == 2))) = cl ad (lv.filter (fun q => !(q.1 == i) && (!(q.1 == i + 1) && !(q.1 + 1 == i && q.2.category == 2)))) := by
  unfold cl
  rw [List.filter_map]
  congr 1
  apply List.filter_congr
  intro q _
  simp only [Function.comp, cv_cat]
def so1 (i : Nat) (v : Value) (lv : List (Nat × Value)) : Option (List (Nat × Value)) := match dl1 i lv with
  | some l => ins i v l
  | none => none
def so2 (i : Nat) (v : Value) (lv : List (Nat × Value)) : Option (List (Nat × Value)) := match dl2 i lv with
  | some l => ins i v l
  | none => none
theorem so1_has {ad : Nat → Nat} {i : Nat} {v : Value} {lv lv2 : List (Nat × Value)} {ls : Array Slot} {nL : Nat} (h : so1 i v lv = some lv2) (hl : lv_has ls nL ((i, cv ad v) :: (cl ad lv).filter (fun q => !(q.1 == i) && !(q.1 + 1 == i && q.2.category == 2)))) : lv_has ls nL (cl ad lv2) := by
  refine ⟨hl.1, hl.2.1, fun x hx => hl.2.2 x ?_⟩
  unfold so1 at h
  split at h
  next l2 h2 =>
    obtain ⟨y, hy, rfl⟩ := List.mem_map.mp hx
    rcases ins_mem _ _ h y hy with rfl | h3
    · exact List.mem_cons_self
    · rw [cl_filter1]
      exact List.mem_cons_of_mem _ (List.mem_map.mpr ⟨y, dl1_mem _ _ h2 y h3, rfl⟩)
  next => cases h
theorem so2_has {ad : Nat → Nat} {i : Nat} {v : Value} {lv lv2 : List (Nat × Value)} {ls : Array Slot} {nL : Nat} (h : so2 i v lv = some lv2) (hl : lv_has ls nL ((i, cv ad v) :: (cl ad lv).filter (fun q => !(q.1 == i) && (!(q.1 == i + 1) && !(q.1 + 1 == i && q.2.category == 2))))) : lv_has ls nL (cl ad lv2) := by
  refine ⟨hl.1, hl.2.1, fun x hx => hl.2.2 x ?_⟩
  unfold so2 at h
  split at h
  next l2 h2 =>
    obtain ⟨y, hy, rfl⟩ := List.mem_map.mp hx
    rcases ins_mem _ _ h y hy with rfl | h3
    · exact List.mem_cons_self
    · rw [cl_filter2]
      exact List.mem_cons_of_mem _ (List.mem_map.mpr ⟨y, dl2_mem _ _ h2 y h3, rfl⟩)
  next => cases h
/-- one instruction that neither branches, calls, makes nor returns -/
def ev1 (nL : Nat) (i : Instr) (w : Value) (a b : Nat) (lv : List (Nat × Value)) (st : List Value) (ws : List va_E) (c : Prop) : Option (AS × Prop) :=
  match i with
  | .iconst _ => some ((lv, w :: st, ws), c)
  | .bipush _ => some ((lv, w :: st, ws), c)
  | .sipush _ => some ((lv, w :: st, ws), c)
  | .lconst _ => some ((lv, w :: st, ws), c)
  | .ldc _ => some ((lv, w :: st, ws), c)
  | .ldc2_w _ => some ((lv, w :: st, ws), c)
  | .aconst_null => some ((lv, .null :: st, ws), c)
  | .iload k => match fnd lv k with
    | some (.int x) => some ((lv, .int x :: st, ws), c)
    | _ => none
  | .iload_n k => match fnd lv k.val with
    | some (.int x) => some ((lv, .int x :: st, ws), c)
    | _ => none
  | .lload k => match fnd lv k with
    | some (.long x) => some ((lv, .long x :: st, ws), c)
    | _ => none
  | .lload_n k => match fnd lv k.val with
    | some (.long x) => some ((lv, .long x :: st, ws), c)
    | _ => none
  | .aload k => match fnd lv k with
    | some (.ref x) => some ((lv, .ref x :: st, ws), c)
    | some .null => some ((lv, .null :: st, ws), c)
    | _ => none
  | .aload_n k => match fnd lv k.val with
    | some (.ref x) => some ((lv, .ref x :: st, ws), c)
    | some .null => some ((lv, .null :: st, ws), c)
    | _ => none
  | .istore k => match st with
    | .int x :: r => match Nat.blt k nL with
      | true => match so1 k (.int x) lv with
        | some lv2 => some ((lv2, r, ws), c)
        | none => none
      | false => none
    | _ => none
  | .istore_n k => match st with
    | .int x :: r => match Nat.blt k.val nL with
      | true => match so1 k.val (.int x) lv with
        | some lv2 => some ((lv2, r, ws), c)
        | none => none
      | false => none
    | _ => none
  | .lstore k => match st with
    | .long x :: r => match Nat.blt (k + 1) nL with
      | true => match so2 k (.long x) lv with
        | some lv2 => some ((lv2, r, ws), c)
        | none => none
      | false => none
    | _ => none
  | .lstore_n k => match st with
    | .long x :: r => match Nat.blt (k.val + 1) nL with
      | true => match so2 k.val (.long x) lv with
        | some lv2 => some ((lv2, r, ws), c)
        | none => none
      | false => none
    | _ => none
  | .astore k => match st with
    | .ref x :: r => match Nat.blt k nL with
      | true => match so1 k (.ref x) lv with
        | some lv2 => some ((lv2, r, ws), c)
        | none => none
      | false => none
    | .null :: r => match Nat.blt k nL with
      | true => match so1 k .null lv with
        | some lv2 => some ((lv2, r, ws), c)
        | none => none
      | false => none
    | _ => none
  | .astore_n k => match st with
    | .ref x :: r => match Nat.blt k.val nL with
      | true => match so1 k.val (.ref x) lv with
        | some lv2 => some ((lv2, r, ws), c)
        | none => none
      | false => none
    | .null :: r => match Nat.blt k.val nL with
      | true => match so1 k.val .null lv with
        | some lv2 => some ((lv2, r, ws), c)
        | none => none
      | false => none
    | _ => none
  | .iinc k _ => match fnd lv k with
    | some (.int x) => match w with
      | .int d => match Nat.blt k nL with
        | true => match so1 k (.int (x + d)) lv with
          | some lv2 => some ((lv2, st, ws), c)
          | none => none
        | false => none
      | _ => none
    | _ => none
  | .iadd => match st with
    | .int y :: .int x :: r => some ((lv, .int (x + y) :: r, ws), c)
    | _ => none
  | .isub => match st with
    | .int y :: .int x :: r => some ((lv, .int (x - y) :: r, ws), c)
    | _ => none
  | .imul => match st with
    | .int y :: .int x :: r => some ((lv, .int (x * y) :: r, ws), c)
    | _ => none
  | .iand => match st with
    | .int y :: .int x :: r => some ((lv, .int (x &&& y) :: r, ws), c)
    | _ => none
  | .ixor => match st with
    | .int y :: .int x :: r => some ((lv, .int (x ^^^ y) :: r, ws), c)
    | _ => none
  | .ishl => match st with
    | .int y :: .int x :: r => some ((lv, .int (x <<< (y &&& 31)) :: r, ws), c)
    | _ => none
  | .ishr => match st with
    | .int y :: .int x :: r => some ((lv, .int (x >>> (y &&& 31)) :: r, ws), c)
    | _ => none
  | .iushr => match st with
    | .int y :: .int x :: r => some ((lv, .int ((x.toUInt32 >>> (y.toUInt32 &&& Int32.toUInt32 31)).toInt32) :: r, ws), c)
    | _ => none
  | .i2l => match st with
    | .int x :: r => some ((lv, .long x.toInt64 :: r, ws), c)
    | _ => none
  | .l2i => match st with
    | .long x :: r => some ((lv, .int x.toInt32 :: r, ws), c)
    | _ => none
  | .lmul => match st with
    | .long y :: .long x :: r => some ((lv, .long (x * y) :: r, ws), c)
    | _ => none
  | .land => match st with
    | .long y :: .long x :: r => some ((lv, .long (x &&& y) :: r, ws), c)
    | _ => none
  | .lor => match st with
    | .long y :: .long x :: r => some ((lv, .long (x ||| y) :: r, ws), c)
    | _ => none
  | .lxor => match st with
    | .long y :: .long x :: r => some ((lv, .long (x ^^^ y) :: r, ws), c)
    | _ => none
  | .lshl => match st with
    | .int y :: .long x :: r => some ((lv, .long (x <<< (y.toInt64 &&& 63)) :: r, ws), c)
    | _ => none
  | .lshr => match st with
    | .int y :: .long x :: r => some ((lv, .long (x >>> (y.toInt64 &&& 63)) :: r, ws), c)
    | _ => none
  | .lushr => match st with
    | .int y :: .long x :: r => some ((lv, .long ((x.toUInt64 >>> (y.toInt64.toUInt64 &&& Int64.toUInt64 63)).toInt64) :: r, ws), c)
    | _ => none
  | .lcmp => match st with
    | .long y :: .long x :: r => some ((lv, .int (lg_cmp x y) :: r, ws), c)
    | _ => none
  | .dup => match st with
    | .int x :: r => some ((lv, .int x :: .int x :: r, ws), c)
    | .ref x :: r => some ((lv, .ref x :: .ref x :: r, ws), c)
    | _ => none
  | .dup2 => match st with
    | .int x :: .ref y :: r => some ((lv, .int x :: .ref y :: .int x :: .ref y :: r, ws), c)
    | _ => none
  | .pop => match st with
    | .int _ :: r => some ((lv, r, ws), c)
    | .ref _ :: r => some ((lv, r, ws), c)
    | .null :: r => some ((lv, r, ws), c)
    | _ => none
  | .goto _ => some ((lv, st, ws), c)
  | .getfield _ => match st with
    | .ref t :: r => match nth ws t with
      | some (.inr o) => match Nat.beq o.1 a with
        | true => match nth o.2 b with
          | some v => some ((lv, v :: r, ws), c)
          | none => none
        | false => none
      | _ => none
    | _ => none
  | .putfield _ => match st with
    | v :: .ref t :: r => match nth ws t with
      | some (.inr o) => match Nat.beq o.1 a with
        | true => match (match w, v with
            | .int _, .int _ => true
            | .long _, .long _ => true
            | .null, .ref _ => true
            | .null, .null => true
            | _, _ => false) with
          | true => match setl o.2 b v with
            | some fs => match setl ws t (.inr (o.1, fs)) with
              | some ws2 => some ((lv, r, ws2), c)
              | none => none
            | none => none
          | false => none
        | false => none
      | _ => none
    | _ => none
  | .iaload => match st with
    | .int x :: .ref t :: r => match nth ws t with
      | some (.inl (0, n, .inl f)) => some ((lv, .int (f x.toNatClampNeg) :: r, ws), vp_in x n ∧ c)
      | _ => none
    | _ => none
  | .laload => match st with
    | .int x :: .ref t :: r => match nth ws t with
      | some (.inl (1, n, .inr (.inl f))) => some ((lv, .long (f x.toNatClampNeg) :: r, ws), vp_in x n ∧ c)
      | _ => none
    | _ => none
  | .iastore => match st with
    | .int z :: .int x :: .ref t :: r => match nth ws t with
      | some (.inl (0, n, .inl f)) => match setl ws t (.inl (0, n, .inl (upd f x.toNatClampNeg z))) with
        | some ws2 => some ((lv, r, ws2), vp_in x n ∧ c)
        | none => none
      | _ => none
    | _ => none
  | .lastore => match st with
    | .long z :: .int x :: .ref t :: r => match nth ws t with
      | some (.inl (1, n, .inr (.inl f))) => match setl ws t (.inl (1, n, .inr (.inl (vp_updL f x.toNatClampNeg z)))) with
        | some ws2 => some ((lv, r, ws2), vp_in x n ∧ c)
        | none => none
      | _ => none
    | _ => none
  | _ => none
def evB (nL : Nat) : List Ent → AS → Prop → Option (AS × Prop)
  | [], S, c => some (S, c)
  | (_, i, w, a, b) :: r, (lv, st, ws), c => match ev1 nL i w a b lv st ws c with
    | some (S', c') => evB nL r S' c'
    | none => none
def ilen : Instr → Nat
  | .bipush _ => 2
  | .sipush _ => 3
  | .ldc _ => 2
  | .ldc2_w _ => 3
  | .iload _ => 2
  | .lload _ => 2
  | .aload _ => 2
  | .istore _ => 2
  | .lstore _ => 2
  | .astore _ => 2
  | .iinc _ _ => 3
  | .goto _ => 3
  | .getfield _ => 3
  | .putfield _ => 3
  | _ => 1
def npc (q : Nat) : Instr → Nat
  | .goto off => ((q : Int) + off).toNat
  | i => q + ilen i
/-- what stands beside an instruction is right: constants, fields -/
def axo (ft : List (Nat × Nat × Nat)) (ct : List (Nat × Value)) (q : Nat) (i : Instr) (w : Value) (a b : Nat) : Bool :=
  match i with
  | .iconst n => w == .int (Int32.ofInt n)
  | .bipush n => w == .int (Int8.ofInt n).toInt32
  | .sipush n => w == .int (Int16.ofInt n).toInt32
  | .lconst n => w == .long (Int64.ofNat (n : Nat))
  | .ldc x => match w with
    | .int _ => ct.contains (x, w)
    | _ => false
  | .ldc2_w x => match w with
    | .long _ => ct.contains (x, w)
    | _ => false
  | .iinc _ n => w == .int (Int32.ofInt n)
  | .goto off => decide (0 ≤ (q : Int) + off)
  | .getfield x => ft.contains (x, a, b)
  | .putfield x => ft.contains (x, a, b) && (Nat.ble 4 a && (match vwCl[a]? with
    | some r => !(r.2.1 b).2.2.2 && (match parseFieldDescriptor (r.2.1 b).2.2.1, w with
      | some .int, .int _ => true
      | some .long, .long _ => true
      | some (.object _), .null => true
      | some (.array _), .null => true
      | _, _ => false)
    | none => false))
  | _ => true
def hdq (qe : Nat) : List Ent → Nat
  | [] => qe
  | x :: _ => x.1
def okB (ft : List (Nat × Nat × Nat)) (ct : List (Nat × Value)) (cc : ByteArray) (qe : Nat) : List Ent → Bool
  | [] => true
  | x :: r => decide (decode cc x.1 = .ok (x.2.1, ilen x.2.1)) && (axo ft ct x.1 x.2.1 x.2.2.1 x.2.2.2.1 x.2.2.2.2 && (Nat.beq (npc x.1 x.2.1) (hdq qe r) && okB ft ct cc qe r))
def FTo (own : String) (ft : List (Nat × Nat × Nat)) : Prop := ∀ x ∈ ft, ∃ r : vw_C, vwCl[x.2.1]? = some r ∧ x.2.2 < r.2.2 ∧ Cond.fieldLink own x.1 (r.2.1 x.2.2).1 (r.2.1 x.2.2).2.1 (r.2.1 x.2.2).2.2.1 ∈ tb
def CTo (own : String) (ct : List (Nat × Value)) : Prop := ∀ x ∈ ct, match x.2 with
  | .int v => Cond.constant own x.1 v ∈ tb
  | .long v => Cond.constantLong own x.1 v ∈ tb
  | _ => False
