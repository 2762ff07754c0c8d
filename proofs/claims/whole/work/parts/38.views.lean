/-! the model's view: a tree in rows of numbers; a node's address is its row -/
abbrev VA : Type := (Nat → Int32) × (Nat → Int32) × (Nat → Int32) × (Nat → Int64) × (Nat → Int32) × (Nat → Int32)
/-- rows: kind, bit, stem, held, low, high -/
def vtR (V : VA) : Term → Prop
  | .add (.arg q) .null => V.1 q = 3
  | .add (.arg q) (.long d) => V.1 q = 0 ∧ V.2.2.2.1 q = d
  | .add (.arg q) (.elem (.arg P) (.long v)) => V.1 q = 2 ∧ V.2.2.1 q = nI P ∧ V.2.2.2.1 q = v
  | .add (.arg q) (.sub (.elem (.arg B) (.arg S)) (.mul x y)) => (V.1 q = 1 ∧ V.2.1 q = nI B ∧ V.2.2.1 q = nI S ∧ V.2.2.2.2.1 q = nI (adr x) ∧ V.2.2.2.2.2 q = nI (adr y)) ∧ vtR V x ∧ vtR V y
  | _ => False
/-- the rows that a tree uses -/
def ids : Term → List Nat
  | .add (.arg q) (.sub (.elem (.arg _) (.arg _)) (.mul x y)) => q :: (ids x ++ ids y)
  | T => [adr T]
def kids : Term → List Term
  | .add (.arg _) (.sub (.elem (.arg _) (.arg _)) (.mul x y)) => [x, y]
  | _ => []
/-- the sums of all nodes of a tree stand in su -/
def smR (su : Nat → Int64) : Term → Prop
  | .add (.arg q) (.sub (.elem (.arg B) (.arg S)) (.mul x y)) => su q = forkF B S (dig x) (dig y) ∧ smR su x ∧ smR su y
  | T => su (adr T) = dig T
def agV (Z : Nat → Prop) (V V2 : VA) : Prop := ∀ q, Z q → V2.1 q = V.1 q ∧ V2.2.1 q = V.2.1 q ∧ V2.2.2.1 q = V.2.2.1 q ∧ V2.2.2.2.1 q = V.2.2.2.1 q ∧ V2.2.2.2.2.1 q = V.2.2.2.2.1 q ∧ V2.2.2.2.2.2 q = V.2.2.2.2.2 q
theorem agV.tr {Z : Nat → Prop} {V V1 V2 : VA} (h1 : agV Z V V1) (h2 : agV Z V1 V2) : agV Z V V2 := fun q hq => by
  obtain ⟨a1, a2, a3, a4, a5, a6⟩ := h1 q hq
  obtain ⟨b1, b2, b3, b4, b5, b6⟩ := h2 q hq
  exact ⟨b1.trans a1, b2.trans a2, b3.trans a3, b4.trans a4, b5.trans a5, b6.trans a6⟩
theorem agV.mono {Z Z2 : Nat → Prop} {V V1 : VA} (h1 : agV Z V V1) (h : ∀ q, Z2 q → Z q) : agV Z2 V V1 := fun q hq => h1 q (h q hq)
theorem agV.rf {Z : Nat → Prop} {V : VA} : agV Z V V := fun _ _ => ⟨rfl, rfl, rfl, rfl, rfl, rfl⟩
theorem ids_len (T : Term) (hT : isT T) : (ids T).length = nodT T := by
  refine tr_ind (P := fun T => (ids T).length = nodT T) ?_ ?_ ?_ ?_ T hT
  · exact fun q => rfl
  · exact fun q d => rfl
  · exact fun q p v => rfl
  · intro q B S x y _ _ i1 i2
    simp only [ids, nodT, List.length_cons, List.length_append, i1, i2]; omega
theorem adr_ids (T : Term) (hT : isT T) : adr T ∈ ids T := by
  rcases shp T hT with ⟨q, rfl⟩ | ⟨q, d, rfl⟩ | ⟨q, p, v, rfl⟩ | ⟨q, B, S, x, y, rfl⟩ <;> simp [ids, adr]
theorem vt_cg {V V2 : VA} (T : Term) (hT : isT T) : agV (fun q => q ∈ ids T) V V2 → vtR V T → vtR V2 T := by
  refine tr_ind (P := fun T => agV (fun q => q ∈ ids T) V V2 → vtR V T → vtR V2 T) ?_ ?_ ?_ ?_ T hT
  · intro q h v
    obtain ⟨a1, -, -, -, -, -⟩ := h q (List.mem_singleton.mpr rfl)
    exact a1.trans v
  · intro q d h v
    obtain ⟨a1, a2, a3, a4, a5, a6⟩ := h q (List.mem_singleton.mpr rfl)
    exact ⟨a1.trans v.1, a4.trans v.2⟩
  · intro q p w h v
    obtain ⟨a1, a2, a3, a4, a5, a6⟩ := h q (List.mem_singleton.mpr rfl)
    exact ⟨a1.trans v.1, a3.trans v.2.1, a4.trans v.2.2⟩
  · intro q B S x y _ _ i1 i2 h v
    obtain ⟨a1, a2, a3, a4, a5, a6⟩ := h q List.mem_cons_self
    obtain ⟨⟨b1, b2, b3, b4, b5⟩, v1, v2⟩ := v
    exact ⟨⟨a1.trans b1, a2.trans b2, a3.trans b3, a5.trans b4, a6.trans b5⟩, i1 (fun z hz => h z (List.mem_cons_of_mem _ (List.mem_append_left _ hz))) v1, i2 (fun z hz => h z (List.mem_cons_of_mem _ (List.mem_append_right _ hz))) v2⟩
theorem k01 : ¬ (0 : Int32) = 1 := by decide
theorem k02 : ¬ (0 : Int32) = 2 := by decide
theorem k03 : ¬ (0 : Int32) = 3 := by decide
theorem k12 : ¬ (1 : Int32) = 2 := by decide
theorem k13 : ¬ (1 : Int32) = 3 := by decide
theorem k23 : ¬ (2 : Int32) = 3 := by decide
theorem lt16 {q : Nat} (h : q < 1600) : q < 2 ^ 31 := by omega
/-- one row, one digest -/
theorem vt_dig {V : VA} (T : Term) (hT : isT T) : ∀ T', isT T' → (∀ q ∈ ids T, q < 1600) → (∀ q ∈ ids T', q < 1600) → vtR V T → vtR V T' → adr T = adr T' → dig T = dig T' := by
  refine tr_ind (P := fun T => ∀ T', isT T' → (∀ q ∈ ids T, q < 1600) → (∀ q ∈ ids T', q < 1600) → vtR V T → vtR V T' → adr T = adr T' → dig T = dig T') ?_ ?_ ?_ ?_ T hT
  · intro q T' hT' b1 b2 v1 v2 e
    have v1 : V.1 q = 3 := v1
    rcases shp T' hT' with ⟨q', rfl⟩ | ⟨q', d, rfl⟩ | ⟨q', p, v, rfl⟩ | ⟨q', B, S, x, y, rfl⟩ <;> (have e : q = q' := e; subst e)
    · rfl
    · exact absurd (v2.1.symm.trans v1) k03
    · exact absurd (v2.1.symm.trans v1) k23
    · exact absurd (v2.1.1.symm.trans v1) k13
  · intro q d0 T' hT' b1 b2 v1 v2 e
    rcases shp T' hT' with ⟨q', rfl⟩ | ⟨q', d, rfl⟩ | ⟨q', p, v, rfl⟩ | ⟨q', B, S, x, y, rfl⟩ <;> (have e : q = q' := e; subst e)
    · exact absurd (v1.1.symm.trans v2) k03
    · exact v1.2.symm.trans v2.2
    · exact absurd (v1.1.symm.trans v2.1) k02
    · exact absurd (v1.1.symm.trans v2.1.1) k01
  · intro q p0 v0 T' hT' b1 b2 v1 v2 e
    rcases shp T' hT' with ⟨q', rfl⟩ | ⟨q', d, rfl⟩ | ⟨q', p, v, rfl⟩ | ⟨q', B, S, x, y, rfl⟩ <;> (have e : q = q' := e; subst e)
    · exact absurd (v1.1.symm.trans v2) k23
    · exact absurd (v2.1.symm.trans v1.1) k02
    · show leafF p0 v0 = leafF p v
      unfold leafF
      rw [show nI p0 = nI p from v1.2.1.symm.trans v2.2.1, show v0 = v from v1.2.2.symm.trans v2.2.2]
    · exact absurd (v2.1.1.symm.trans v1.1) k12
  · intro q B0 S0 x0 y0 t1 t2 i1 i2 T' hT' b1 b2 v1 v2 e
    rcases shp T' hT' with ⟨q', rfl⟩ | ⟨q', d, rfl⟩ | ⟨q', p, v, rfl⟩ | ⟨q', B, S, x, y, rfl⟩ <;> (have e : q = q' := e; subst e)
    · exact absurd (v1.1.1.symm.trans v2) k13
    · exact absurd (v2.1.symm.trans v1.1.1) k01
    · exact absurd (v1.1.1.symm.trans v2.1) k12
    · obtain ⟨⟨a1, a2, a3, a4, a5⟩, a6, a7⟩ := v1
      obtain ⟨⟨c1, c2, c3, c4, c5⟩, c6, c7⟩ := v2
      have bx0 : ∀ z ∈ ids x0, z < 1600 := fun z hz => b1 z (List.mem_cons_of_mem _ (List.mem_append_left _ hz))
      have by0 : ∀ z ∈ ids y0, z < 1600 := fun z hz => b1 z (List.mem_cons_of_mem _ (List.mem_append_right _ hz))
      have bx : ∀ z ∈ ids x, z < 1600 := fun z hz => b2 z (List.mem_cons_of_mem _ (List.mem_append_left _ hz))
      have by' : ∀ z ∈ ids y, z < 1600 := fun z hz => b2 z (List.mem_cons_of_mem _ (List.mem_append_right _ hz))
      have e1 : adr x0 = adr x := (nI_eq (lt16 (bx0 _ (adr_ids x0 t1))) (lt16 (bx _ (adr_ids x hT'.1)))).mp (a4.symm.trans c4)
      have e2 : adr y0 = adr y := (nI_eq (lt16 (by0 _ (adr_ids y0 t2))) (lt16 (by' _ (adr_ids y hT'.2)))).mp (a5.symm.trans c5)
      show forkF B0 S0 (dig x0) (dig y0) = forkF B S (dig x) (dig y)
      rw [i1 x hT'.1 bx0 bx a6 c6 e1, i2 y hT'.2 by0 by' a7 c7 e2]
      unfold forkF
      rw [show nI B0 = nI B from a2.symm.trans c2, show nI S0 = nI S from a3.symm.trans c3]
/-- a good tree: in the rows -/
def gdV (V : VA) (T : Term) : Prop := isT T ∧ vtR V T ∧ ∀ q ∈ ids T, q < 1600
theorem gd_kids {V : VA} {T : Term} (h : gdV V T) : ∀ c ∈ kids T, gdV V c := by
  obtain ⟨h1, h2, h3⟩ := h
  rcases shp T h1 with ⟨q, rfl⟩ | ⟨q, d, rfl⟩ | ⟨q, p, v, rfl⟩ | ⟨q, B, S, x, y, rfl⟩
  · intro c hc; cases hc
  · intro c hc; cases hc
  · intro c hc; cases hc
  · intro c hc
    have hc : c ∈ [x, y] := hc
    rcases List.mem_cons.mp hc with rfl | hc
    · exact ⟨h1.1, h2.2.1, fun z hz => h3 z (List.mem_cons_of_mem _ (List.mem_append_left _ hz))⟩
    · rcases List.mem_singleton.mp hc with rfl
      exact ⟨h1.2, h2.2.2, fun z hz => h3 z (List.mem_cons_of_mem _ (List.mem_append_right _ hz))⟩
/-- each node's nodes below stand behind it, or wait -/
def clo : List Term → List Term → Prop
  | [], _ => True
  | T :: r, p => (∀ c ∈ kids T, c ∈ r ++ p) ∧ clo r p
theorem clo_step {T : Term} {p : List Term} : ∀ {r : List Term}, clo r (T :: p) → clo (r ++ [T]) (p ++ kids T)
  | [], _ => ⟨fun c hc => by simp [hc], trivial⟩
  | X :: r, h => ⟨fun c hc => by
      have := h.1 c hc
      simp only [List.mem_append, List.mem_cons] at this ⊢
      rcases this with h1 | h1 | h1
      · simp [h1]
      · simp [h1]
      · simp [h1], clo_step (r := r) h.2⟩
theorem clo_at {T : Term} {C : List Term} : ∀ {A : List Term}, clo (A ++ T :: C) [] → ∀ c ∈ kids T, c ∈ C
  | [], h => fun c hc => by have := h.1 c hc; simpa using this
  | _ :: A, h => clo_at (A := A) h.2
theorem clo_all : ∀ {L : List Term}, clo L [] → ∀ T ∈ L, ∀ c ∈ kids T, c ∈ L
  | [], _, T, hT, _, _ => absurd hT List.not_mem_nil
  | X :: r, h, T, hT, c, hc => by
    rcases List.mem_cons.mp hT with rfl | h1
    · have := h.1 c hc
      exact List.mem_cons_of_mem _ (by simpa using this)
    · exact List.mem_cons_of_mem _ (clo_all h.2 T h1 c hc)
theorem sm_of {su : Nat → Int64} {L : List Term} (hL : ∀ T ∈ L, su (adr T) = dig T) (hc : ∀ T ∈ L, ∀ c ∈ kids T, c ∈ L) (U : Term) (hT : isT U) : U ∈ L → smR su U := by
  refine tr_ind (P := fun U => U ∈ L → smR su U) ?_ ?_ ?_ ?_ U hT
  · exact fun q h => hL _ h
  · exact fun q d h => hL _ h
  · exact fun q p v h => hL _ h
  · intro q B S x y _ _ i1 i2 h
    exact ⟨hL _ h, i1 (hc _ h x (List.mem_cons_self)), i2 (hc _ h y (List.mem_cons_of_mem _ List.mem_cons_self))⟩
theorem sm_top {su : Nat → Int64} {U : Term} (hT : isT U) (h : smR su U) : su (adr U) = dig U := by
  rcases shp U hT with ⟨q, rfl⟩ | ⟨q, d, rfl⟩ | ⟨q, p, v, rfl⟩ | ⟨q, B, S, x, y, rfl⟩
  · exact h
  · exact h
  · exact h
  · exact h.1
def sumN : List Term → Nat
  | [] => 0
  | T :: r => nodT T + sumN r
theorem sumN_app (a b : List Term) : sumN (a ++ b) = sumN a + sumN b := by
  induction a with
  | nil => simp [sumN]
  | cons T r ih => simp only [List.cons_append, sumN, ih]; omega
theorem sumN_kids (T : Term) (hT : isT T) : sumN (kids T) + 1 = nodT T := by
  rcases shp T hT with ⟨q, rfl⟩ | ⟨q, d, rfl⟩ | ⟨q, p, v, rfl⟩ | ⟨q, B, S, x, y, rfl⟩
  · rfl
  · rfl
  · rfl
  · show nodT x + (nodT y + 0) + 1 = 1 + nodT x + nodT y
    omega
theorem nod_pos (T : Term) : 1 ≤ nodT T := by unfold nodT; split <;> omega
theorem sumN_len (L : List Term) : L.length ≤ sumN L := by
  induction L with
  | nil => exact Nat.le_refl _
  | cons T r ih => have := nod_pos T; simp only [List.length_cons, sumN]; omega
