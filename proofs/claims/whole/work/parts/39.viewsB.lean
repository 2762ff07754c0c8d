/-! ways in the model's view; a tree with one node put in another's place -/
/-- the row above the end of a way -/
def abT : Term → Nat → Int32 → Int32
  | .add (.arg q) (.sub (.elem (.arg B) (.arg S)) (.mul x y)), P, a => if stm P B = S then (if bitA P B = 1 then abT y P (nI q) else abT x P (nI q)) else a
  | _, _, a => a
/-- R in the place of the end of a way -/
def repW : Term → Nat → Term → Term
  | .add (.arg q) (.sub (.elem (.arg B) (.arg S)) (.mul x y)), P, R => if stm P B = S then (if bitA P B = 1 then tF q B S x (repW y P R) else tF q B S (repW x P R) y) else R
  | _, _, R => R
/-- a fork that takes a path in -/
def tkS : Term → Nat → Prop
  | .add (.arg _) (.sub (.elem (.arg B) (.arg S)) (.mul _ _)), P => stm P B = S
  | _, _ => False
theorem way_no {T : Term} (hT : isT T) {P : Nat} (h : ¬ tkS T P) (a : Int32) (R : Term) : wayT T P = T ∧ abT T P a = a ∧ repW T P R = R := by
  rcases shp T hT with ⟨q, rfl⟩ | ⟨q, d, rfl⟩ | ⟨q, p, v, rfl⟩ | ⟨q, B, S, x, y, rfl⟩
  · exact ⟨rfl, rfl, rfl⟩
  · exact ⟨rfl, rfl, rfl⟩
  · exact ⟨rfl, rfl, rfl⟩
  · have h : ¬ stm P B = S := h
    simp only [wayT, abT, repW, if_neg h]
    exact ⟨trivial, trivial, trivial⟩
theorem rep_adr {T : Term} (hT : isT T) {P : Nat} (h : tkS T P) (R : Term) : adr (repW T P R) = adr T := by
  rcases shp T hT with ⟨q, rfl⟩ | ⟨q, d, rfl⟩ | ⟨q, p, v, rfl⟩ | ⟨q, B, S, x, y, rfl⟩
  · exact h.elim
  · exact h.elim
  · exact h.elim
  · have h : stm P B = S := h
    simp only [repW, if_pos h]
    split <;> rfl
theorem way1 {q B S P : Nat} {x y : Term} (h : stm P B = S) (hb : bitA P B = 1) (a : Int32) (R : Term) : wayT (tF q B S x y) P = wayT y P ∧ abT (tF q B S x y) P a = abT y P (nI q) ∧ repW (tF q B S x y) P R = tF q B S x (repW y P R) := by
  simp only [wayT, abT, repW, if_pos h, if_pos hb]
  exact ⟨trivial, trivial, trivial⟩
theorem way0 {q B S P : Nat} {x y : Term} (h : stm P B = S) (hb : ¬ bitA P B = 1) (a : Int32) (R : Term) : wayT (tF q B S x y) P = wayT x P ∧ abT (tF q B S x y) P a = abT x P (nI q) ∧ repW (tF q B S x y) P R = tF q B S (repW x P R) y := by
  simp only [wayT, abT, repW, if_pos h, if_neg hb]
  exact ⟨trivial, trivial, trivial⟩
theorem rep_T (T : Term) (hT : isT T) (P : Nat) {R : Term} (hR : isT R) : isT (repW T P R) := by
  refine tr_ind (P := fun T => isT (repW T P R)) ?_ ?_ ?_ ?_ T hT
  · exact fun q => hR
  · exact fun q d => hR
  · exact fun q p v => hR
  · intro q B S x y h1 h2 i1 i2
    simp only [repW]
    split
    · split
      · exact ⟨h1, i2⟩
      · exact ⟨i1, h2⟩
    · exact hR
theorem rep_wrt (T : Term) (hT : isT T) (P : Nat) {R L : Term} : strp R = wrtT (strp (wayT T P)) P L → strp (repW T P R) = wrtT (strp T) P L := by
  refine tr_ind (P := fun T => strp R = wrtT (strp (wayT T P)) P L → strp (repW T P R) = wrtT (strp T) P L) ?_ ?_ ?_ ?_ T hT
  · exact fun q h => h
  · exact fun q d h => h
  · exact fun q p v h => h
  · intro q B S x y _ _ i1 i2 h
    by_cases h1 : stm P B = S
    · by_cases h2 : bitA P B = 1
      · obtain ⟨e1, -, e3⟩ := way1 (q := q) (x := x) (y := y) h1 h2 0 R
        rw [e1] at h
        rw [e3]
        simp only [strp, wrtT, if_pos h1, if_pos h2]
        rw [i2 h]
      · obtain ⟨e1, -, e3⟩ := way0 (q := q) (x := x) (y := y) h1 h2 0 R
        rw [e1] at h
        rw [e3]
        simp only [strp, wrtT, if_pos h1, if_neg h2]
        rw [i1 h]
    · obtain ⟨e1, -, e3⟩ := way_no (T := tF q B S x y) (P := P) ⟨by assumption, by assumption⟩ h1 0 R
      rw [e1] at h
      rw [e3]
      exact h
theorem rep_cnt (T : Term) (hT : isT T) (P : Nat) (R : Term) (z : Nat) : (ids (repW T P R)).count z + (ids (wayT T P)).count z = (ids T).count z + (ids R).count z := by
  refine tr_ind (P := fun T => (ids (repW T P R)).count z + (ids (wayT T P)).count z = (ids T).count z + (ids R).count z) ?_ ?_ ?_ ?_ T hT
  · exact fun q => Nat.add_comm _ _
  · exact fun q d => Nat.add_comm _ _
  · exact fun q p v => Nat.add_comm _ _
  · intro q B S x y t1 t2 i1 i2
    by_cases h1 : stm P B = S
    · by_cases h2 : bitA P B = 1
      · obtain ⟨e1, -, e3⟩ := way1 (q := q) (x := x) (y := y) h1 h2 0 R
        rw [e1, e3]
        simp only [ids, List.count_cons, List.count_append]
        omega
      · obtain ⟨e1, -, e3⟩ := way0 (q := q) (x := x) (y := y) h1 h2 0 R
        rw [e1, e3]
        simp only [ids, List.count_cons, List.count_append]
        omega
    · obtain ⟨e1, -, e3⟩ := way_no (T := tF q B S x y) (P := P) ⟨t1, t2⟩ h1 0 R
      rw [e1, e3]
      exact Nat.add_comm _ _
theorem way_ids (T : Term) (hT : isT T) (P : Nat) : ∀ z ∈ ids (wayT T P), z ∈ ids T := by
  refine tr_ind (P := fun T => ∀ z ∈ ids (wayT T P), z ∈ ids T) ?_ ?_ ?_ ?_ T hT
  · exact fun q z h => h
  · exact fun q d z h => h
  · exact fun q p v z h => h
  · intro q B S x y t1 t2 i1 i2 z hz
    by_cases h1 : stm P B = S
    · by_cases h2 : bitA P B = 1
      · rw [(way1 (q := q) (x := x) (y := y) h1 h2 0 (tE 0)).1] at hz
        exact List.mem_cons_of_mem _ (List.mem_append_right _ (i2 z hz))
      · rw [(way0 (q := q) (x := x) (y := y) h1 h2 0 (tE 0)).1] at hz
        exact List.mem_cons_of_mem _ (List.mem_append_left _ (i1 z hz))
    · rw [(way_no (T := tF q B S x y) (P := P) ⟨t1, t2⟩ h1 0 (tE 0)).1] at hz
      exact hz
theorem way_gd {V : VA} (T : Term) (P : Nat) (h : gdV V T) : gdV V (wayT T P) := by
  refine ⟨way_T T h.1 P, ?_, fun z hz => h.2.2 z (way_ids T h.1 P z hz)⟩
  have h2 := h.2.1
  have hT := h.1
  clear h
  revert h2
  refine tr_ind (P := fun T => vtR V T → vtR V (wayT T P)) ?_ ?_ ?_ ?_ T hT
  · exact fun q h => h
  · exact fun q d h => h
  · exact fun q p v h => h
  · intro q B S x y t1 t2 i1 i2 h
    simp only [wayT]
    split
    · split
      · exact i2 h.2.2
      · exact i1 h.2.1
    · exact h
/-- what Nodup says of a fork -/
theorem nd_F {q B S : Nat} {x y : Term} (h : (ids (tF q B S x y)).Nodup) : q ∉ ids x ∧ q ∉ ids y ∧ (ids x).Nodup ∧ (ids y).Nodup ∧ ∀ z ∈ ids x, z ∉ ids y := by
  have h : (q :: (ids x ++ ids y)).Nodup := h
  obtain ⟨h1, h2⟩ := List.nodup_cons.mp h
  obtain ⟨h3, h4, h5⟩ := List.nodup_append.mp h2
  exact ⟨fun e => h1 (List.mem_append_left _ e), fun e => h1 (List.mem_append_right _ e), h3, h4, fun z hz hz2 => h5 z hz z hz2 rfl⟩
/-- the end of a way changes where it stands -/
theorem vt_set {V V2 : VA} (T : Term) (hT : isT T) (P : Nat) {R : Term} (hag : agV (fun q => ¬ q = adr R) V V2) (hR : vtR V2 R) : (ids T).Nodup → vtR V T → adr R = adr (wayT T P) → vtR V2 (repW T P R) ∧ adr (repW T P R) = adr T := by
  refine tr_ind (P := fun T => (ids T).Nodup → vtR V T → adr R = adr (wayT T P) → vtR V2 (repW T P R) ∧ adr (repW T P R) = adr T) ?_ ?_ ?_ ?_ T hT
  · exact fun q _ _ e => ⟨hR, e⟩
  · exact fun q d _ _ e => ⟨hR, e⟩
  · exact fun q p v _ _ e => ⟨hR, e⟩
  · intro q B S x y t1 t2 i1 i2 hn hv e
    obtain ⟨n1, n2, n3, n4, n5⟩ := nd_F hn
    by_cases h1 : stm P B = S
    · by_cases h2 : bitA P B = 1
      · obtain ⟨e1, -, e3⟩ := way1 (q := q) (x := x) (y := y) h1 h2 0 R
        rw [e1] at e
        obtain ⟨g1, g2⟩ := i2 n4 hv.2.2 e
        have hm : adr R ∈ ids y := by rw [e]; exact way_ids y t2 P _ (adr_ids _ (way_T y t2 P))
        obtain ⟨a1, a2, a3, a4, a5, a6⟩ := hag q (fun h => n2 (h ▸ hm))
        obtain ⟨⟨b1, b2, b3, b4, b5⟩, v1, v2⟩ := hv
        rw [e3]
        exact ⟨⟨⟨a1.trans b1, a2.trans b2, a3.trans b3, a5.trans b4, by rw [g2]; exact a6.trans b5⟩, vt_cg x t1 (hag.mono (fun z hz h => n5 z hz (h ▸ hm))) v1, g1⟩, rfl⟩
      · obtain ⟨e1, -, e3⟩ := way0 (q := q) (x := x) (y := y) h1 h2 0 R
        rw [e1] at e
        obtain ⟨g1, g2⟩ := i1 n3 hv.2.1 e
        have hm : adr R ∈ ids x := by rw [e]; exact way_ids x t1 P _ (adr_ids _ (way_T x t1 P))
        obtain ⟨a1, a2, a3, a4, a5, a6⟩ := hag q (fun h => n1 (h ▸ hm))
        obtain ⟨⟨b1, b2, b3, b4, b5⟩, v1, v2⟩ := hv
        rw [e3]
        exact ⟨⟨⟨a1.trans b1, a2.trans b2, a3.trans b3, by rw [g2]; exact a5.trans b4, a6.trans b5⟩, g1, vt_cg y t2 (hag.mono (fun z hz h => n5 _ hm (h ▸ hz))) v2⟩, rfl⟩
    · obtain ⟨e1, -, e3⟩ := way_no (T := tF q B S x y) (P := P) ⟨t1, t2⟩ h1 0 R
      rw [e1] at e
      rw [e3]
      exact ⟨hR, e⟩
section
variable {ki bi ste : Nat → Int32} {hel : Nat → Int64} {low hgh : Nat → Int32}
theorem ag_low {c : Nat} {a : Int32} : agV (fun q => ¬ q = c) (ki, bi, ste, hel, low, hgh) (ki, bi, ste, hel, upd low c a, hgh) := fun q hq => ⟨rfl, rfl, rfl, rfl, if_neg hq, rfl⟩
theorem ag_hgh {c : Nat} {a : Int32} : agV (fun q => ¬ q = c) (ki, bi, ste, hel, low, hgh) (ki, bi, ste, hel, low, upd hgh c a) := fun q hq => ⟨rfl, rfl, rfl, rfl, rfl, if_neg hq⟩
/-- another node comes to stand below the fork above -/
theorem vt_up (T : Term) (hT : isT T) (P : Nat) : (ids T).Nodup → (∀ q ∈ ids T, q < 1600) → vtR (ki, bi, ste, hel, low, hgh) T → tkS T P → ∀ a, ∃ c, c ∈ ids T ∧ c ∉ ids (wayT T P) ∧ abT T P a = nI c ∧ ((low c = nI (adr (wayT T P)) ∧ ∀ R, vtR (ki, bi, ste, hel, upd low c (nI (adr R)), hgh) R → vtR (ki, bi, ste, hel, upd low c (nI (adr R)), hgh) (repW T P R)) ∨ (¬ low c = nI (adr (wayT T P)) ∧ ∀ R, vtR (ki, bi, ste, hel, low, upd hgh c (nI (adr R))) R → vtR (ki, bi, ste, hel, low, upd hgh c (nI (adr R))) (repW T P R))) := by
  refine tr_ind (P := fun T => (ids T).Nodup → (∀ q ∈ ids T, q < 1600) → vtR (ki, bi, ste, hel, low, hgh) T → tkS T P → ∀ a, ∃ c, c ∈ ids T ∧ c ∉ ids (wayT T P) ∧ abT T P a = nI c ∧ ((low c = nI (adr (wayT T P)) ∧ ∀ R, vtR (ki, bi, ste, hel, upd low c (nI (adr R)), hgh) R → vtR (ki, bi, ste, hel, upd low c (nI (adr R)), hgh) (repW T P R)) ∨ (¬ low c = nI (adr (wayT T P)) ∧ ∀ R, vtR (ki, bi, ste, hel, low, upd hgh c (nI (adr R))) R → vtR (ki, bi, ste, hel, low, upd hgh c (nI (adr R))) (repW T P R)))) ?_ ?_ ?_ ?_ T hT
  · exact fun q _ _ _ h => h.elim
  · exact fun q d _ _ _ h => h.elim
  · exact fun q p v _ _ _ h => h.elim
  · intro q B S x y t1 t2 i1 i2 hn hb hv h1 a
    have h1 : stm P B = S := h1
    obtain ⟨n1, n2, n3, n4, n5⟩ := nd_F hn
    have bx : ∀ z ∈ ids x, z < 1600 := fun z hz => hb z (List.mem_cons_of_mem _ (List.mem_append_left _ hz))
    have by' : ∀ z ∈ ids y, z < 1600 := fun z hz => hb z (List.mem_cons_of_mem _ (List.mem_append_right _ hz))
    obtain ⟨⟨b1, b2, b3, b4, b5⟩, v1, v2⟩ := hv
    by_cases h2 : bitA P B = 1
    · obtain ⟨e1, e2, -⟩ := way1 (q := q) (x := x) (y := y) h1 h2 a (tE 0)
      have e3 := fun R => (way1 (q := q) (x := x) (y := y) h1 h2 a R).2.2
      by_cases h3 : tkS y P
      · obtain ⟨c, c1, c2, c3, c4⟩ := i2 n4 by' v2 h3 (nI q)
        refine ⟨c, List.mem_cons_of_mem _ (List.mem_append_right _ c1), by rw [e1]; exact c2, by rw [e2]; exact c3, ?_⟩
        have hq : ¬ q = c := fun h => n2 (h ▸ c1)
        have hx : ∀ z ∈ ids x, ¬ z = c := fun z hz h => n5 z hz (h ▸ c1)
        rw [e1]
        rcases c4 with ⟨d1, d2⟩ | ⟨d1, d2⟩
        · refine Or.inl ⟨d1, fun R hR => ?_⟩
          rw [e3]
          exact ⟨⟨b1, b2, b3, (if_neg hq).trans b4, by rw [rep_adr t2 h3]; exact b5⟩, vt_cg x t1 (ag_low.mono hx) v1, d2 R hR⟩
        · refine Or.inr ⟨d1, fun R hR => ?_⟩
          rw [e3]
          exact ⟨⟨b1, b2, b3, b4, by rw [rep_adr t2 h3]; exact (if_neg hq).trans b5⟩, vt_cg x t1 (ag_hgh.mono hx) v1, d2 R hR⟩
      · obtain ⟨f1, f2, -⟩ := way_no t2 h3 (nI q) (tE 0)
        have f3 := fun R => (way_no t2 h3 (nI q) R).2.2
        refine ⟨q, List.mem_cons_self, by rw [e1, f1]; exact n2, by rw [e2, f2], Or.inr ⟨?_, fun R hR => ?_⟩⟩
        · rw [e1, f1]
          intro h
          have h7 : adr x = adr y := (nI_eq (lt16 (bx _ (adr_ids x t1))) (lt16 (by' _ (adr_ids y t2)))).mp (b4.symm.trans h)
          exact n5 _ (adr_ids x t1) (h7 ▸ adr_ids y t2)
        · rw [e3, f3]
          exact ⟨⟨b1, b2, b3, b4, if_pos rfl⟩, vt_cg x t1 (ag_hgh.mono (fun z hz h => n1 (h ▸ hz))) v1, hR⟩
    · obtain ⟨e1, e2, -⟩ := way0 (q := q) (x := x) (y := y) h1 h2 a (tE 0)
      have e3 := fun R => (way0 (q := q) (x := x) (y := y) h1 h2 a R).2.2
      by_cases h3 : tkS x P
      · obtain ⟨c, c1, c2, c3, c4⟩ := i1 n3 bx v1 h3 (nI q)
        refine ⟨c, List.mem_cons_of_mem _ (List.mem_append_left _ c1), by rw [e1]; exact c2, by rw [e2]; exact c3, ?_⟩
        have hq : ¬ q = c := fun h => n1 (h ▸ c1)
        have hy : ∀ z ∈ ids y, ¬ z = c := fun z hz h => n5 c c1 (h ▸ hz)
        rw [e1]
        rcases c4 with ⟨d1, d2⟩ | ⟨d1, d2⟩
        · refine Or.inl ⟨d1, fun R hR => ?_⟩
          rw [e3]
          exact ⟨⟨b1, b2, b3, by rw [rep_adr t1 h3]; exact (if_neg hq).trans b4, b5⟩, d2 R hR, vt_cg y t2 (ag_low.mono hy) v2⟩
        · refine Or.inr ⟨d1, fun R hR => ?_⟩
          rw [e3]
          exact ⟨⟨b1, b2, b3, by rw [rep_adr t1 h3]; exact b4, (if_neg hq).trans b5⟩, d2 R hR, vt_cg y t2 (ag_hgh.mono hy) v2⟩
      · obtain ⟨f1, f2, -⟩ := way_no t1 h3 (nI q) (tE 0)
        have f3 := fun R => (way_no t1 h3 (nI q) R).2.2
        refine ⟨q, List.mem_cons_self, by rw [e1, f1]; exact n1, by rw [e2, f2], Or.inl ⟨?_, fun R hR => ?_⟩⟩
        · rw [e1, f1]
          exact b4
        · rw [e3, f3]
          exact ⟨⟨b1, b2, b3, if_pos rfl, b5⟩, hR, vt_cg y t2 (ag_low.mono (fun z hz h => n2 (h ▸ hz))) v2⟩
/-- to erase a leaf: the fork above goes, its other side comes in its place -/
def dlM : Term → Nat → Term
  | .add (.arg q) (.sub (.elem (.arg B) (.arg S)) (.mul x y)), P => if bitA P B = 1 then (if isF y = true then tF q B S x (dlM y P) else x) else (if isF x = true then tF q B S (dlM x P) y else y)
  | T, _ => tE (adr T)
/-- the row above the row above -/
def upT : Term → Nat → Int32 → Int32
  | .add (.arg q) (.sub (.elem (.arg B) (.arg _)) (.mul x y)), P, a => if bitA P B = 1 then (if isF y = true then upT y P (nI q) else a) else (if isF x = true then upT x P (nI q) else a)
  | _, _, a => a
theorem dl_strp (T : Term) (hT : isT T) (P : Nat) : strp (dlM T P) = delT (strp T) P := by
  refine tr_ind (P := fun T => strp (dlM T P) = delT (strp T) P) ?_ ?_ ?_ ?_ T hT
  · exact fun q => rfl
  · exact fun q d => rfl
  · exact fun q p v => rfl
  · intro q B S x y t1 t2 i1 i2
    simp only [dlM, strp, delT]
    rw [isF_strp x t1, isF_strp y t2]
    split
    · split
      · simp only [strp, i2]
      · rfl
    · split
      · simp only [strp, i1]
      · rfl
theorem dl_T (T : Term) (hT : isT T) (P : Nat) : isT (dlM T P) := by
  refine tr_ind (P := fun T => isT (dlM T P)) ?_ ?_ ?_ ?_ T hT
  · exact fun q => trivial
  · exact fun q d => trivial
  · exact fun q p v => trivial
  · intro q B S x y t1 t2 i1 i2
    simp only [dlM]
    split
    · split
      · exact ⟨t1, i2⟩
      · exact t1
    · split
      · exact ⟨i1, t2⟩
      · exact t2
theorem dl_adr {T : Term} (hT : isT T) {P q B S : Nat} {x y : Term} (he : T = tF q B S x y) (h : (bitA P B = 1 ∧ isF y = true) ∨ (¬ bitA P B = 1 ∧ isF x = true)) : adr (dlM T P) = adr T := by
  subst he
  simp only [dlM]
  rcases h with ⟨h1, h2⟩ | ⟨h1, h2⟩
  · rw [if_pos h1, if_pos h2]; rfl
  · rw [if_neg h1, if_pos h2]; rfl
theorem nF {T : Term} (hT : isT T) (h : ¬ isF T = true) (P : Nat) : ¬ tkS T P := by
  rcases shp T hT with ⟨q, rfl⟩ | ⟨q, d, rfl⟩ | ⟨q, p, v, rfl⟩ | ⟨q, B, S, x, y, rfl⟩
  · exact id
  · exact id
  · exact id
  · exact absurd rfl h
end
