/-! erasing in rows; what a walk through a view finds -/
theorem ids_nF {T : Term} (hT : isT T) (h : ¬ isF T = true) : ids T = [adr T] := by
  rcases shp T hT with ⟨q, rfl⟩ | ⟨q, d, rfl⟩ | ⟨q, p, v, rfl⟩ | ⟨q, B, S, x, y, rfl⟩
  · rfl
  · rfl
  · rfl
  · exact absurd rfl h
theorem cnt_mem {a b : List Nat} (h : ∀ z : Nat, a.count z ≤ b.count z) {z : Nat} (hz : z ∈ a) : z ∈ b := List.count_pos_iff.mp (Nat.lt_of_lt_of_le (List.count_pos_iff.mpr hz) (h z))
section
variable {ki bi ste : Nat → Int32} {hel : Nat → Int64} {low hgh : Nat → Int32}
theorem vt_del (T : Term) (hT : isT T) (P : Nat) : (ids T).Nodup → (∀ q ∈ ids T, q < 1600) → vtR (ki, bi, ste, hel, low, hgh) T → isF T = true → lfT (wayT T P) P = true → ∀ a u0, ∃ c o, c ∈ ids T ∧ abT T P a = nI c ∧ (isT o ∧ adr o ∈ ids T ∧ ∀ z, (ids (dlM T P)).count z + [adr (wayT T P), c].count z = (ids T).count z) ∧ ((low c = nI (adr (wayT T P)) ∧ hgh c = nI (adr o)) ∨ (¬ low c = nI (adr (wayT T P)) ∧ low c = nI (adr o))) ∧ ((c = adr T ∧ dlM T P = o ∧ upT T P u0 = u0 ∧ vtR (ki, bi, ste, hel, low, hgh) o) ∨ (adr (dlM T P) = adr T ∧ ∃ u, u ∈ ids T ∧ u ≠ c ∧ upT T P u0 = nI u ∧ ((low u = nI c ∧ vtR (ki, bi, ste, hel, upd low u (nI (adr o)), hgh) (dlM T P)) ∨ (¬ low u = nI c ∧ vtR (ki, bi, ste, hel, low, upd hgh u (nI (adr o))) (dlM T P))))) := by
  refine tr_ind (P := fun T => (ids T).Nodup → (∀ q ∈ ids T, q < 1600) → vtR (ki, bi, ste, hel, low, hgh) T → isF T = true → lfT (wayT T P) P = true → ∀ a u0, ∃ c o, c ∈ ids T ∧ abT T P a = nI c ∧ (isT o ∧ adr o ∈ ids T ∧ ∀ z, (ids (dlM T P)).count z + [adr (wayT T P), c].count z = (ids T).count z) ∧ ((low c = nI (adr (wayT T P)) ∧ hgh c = nI (adr o)) ∨ (¬ low c = nI (adr (wayT T P)) ∧ low c = nI (adr o))) ∧ ((c = adr T ∧ dlM T P = o ∧ upT T P u0 = u0 ∧ vtR (ki, bi, ste, hel, low, hgh) o) ∨ (adr (dlM T P) = adr T ∧ ∃ u, u ∈ ids T ∧ u ≠ c ∧ upT T P u0 = nI u ∧ ((low u = nI c ∧ vtR (ki, bi, ste, hel, upd low u (nI (adr o)), hgh) (dlM T P)) ∨ (¬ low u = nI c ∧ vtR (ki, bi, ste, hel, low, upd hgh u (nI (adr o))) (dlM T P)))))) ?_ ?_ ?_ ?_ T hT
  · exact fun q _ _ _ h => by cases h
  · exact fun q d _ _ _ h => by cases h
  · exact fun q p v _ _ _ h => by cases h
  · intro q B S x y t1 t2 i1 i2 hn hb hv _ hl a u0
    obtain ⟨n1, n2, n3, n4, n5⟩ := nd_F hn
    have bx : ∀ z ∈ ids x, z < 1600 := fun z hz => hb z (List.mem_cons_of_mem _ (List.mem_append_left _ hz))
    have by' : ∀ z ∈ ids y, z < 1600 := fun z hz => hb z (List.mem_cons_of_mem _ (List.mem_append_right _ hz))
    have bq : q < 1600 := hb q List.mem_cons_self
    obtain ⟨⟨b1, b2, b3, b4, b5⟩, v1, v2⟩ := hv
    have b4 : low q = nI (adr x) := b4
    have b5 : hgh q = nI (adr y) := b5
    have mx := adr_ids x t1
    have my := adr_ids y t2
    have hxy : ¬ adr x = adr y := fun h7 => n5 _ mx (h7 ▸ my)
    have h1 : stm P B = S := Decidable.byContradiction fun h => by
      rw [(way_no (T := tF q B S x y) (P := P) ⟨t1, t2⟩ h 0 (tE 0)).1] at hl
      cases hl
    by_cases h2 : bitA P B = 1
    · obtain ⟨e1, e2, -⟩ := way1 (q := q) (x := x) (y := y) h1 h2 a (tE 0)
      rw [e1] at hl
      by_cases h3 : isF y = true
      · obtain ⟨c, o, c1, c2, ⟨c3, c4, c5⟩, c6, c7⟩ := i2 n4 by' v2 h3 hl (nI q) (nI q)
        have hd : dlM (tF q B S x y) P = tF q B S x (dlM y P) := by simp only [dlM, if_pos h2, if_pos h3]
        have hu : upT (tF q B S x y) P u0 = upT y P (nI q) := by simp only [upT, if_pos h2, if_pos h3]
        have hqc : ¬ q = c := fun h => n2 (h ▸ c1)
        refine ⟨c, o, List.mem_cons_of_mem _ (List.mem_append_right _ c1), by rw [e2]; exact c2, ⟨c3, List.mem_cons_of_mem _ (List.mem_append_right _ c4), fun z => ?_⟩, by rw [e1]; exact c6, Or.inr ⟨by rw [hd]; rfl, ?_⟩⟩
        · have := c5 z
          rw [hd, e1]
          simp only [ids, List.count_cons, List.count_append] at this ⊢
          omega
        · rcases c7 with ⟨g1, g2, g3, g4⟩ | ⟨g1, u, g2, g3, g4, g5⟩
          · refine ⟨q, List.mem_cons_self, hqc, by rw [hu]; exact g3, Or.inr ⟨fun h => ?_, ?_⟩⟩
            · rw [b4, g1] at h
              exact hxy ((nI_eq (lt16 (bx _ mx)) (lt16 (by' _ my))).mp h)
            · rw [hd, g2]
              have hqo : q ∉ ids o := fun h => n2 (cnt_mem (fun z => by have := c5 z; rw [g2] at this; omega) h)
              exact ⟨⟨b1, b2, b3, b4, if_pos rfl⟩, vt_cg x t1 (ag_hgh.mono (fun z hz h => n1 (h ▸ hz))) v1, vt_cg o c3 (ag_hgh.mono (fun z hz h => hqo (h ▸ hz))) g4⟩
          · have hqu : ¬ q = u := fun h => n2 (h ▸ g2)
            have hx : ∀ z ∈ ids x, ¬ z = u := fun z hz h => n5 z hz (h ▸ g2)
            refine ⟨u, List.mem_cons_of_mem _ (List.mem_append_right _ g2), g3, by rw [hu]; exact g4, ?_⟩
            rw [hd]
            rcases g5 with ⟨k1, k2⟩ | ⟨k1, k2⟩
            · exact Or.inl ⟨k1, ⟨⟨b1, b2, b3, (if_neg hqu).trans b4, by rw [g1]; exact b5⟩, vt_cg x t1 (ag_low.mono hx) v1, k2⟩⟩
            · exact Or.inr ⟨k1, ⟨⟨b1, b2, b3, b4, by rw [g1]; exact (if_neg hqu).trans b5⟩, vt_cg x t1 (ag_hgh.mono hx) v1, k2⟩⟩
      · obtain ⟨f1, f2, -⟩ := way_no t2 (nF t2 h3 P) (nI q) (tE 0)
        have hd : dlM (tF q B S x y) P = x := by simp only [dlM, if_pos h2]; rw [if_neg h3]
        have hu : upT (tF q B S x y) P u0 = u0 := by simp only [upT, if_pos h2]; rw [if_neg h3]
        refine ⟨q, x, List.mem_cons_self, by rw [e2, f2], ⟨t1, List.mem_cons_of_mem _ (List.mem_append_left _ mx), fun z => ?_⟩, Or.inr ⟨?_, b4⟩, Or.inl ⟨rfl, hd, hu, v1⟩⟩
        · rw [hd, e1, f1]
          simp only [ids, List.count_cons, List.count_append, ids_nF t2 h3]
          omega
        · rw [e1, f1, b4]
          exact fun h => hxy ((nI_eq (lt16 (bx _ mx)) (lt16 (by' _ my))).mp h)
    · obtain ⟨e1, e2, -⟩ := way0 (q := q) (x := x) (y := y) h1 h2 a (tE 0)
      rw [e1] at hl
      by_cases h3 : isF x = true
      · obtain ⟨c, o, c1, c2, ⟨c3, c4, c5⟩, c6, c7⟩ := i1 n3 bx v1 h3 hl (nI q) (nI q)
        have hd : dlM (tF q B S x y) P = tF q B S (dlM x P) y := by simp only [dlM, if_neg h2]; rw [if_pos h3]
        have hu : upT (tF q B S x y) P u0 = upT x P (nI q) := by simp only [upT, if_neg h2]; rw [if_pos h3]
        have hqc : ¬ q = c := fun h => n1 (h ▸ c1)
        refine ⟨c, o, List.mem_cons_of_mem _ (List.mem_append_left _ c1), by rw [e2]; exact c2, ⟨c3, List.mem_cons_of_mem _ (List.mem_append_left _ c4), fun z => ?_⟩, by rw [e1]; exact c6, Or.inr ⟨by rw [hd]; rfl, ?_⟩⟩
        · have := c5 z
          rw [hd, e1]
          simp only [ids, List.count_cons, List.count_append] at this ⊢
          omega
        · rcases c7 with ⟨g1, g2, g3, g4⟩ | ⟨g1, u, g2, g3, g4, g5⟩
          · refine ⟨q, List.mem_cons_self, hqc, by rw [hu]; exact g3, Or.inl ⟨by rw [b4, g1], ?_⟩⟩
            rw [hd, g2]
            have hqo : q ∉ ids o := fun h => n1 (cnt_mem (fun z => by have := c5 z; rw [g2] at this; omega) h)
            exact ⟨⟨b1, b2, b3, if_pos rfl, b5⟩, vt_cg o c3 (ag_low.mono (fun z hz h => hqo (h ▸ hz))) g4, vt_cg y t2 (ag_low.mono (fun z hz h => n2 (h ▸ hz))) v2⟩
          · have hqu : ¬ q = u := fun h => n1 (h ▸ g2)
            have hy : ∀ z ∈ ids y, ¬ z = u := fun z hz h => n5 u g2 (h ▸ hz)
            refine ⟨u, List.mem_cons_of_mem _ (List.mem_append_left _ g2), g3, by rw [hu]; exact g4, ?_⟩
            rw [hd]
            rcases g5 with ⟨k1, k2⟩ | ⟨k1, k2⟩
            · exact Or.inl ⟨k1, ⟨⟨b1, b2, b3, by rw [g1]; exact (if_neg hqu).trans b4, b5⟩, k2, vt_cg y t2 (ag_low.mono hy) v2⟩⟩
            · exact Or.inr ⟨k1, ⟨⟨b1, b2, b3, by rw [g1]; exact b4, (if_neg hqu).trans b5⟩, k2, vt_cg y t2 (ag_hgh.mono hy) v2⟩⟩
      · obtain ⟨f1, f2, -⟩ := way_no t1 (nF t1 h3 P) (nI q) (tE 0)
        have hd : dlM (tF q B S x y) P = y := by simp only [dlM, if_neg h2]; rw [if_neg h3]
        have hu : upT (tF q B S x y) P u0 = u0 := by simp only [upT, if_neg h2]; rw [if_neg h3]
        refine ⟨q, y, List.mem_cons_self, by rw [e2, f2], ⟨t2, List.mem_cons_of_mem _ (List.mem_append_right _ my), fun z => ?_⟩, Or.inl ⟨by rw [e1, f1]; exact b4, b5⟩, Or.inl ⟨rfl, hd, hu, v2⟩⟩
        rw [hd, e1, f1]
        simp only [ids, List.count_cons, List.count_append, ids_nF t1 h3]
        omega
end
/-- the least leaf a .. b, or 70000 -/
def llT : Term → Nat → Nat → Nat
  | .add (.arg _) (.elem (.arg P) (.long _)), a, b => if a ≤ P ∧ P ≤ b then P else 70000
  | .add (.arg _) (.sub (.elem (.arg _) (.arg _)) (.mul x y)), a, b => min (llT x a b) (llT y a b)
  | _, _, _ => 70000
/-- the least hidden path a .. b, or 70000 -/
def lhT : Term → Nat → Nat → Nat → Nat → Nat
  | .add (.arg _) (.long _), f, t, a, b => if max f a ≤ t ∧ max f a ≤ b then max f a else 70000
  | .add (.arg _) (.sub (.elem (.arg B) (.arg S)) (.mul x y)), _, _, a, b => min (lhT x S (S + 2 ^ (15 - B) - 1) a b) (lhT y (S + 2 ^ (15 - B)) (S + 2 ^ (16 - B) - 1) a b)
  | _, _, _, _, _ => 70000
def hmT : Term → Nat
  | .add (.arg _) (.long _) => 1
  | .add (.arg _) (.sub (.elem (.arg _) (.arg _)) (.mul x y)) => hmT x + hmT y
  | _ => 0
theorem hm_le (T : Term) (hT : isT T) : hmT T ≤ nodT T := by
  refine tr_ind (P := fun T => hmT T ≤ nodT T) ?_ ?_ ?_ ?_ T hT
  · exact fun q => Nat.zero_le _
  · exact fun q d => Nat.le_refl _
  · exact fun q p v => Nat.zero_le _
  · intro q B S x y _ _ i1 i2
    simp only [hmT, nodT]; omega
theorem cn_le (T : Term) (hT : isT T) (a b : Nat) : cntT T a b ≤ nodT T := by
  refine tr_ind (P := fun T => cntT T a b ≤ nodT T) ?_ ?_ ?_ ?_ T hT
  · exact fun q => Nat.zero_le _
  · exact fun q d => Nat.zero_le _
  · intro q p v; simp only [cntT, nodT]; split <;> omega
  · intro q B S x y _ _ i1 i2
    simp only [cntT, nodT]; omega
theorem hm_hid (T : Term) (hT : isT T) : ∀ k f t, fitT T k → f < 65536 → hidT T f t 0 65535 = hmT T := by
  refine tr_ind (P := fun T => ∀ k f t, fitT T k → f < 65536 → hidT T f t 0 65535 = hmT T) ?_ ?_ ?_ ?_ T hT
  · exact fun q k f t _ _ => rfl
  · intro q d k f t _ h
    exact if_pos ⟨by omega, Nat.zero_le _⟩
  · exact fun q p v k f t _ _ => rfl
  · intro q B S x y _ _ i1 i2 k f t h _
    obtain ⟨⟨a1, a2, a3, a4⟩, a5, a6⟩ := fitF h
    have b2 := pw_s a1
    have hp := Nat.two_pow_pos (15 - B)
    simp only [hidT, hmT]
    rw [i1 _ _ _ a5 (by omega), i2 _ _ _ a6 (by omega)]
theorem lh_hid (T : Term) (hT : isT T) {a b : Nat} (hab : a ≤ b) (hb : b < 65536) : ∀ k f t, fitT T k → f ≤ t → (lhT T f t a b < 70000 ↔ 0 < hidT T f t a b) ∧ lhT T f t a b ≤ 70000 := by
  refine tr_ind (P := fun T => ∀ k f t, fitT T k → f ≤ t → (lhT T f t a b < 70000 ↔ 0 < hidT T f t a b) ∧ lhT T f t a b ≤ 70000) ?_ ?_ ?_ ?_ T hT
  · intro q k f t _ _; simp [lhT, hidT]
  · intro q d k f t _ h
    simp only [lhT, hidT]
    split <;> split <;> omega
  · intro q p v k f t _ _; simp [lhT, hidT]
  · intro q B S x y _ _ i1 i2 k f t h _
    obtain ⟨⟨a1, a2, a3, a4⟩, a5, a6⟩ := fitF h
    have b2 := pw_s a1
    have hp := Nat.two_pow_pos (15 - B)
    have j1 := i1 _ S (S + 2 ^ (15 - B) - 1) a5 (by omega)
    have j2 := i2 _ (S + 2 ^ (15 - B)) (S + 2 ^ (16 - B) - 1) a6 (by omega)
    simp only [lhT, hidT]
    omega
theorem ll_le (T : Term) (hT : isT T) {a b : Nat} (hb : b < 65536) : llT T a b ≤ 70000 := by
  refine tr_ind (P := fun T => llT T a b ≤ 70000) ?_ ?_ ?_ ?_ T hT
  · exact fun q => Nat.le_refl _
  · exact fun q d => Nat.le_refl _
  · intro q p v; simp only [llT]; split <;> omega
  · intro q B S x y _ _ i1 i2
    simp only [llT]; omega
/-- the three answers of next -/
theorem nxt (T : Term) (hT : isT T) {a : Nat} (ha : a < 65536) : ∀ F k, okT T F k → (F + 1) * 2 ^ k ≤ 65536 → (llT T a 65535 = 70000 ∨ (F * 2 ^ k ≤ llT T a 65535 ∧ llT T a 65535 < (F + 1) * 2 ^ k)) ∧ (lhT T (F * 2 ^ k) ((F + 1) * 2 ^ k - 1) a 65535 = 70000 ∨ (F * 2 ^ k ≤ lhT T (F * 2 ^ k) ((F + 1) * 2 ^ k - 1) a 65535 ∧ lhT T (F * 2 ^ k) ((F + 1) * 2 ^ k - 1) a 65535 < (F + 1) * 2 ^ k)) ∧ ((lstT T ((F + 1) * 2 ^ k - 1) a = -2 ∧ llT T a 65535 = 70000 ∧ lhT T (F * 2 ^ k) ((F + 1) * 2 ^ k - 1) a 65535 = 70000) ∨ (lstT T ((F + 1) * 2 ^ k - 1) a = -4 ∧ lhT T (F * 2 ^ k) ((F + 1) * 2 ^ k - 1) a 65535 < llT T a 65535) ∨ (lstT T ((F + 1) * 2 ^ k - 1) a = nI (llT T a 65535) ∧ llT T a 65535 < 65536 ∧ llT T a 65535 < lhT T (F * 2 ^ k) ((F + 1) * 2 ^ k - 1) a 65535)) := by
  refine tr_ind (P := fun T => ∀ F k, okT T F k → (F + 1) * 2 ^ k ≤ 65536 → (llT T a 65535 = 70000 ∨ (F * 2 ^ k ≤ llT T a 65535 ∧ llT T a 65535 < (F + 1) * 2 ^ k)) ∧ (lhT T (F * 2 ^ k) ((F + 1) * 2 ^ k - 1) a 65535 = 70000 ∨ (F * 2 ^ k ≤ lhT T (F * 2 ^ k) ((F + 1) * 2 ^ k - 1) a 65535 ∧ lhT T (F * 2 ^ k) ((F + 1) * 2 ^ k - 1) a 65535 < (F + 1) * 2 ^ k)) ∧ ((lstT T ((F + 1) * 2 ^ k - 1) a = -2 ∧ llT T a 65535 = 70000 ∧ lhT T (F * 2 ^ k) ((F + 1) * 2 ^ k - 1) a 65535 = 70000) ∨ (lstT T ((F + 1) * 2 ^ k - 1) a = -4 ∧ lhT T (F * 2 ^ k) ((F + 1) * 2 ^ k - 1) a 65535 < llT T a 65535) ∨ (lstT T ((F + 1) * 2 ^ k - 1) a = nI (llT T a 65535) ∧ llT T a 65535 < 65536 ∧ llT T a 65535 < lhT T (F * 2 ^ k) ((F + 1) * 2 ^ k - 1) a 65535))) ?_ ?_ ?_ ?_ T hT
  · exact fun q F k h => h.elim
  · intro q d F k _ hF
    have hp := Nat.two_pow_pos k
    have hm : F * 2 ^ k + 2 ^ k = (F + 1) * 2 ^ k := by rw [Nat.add_mul, Nat.one_mul]
    simp only [llT, lhT, lstT]
    by_cases h1 : a ≤ (F + 1) * 2 ^ k - 1
    · rw [if_pos h1, if_pos (show max (F * 2 ^ k) a ≤ (F + 1) * 2 ^ k - 1 ∧ max (F * 2 ^ k) a ≤ 65535 by omega)]
      exact ⟨Or.inl (by trivial), Or.inr (by omega), Or.inr (Or.inl ⟨(by trivial), by omega⟩)⟩
    · rw [if_neg h1, if_neg (show ¬ (max (F * 2 ^ k) a ≤ (F + 1) * 2 ^ k - 1 ∧ max (F * 2 ^ k) a ≤ 65535) by omega)]
      exact ⟨Or.inl (by trivial), Or.inl (by trivial), Or.inl ⟨(by trivial), (by trivial), (by trivial)⟩⟩
  · intro q P v F k h hF
    have h : P / 2 ^ k = F := h
    have h3 := pl_lt h
    simp only [llT, lhT, lstT]
    by_cases h1 : a ≤ P
    · rw [if_pos h1, if_pos (show a ≤ P ∧ P ≤ 65535 by omega)]
      exact ⟨Or.inr ⟨h3.2, h3.1⟩, Or.inl (by trivial), Or.inr (Or.inr ⟨(by trivial), by omega, by omega⟩)⟩
    · rw [if_neg h1, if_neg (show ¬ (a ≤ P ∧ P ≤ 65535) by omega)]
      exact ⟨Or.inl (by trivial), Or.inl (by trivial), Or.inl ⟨(by trivial), (by trivial), (by trivial)⟩⟩
  · intro q B S x y t1 t2 i1 i2 F k hok hF
    obtain ⟨⟨a1, a2, a3, a4⟩, a5, a6⟩ := okF hok
    have b1 := pl_end a1 a2 a3 a4
    have b2 := pw_s a1
    have b3 := stm_lo a1 a4
    have hp := Nat.two_pow_pos (15 - B)
    have b4 : (S / 2 ^ (15 - B) + 1) * 2 ^ (15 - B) = S + 2 ^ (15 - B) := by rw [Nat.add_mul, Nat.one_mul, b3]
    have b5 : (S / 2 ^ (15 - B) + 1 + 1) * 2 ^ (15 - B) = S + 2 ^ (16 - B) := by rw [Nat.add_mul, Nat.one_mul, b4]; omega
    have b6 := (pl_lt a3).2
    have j1 := i1 _ _ a5 (by omega)
    have j2 := i2 _ _ a6 (by omega)
    rw [b4, b3] at j1
    rw [b5, b4] at j2
    simp only [llT, lhT, lstT]
    generalize llT x a 65535 = l1 at *
    generalize llT y a 65535 = l2 at *
    generalize lhT x S (S + 2 ^ (15 - B) - 1) a 65535 = m1 at *
    generalize lhT y (S + 2 ^ (15 - B)) (S + 2 ^ (16 - B) - 1) a 65535 = m2 at *
    obtain ⟨c1, c2, c3⟩ := j1
    obtain ⟨d1, d2, d3⟩ := j2
    refine ⟨by omega, by omega, ?_⟩
    rcases c3 with ⟨e1, e2, e3⟩ | ⟨e1, e2⟩ | ⟨e1, e2, e3⟩
    · rw [e1, if_pos rfl, e2, e3]
      rcases d3 with ⟨g1, g2, g3⟩ | ⟨g1, g2⟩ | ⟨g1, g2, g3⟩
      · exact Or.inl ⟨g1, by omega, by omega⟩
      · exact Or.inr (Or.inl ⟨g1, by omega⟩)
      · refine Or.inr (Or.inr ⟨?_, by omega, by omega⟩)
        rw [g1, show min 70000 l2 = l2 by omega]
    · rw [e1, if_neg (by decide)]
      exact Or.inr (Or.inl ⟨rfl, by omega⟩)
    · rw [e1, if_neg (nI_m2 (by omega))]
      refine Or.inr (Or.inr ⟨?_, by omega, by omega⟩)
      rw [show min l1 l2 = l1 by omega]
