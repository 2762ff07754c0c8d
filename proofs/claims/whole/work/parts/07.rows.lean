/-! blocks, branches, entries, returns, calls over named cells -/
def Fr (ad : Nat → Nat) (n sz : Nat) : Nat → Prop := fun q => (∃ k, k < n ∧ q = ad k) ∨ sz ≤ q
def CPre (D : va_G) (ca : Nat → ClassId) (ad : Nat → Nat) (ws : List va_E) (sz : Nat) (av : List Value) (N : Heap → Prop) : Array Value → State → Prop := va_Pc (av.map (cv ad)) (fun U => U.heap.size = sz ∧ va_P D vwCl (cw ad ca 0 ws) U.heap ∧ KS D ca U ∧ N U.heap)
def CQ (D : va_G) (ca : Nat → ClassId) (ad : Nat → Nat) (G : Option Value → List va_E → Heap → Prop) (A : Nat → Prop) : Array Value → State → Outcome → State → Prop := fun _ st oc t => (∃ (v : Option Value) (ws' : List va_E), oc = .returned (v.map (cv ad)) ∧ va_P D vwCl (cw ad ca 0 ws') t.heap ∧ G v ws' t.heap) ∧ va_F A st t
/-- a method's contract, over the cells ws, with the answer and the cells behind it as G says -/
def Ct (l : Launch) (y : MethodName) (bytes : ByteArray) (maxL : Nat) (ret : Option FieldType) (rm : Room) (D : va_G) (ca : Nat → ClassId) (ad : Nat → Nat) (ws : List va_E) (n : Nat) (av : List Value) (N : Heap → Prop) (G : Option Value → List va_E → Heap → Prop) : Prop :=
  ∀ sz : Nat, Met l y (Cond.code y bytes maxL ret :: tb) rm (CPre D ca ad ws sz av N) (CQ D ca ad G (Fr ad n sz)) rm.cells rm.slots (Fr ad n sz)
theorem lv_args_cl (ad : Nat → Nat) : ∀ (av : List Value) (i : Nat), lv_args i (av.map (cv ad)) = cl ad (lv_args i av) := by
  intro av
  induction av with
  | nil => intro i; rfl
  | cons v r ih =>
    intro i
    show (i, cv ad v) :: lv_args (if (cv ad v).category = 2 then i + 2 else i + 1) (r.map (cv ad)) = _
    rw [ih, cv_cat]
    rfl
theorem ev1_len {nL : Nat} {i : Instr} {w : Value} {a b : Nat} {lv : List (Nat × Value)} {st : List Value} {ws : List va_E} {cnd cnd' : Prop} {S' : AS} (h : ev1 nL i w a b lv st ws cnd = some (S', cnd')) : S'.2.2.length = ws.length := by
  cases i <;> simp only [ev1] at h <;> (repeat' split at h) <;> first | (cases h; done) | (cases h; rfl) | (cases h; rename_i hws; rw [(setl_eq _ _ _ _ hws).1]; simp)
section
variable {p : Program} {l : Launch} {e : Env} {R : Room} {s : State} {m : MethodId} {args : Array Value} {below : List Frame} {meth : Method} {c : Code} {cells slots : Nat} {Q : State → Prop}
variable {cc : ByteArray} {nL n : Nat} {own : String} {D : va_G} {ca : Nat → ClassId} {ad : Nat → Nat} {A : Nat → Prop} {N : Heap → Prop} {ft : List (Nat × Nat × Nat)} {ct : List (Nat × Value)}
theorem seg (C : Cx p s m args c cc nL own D ca ad A N n) (hft : FTo own ft) (hct : CTo own ct) (qe : Nat) : ∀ (blk : List Ent) (S S' : AS) (c0 c' : Prop), okB ft ct cc qe blk = true → evB nL blk S c0 = some (S', c') → S.2.2.length = n → c' → Wa p l e R s m args below meth c cells slots Q D ca ad A nL N S' qe → c0 ∧ Wa p l e R s m args below meth c cells slots Q D ca ad A nL N S (hdq qe blk) := by
  intro blk
  induction blk with
  | nil =>
    intro S S' c0 c' _ hev _ hc k
    cases hev
    exact ⟨hc, k⟩
  | cons x r ih =>
    intro S S' c0 c' hok hev hn hc k
    simp only [okB, Bool.and_eq_true, decide_eq_true_eq] at hok
    obtain ⟨h1, h2, h3, h4⟩ := hok
    obtain ⟨lv, st, ws⟩ := S
    obtain ⟨q0, i0, w0, a0, b0⟩ := x
    simp only [evB] at hev
    split at hev
    next S1 c1 he =>
      obtain ⟨g1, g2⟩ := ih S1 S' c1 c' h4 hev ((ev1_len he).trans hn) hc k
      have h5 := Nat.eq_of_beq_eq_true h3
      obtain ⟨j1, -, j3⟩ := ev1_sound (l := l) (e := e) (R := R) (below := below) (meth := meth) (cells := cells) (slots := slots) (Q := Q) C hft hct h1 h2 he hn g1 (by rw [h5]; exact g2)
      exact ⟨j1, j3⟩
    next => cases hev
/-- a stretch -/
theorem sg (C : Cx p s m args c cc nL own D ca ad A N n) (hft : FTo own ft) (hct : CTo own ct) {qe q : Nat} {blk : List Ent} {S S' : AS} {c' : Prop} (hok : okB ft ct cc qe blk = true) (hq : hdq qe blk = q) (hev : evB nL blk S True = some (S', c')) (hn : S.2.2.length = n) (hc : c') (k : Wa p l e R s m args below meth c cells slots Q D ca ad A nL N S' qe) : Wa p l e R s m args below meth c cells slots Q D ca ad A nL N S q := hq ▸ (seg C hft hct qe blk S S' True c' hok hev hn hc k).2
/-- a stretch that reads and writes no array -/
theorem sg0 (C : Cx p s m args c cc nL own D ca ad A N n) (hft : FTo own ft) (hct : CTo own ct) {qe q : Nat} {blk : List Ent} {S S' : AS} (hok : okB ft ct cc qe blk = true) (hq : hdq qe blk = q) (hev : evB nL blk S True = some (S', True)) (hn : S.2.2.length = n) (k : Wa p l e R s m args below meth c cells slots Q D ca ad A nL N S' qe) : Wa p l e R s m args below meth c cells slots Q D ca ad A nL N S q := sg C hft hct hok hq hev hn trivial k
theorem Wa.ex {α : Type} {P : α → Heap → Prop} {S : AS} {pc : Nat} (h : ∀ x, Wa p l e R s m args below meth c cells slots Q D ca ad A nL (P x) S pc) : Wa p l e R s m args below meth c cells slots Q D ca ad A nL (fun H => ∃ x, P x H) S pc := fun H locs ls h1 h2 h3 ⟨x, h4⟩ => h x H locs ls h1 h2 h3 h4
theorem Wa.and {P : Prop} {S : AS} {pc : Nat} (h : P → Wa p l e R s m args below meth c cells slots Q D ca ad A nL N S pc) : Wa p l e R s m args below meth c cells slots Q D ca ad A nL (fun H => P ∧ N H) S pc := fun H locs ls h1 h2 h3 h4 => h h4.1 H locs ls h1 h2 h3 h4.2
theorem Wa.mono {N2 : Heap → Prop} {S : AS} {pc : Nat} (hN : ∀ H, N H → N2 H) (h : Wa p l e R s m args below meth c cells slots Q D ca ad A nL N2 S pc) : Wa p l e R s m args below meth c cells slots Q D ca ad A nL N S pc := fun H locs ls h1 h2 h3 h4 => h H locs ls h1 h2 h3 (hN H h4)
theorem Wa.wid {k1 k2 : Nat} {S : AS} {pc : Nat} (h1 : cells ≤ k1) (h2 : slots ≤ k2) (h : Wa p l e R s m args below meth c k1 k2 Q D ca ad A nL N S pc) : Wa p l e R s m args below meth c cells slots Q D ca ad A nL N S pc := fun H locs ls a1 a2 a3 a4 => W.widen h1 h2 (h H locs ls a1 a2 a3 a4)
/-- fewer locals -/
theorem Wa.lv {lv lv2 : List (Nat × Value)} {st : List Value} {ws : List va_E} {pc : Nat} (hs : ∀ x ∈ lv2, x ∈ lv) (h : Wa p l e R s m args below meth c cells slots Q D ca ad A nL N (lv2, st, ws) pc) : Wa p l e R s m args below meth c cells slots Q D ca ad A nL N (lv, st, ws) pc := fun H locs ls h1 h2 h3 h4 => h H locs ls ⟨h1.1, h1.2.1, fun x hx => by
  obtain ⟨y, hy, rfl⟩ := List.mem_map.mp hx
  exact h1.2.2 _ (List.mem_map.mpr ⟨y, hs y hy, rfl⟩)⟩ h2 h3 h4
theorem b1_eq (C : Cx p s m args c cc nL own D ca ad A N n) {x : Int32} {off : Int} {tgt pc : Nat} {lv : List (Nat × Value)} {st : List Value} {ws : List va_E} (hdg : decode cc pc = .ok (.ifCond .eq off, 3)) (ht : (pc : Int) + off = (tgt : Int)) (kt : x = 0 → Wa p l e R s m args below meth c cells slots Q D ca ad A nL N (lv, st, ws) tgt) (kf : ¬ x = 0 → Wa p l e R s m args below meth c cells slots Q D ca ad A nL N (lv, st, ws) (pc + 3)) : Wa p l e R s m args below meth c cells slots Q D ca ad A nL N (lv, .int x :: st, ws) pc :=
  fun H locs ls h1 h2 h3 h4 => lv_if_eq C.1.1 C.1.2.1 hdg ht (fun q => kt q H locs ls h1 h2 h3 h4) (fun q => kf q H locs ls h1 h2 h3 h4)
theorem b2_eq (C : Cx p s m args c cc nL own D ca ad A N n) {x y : Int32} {off : Int} {tgt pc : Nat} {lv : List (Nat × Value)} {st : List Value} {ws : List va_E} (hdg : decode cc pc = .ok (.if_icmp .eq off, 3)) (ht : (pc : Int) + off = (tgt : Int)) (kt : x = y → Wa p l e R s m args below meth c cells slots Q D ca ad A nL N (lv, st, ws) tgt) (kf : ¬ x = y → Wa p l e R s m args below meth c cells slots Q D ca ad A nL N (lv, st, ws) (pc + 3)) : Wa p l e R s m args below meth c cells slots Q D ca ad A nL N (lv, .int y :: .int x :: st, ws) pc :=
  fun H locs ls h1 h2 h3 h4 => lv_icmp_eq C.1.1 C.1.2.1 hdg ht (fun q => kt q H locs ls h1 h2 h3 h4) (fun q => kf q H locs ls h1 h2 h3 h4)
theorem b1_ne (C : Cx p s m args c cc nL own D ca ad A N n) {x : Int32} {off : Int} {tgt pc : Nat} {lv : List (Nat × Value)} {st : List Value} {ws : List va_E} (hdg : decode cc pc = .ok (.ifCond .ne off, 3)) (ht : (pc : Int) + off = (tgt : Int)) (kt : ¬ x = 0 → Wa p l e R s m args below meth c cells slots Q D ca ad A nL N (lv, st, ws) tgt) (kf : x = 0 → Wa p l e R s m args below meth c cells slots Q D ca ad A nL N (lv, st, ws) (pc + 3)) : Wa p l e R s m args below meth c cells slots Q D ca ad A nL N (lv, .int x :: st, ws) pc :=
  fun H locs ls h1 h2 h3 h4 => lv_if_ne C.1.1 C.1.2.1 hdg ht (fun q => kt q H locs ls h1 h2 h3 h4) (fun q => kf q H locs ls h1 h2 h3 h4)
theorem b2_ne (C : Cx p s m args c cc nL own D ca ad A N n) {x y : Int32} {off : Int} {tgt pc : Nat} {lv : List (Nat × Value)} {st : List Value} {ws : List va_E} (hdg : decode cc pc = .ok (.if_icmp .ne off, 3)) (ht : (pc : Int) + off = (tgt : Int)) (kt : ¬ x = y → Wa p l e R s m args below meth c cells slots Q D ca ad A nL N (lv, st, ws) tgt) (kf : x = y → Wa p l e R s m args below meth c cells slots Q D ca ad A nL N (lv, st, ws) (pc + 3)) : Wa p l e R s m args below meth c cells slots Q D ca ad A nL N (lv, .int y :: .int x :: st, ws) pc :=
  fun H locs ls h1 h2 h3 h4 => lv_icmp_ne C.1.1 C.1.2.1 hdg ht (fun q => kt q H locs ls h1 h2 h3 h4) (fun q => kf q H locs ls h1 h2 h3 h4)
theorem b1_lt (C : Cx p s m args c cc nL own D ca ad A N n) {x : Int32} {off : Int} {tgt pc : Nat} {lv : List (Nat × Value)} {st : List Value} {ws : List va_E} (hdg : decode cc pc = .ok (.ifCond .lt off, 3)) (ht : (pc : Int) + off = (tgt : Int)) (kt : x < 0 → Wa p l e R s m args below meth c cells slots Q D ca ad A nL N (lv, st, ws) tgt) (kf : ¬ x < 0 → Wa p l e R s m args below meth c cells slots Q D ca ad A nL N (lv, st, ws) (pc + 3)) : Wa p l e R s m args below meth c cells slots Q D ca ad A nL N (lv, .int x :: st, ws) pc :=
  fun H locs ls h1 h2 h3 h4 => lv_if_lt C.1.1 C.1.2.1 hdg ht (fun q => kt q H locs ls h1 h2 h3 h4) (fun q => kf q H locs ls h1 h2 h3 h4)
theorem b2_lt (C : Cx p s m args c cc nL own D ca ad A N n) {x y : Int32} {off : Int} {tgt pc : Nat} {lv : List (Nat × Value)} {st : List Value} {ws : List va_E} (hdg : decode cc pc = .ok (.if_icmp .lt off, 3)) (ht : (pc : Int) + off = (tgt : Int)) (kt : x < y → Wa p l e R s m args below meth c cells slots Q D ca ad A nL N (lv, st, ws) tgt) (kf : ¬ x < y → Wa p l e R s m args below meth c cells slots Q D ca ad A nL N (lv, st, ws) (pc + 3)) : Wa p l e R s m args below meth c cells slots Q D ca ad A nL N (lv, .int y :: .int x :: st, ws) pc :=
  fun H locs ls h1 h2 h3 h4 => lv_icmp_lt C.1.1 C.1.2.1 hdg ht (fun q => kt q H locs ls h1 h2 h3 h4) (fun q => kf q H locs ls h1 h2 h3 h4)
theorem b1_ge (C : Cx p s m args c cc nL own D ca ad A N n) {x : Int32} {off : Int} {tgt pc : Nat} {lv : List (Nat × Value)} {st : List Value} {ws : List va_E} (hdg : decode cc pc = .ok (.ifCond .ge off, 3)) (ht : (pc : Int) + off = (tgt : Int)) (kt : 0 ≤ x → Wa p l e R s m args below meth c cells slots Q D ca ad A nL N (lv, st, ws) tgt) (kf : ¬ 0 ≤ x → Wa p l e R s m args below meth c cells slots Q D ca ad A nL N (lv, st, ws) (pc + 3)) : Wa p l e R s m args below meth c cells slots Q D ca ad A nL N (lv, .int x :: st, ws) pc :=
  fun H locs ls h1 h2 h3 h4 => lv_if_ge C.1.1 C.1.2.1 hdg ht (fun q => kt q H locs ls h1 h2 h3 h4) (fun q => kf q H locs ls h1 h2 h3 h4)
theorem b2_ge (C : Cx p s m args c cc nL own D ca ad A N n) {x y : Int32} {off : Int} {tgt pc : Nat} {lv : List (Nat × Value)} {st : List Value} {ws : List va_E} (hdg : decode cc pc = .ok (.if_icmp .ge off, 3)) (ht : (pc : Int) + off = (tgt : Int)) (kt : y ≤ x → Wa p l e R s m args below meth c cells slots Q D ca ad A nL N (lv, st, ws) tgt) (kf : ¬ y ≤ x → Wa p l e R s m args below meth c cells slots Q D ca ad A nL N (lv, st, ws) (pc + 3)) : Wa p l e R s m args below meth c cells slots Q D ca ad A nL N (lv, .int y :: .int x :: st, ws) pc :=
  fun H locs ls h1 h2 h3 h4 => lv_icmp_ge C.1.1 C.1.2.1 hdg ht (fun q => kt q H locs ls h1 h2 h3 h4) (fun q => kf q H locs ls h1 h2 h3 h4)
theorem b1_gt (C : Cx p s m args c cc nL own D ca ad A N n) {x : Int32} {off : Int} {tgt pc : Nat} {lv : List (Nat × Value)} {st : List Value} {ws : List va_E} (hdg : decode cc pc = .ok (.ifCond .gt off, 3)) (ht : (pc : Int) + off = (tgt : Int)) (kt : 0 < x → Wa p l e R s m args below meth c cells slots Q D ca ad A nL N (lv, st, ws) tgt) (kf : ¬ 0 < x → Wa p l e R s m args below meth c cells slots Q D ca ad A nL N (lv, st, ws) (pc + 3)) : Wa p l e R s m args below meth c cells slots Q D ca ad A nL N (lv, .int x :: st, ws) pc :=
  fun H locs ls h1 h2 h3 h4 => lv_if_gt C.1.1 C.1.2.1 hdg ht (fun q => kt q H locs ls h1 h2 h3 h4) (fun q => kf q H locs ls h1 h2 h3 h4)
theorem b2_gt (C : Cx p s m args c cc nL own D ca ad A N n) {x y : Int32} {off : Int} {tgt pc : Nat} {lv : List (Nat × Value)} {st : List Value} {ws : List va_E} (hdg : decode cc pc = .ok (.if_icmp .gt off, 3)) (ht : (pc : Int) + off = (tgt : Int)) (kt : y < x → Wa p l e R s m args below meth c cells slots Q D ca ad A nL N (lv, st, ws) tgt) (kf : ¬ y < x → Wa p l e R s m args below meth c cells slots Q D ca ad A nL N (lv, st, ws) (pc + 3)) : Wa p l e R s m args below meth c cells slots Q D ca ad A nL N (lv, .int y :: .int x :: st, ws) pc :=
  fun H locs ls h1 h2 h3 h4 => lv_icmp_gt C.1.1 C.1.2.1 hdg ht (fun q => kt q H locs ls h1 h2 h3 h4) (fun q => kf q H locs ls h1 h2 h3 h4)
theorem b1_le (C : Cx p s m args c cc nL own D ca ad A N n) {x : Int32} {off : Int} {tgt pc : Nat} {lv : List (Nat × Value)} {st : List Value} {ws : List va_E} (hdg : decode cc pc = .ok (.ifCond .le off, 3)) (ht : (pc : Int) + off = (tgt : Int)) (kt : x ≤ 0 → Wa p l e R s m args below meth c cells slots Q D ca ad A nL N (lv, st, ws) tgt) (kf : ¬ x ≤ 0 → Wa p l e R s m args below meth c cells slots Q D ca ad A nL N (lv, st, ws) (pc + 3)) : Wa p l e R s m args below meth c cells slots Q D ca ad A nL N (lv, .int x :: st, ws) pc :=
  fun H locs ls h1 h2 h3 h4 => lv_if_le C.1.1 C.1.2.1 hdg ht (fun q => kt q H locs ls h1 h2 h3 h4) (fun q => kf q H locs ls h1 h2 h3 h4)
theorem b2_le (C : Cx p s m args c cc nL own D ca ad A N n) {x y : Int32} {off : Int} {tgt pc : Nat} {lv : List (Nat × Value)} {st : List Value} {ws : List va_E} (hdg : decode cc pc = .ok (.if_icmp .le off, 3)) (ht : (pc : Int) + off = (tgt : Int)) (kt : x ≤ y → Wa p l e R s m args below meth c cells slots Q D ca ad A nL N (lv, st, ws) tgt) (kf : ¬ x ≤ y → Wa p l e R s m args below meth c cells slots Q D ca ad A nL N (lv, st, ws) (pc + 3)) : Wa p l e R s m args below meth c cells slots Q D ca ad A nL N (lv, .int y :: .int x :: st, ws) pc :=
  fun H locs ls h1 h2 h3 h4 => lv_icmp_le C.1.1 C.1.2.1 hdg ht (fun q => kt q H locs ls h1 h2 h3 h4) (fun q => kf q H locs ls h1 h2 h3 h4)
theorem bn_r (C : Cx p s m args c cc nL own D ca ad A N n) {x : Nat} {off : Int} {pc : Nat} {lv : List (Nat × Value)} {st : List Value} {ws : List va_E} (hdg : decode cc pc = .ok (.ifnull off, 3)) (k : Wa p l e R s m args below meth c cells slots Q D ca ad A nL N (lv, st, ws) (pc + 3)) : Wa p l e R s m args below meth c cells slots Q D ca ad A nL N (lv, .ref x :: st, ws) pc := fun H locs ls h1 h2 h3 h4 => lv_ifnull C.1.1 C.1.2.1 hdg (k H locs ls h1 h2 h3 h4)
theorem bn_n (C : Cx p s m args c cc nL own D ca ad A N n) {off : Int} {pc tgt : Nat} {lv : List (Nat × Value)} {st : List Value} {ws : List va_E} (hdg : decode cc pc = .ok (.ifnull off, 3)) (ht : (pc : Int) + off = (tgt : Int)) (k : Wa p l e R s m args below meth c cells slots Q D ca ad A nL N (lv, st, ws) tgt) : Wa p l e R s m args below meth c cells slots Q D ca ad A nL N (lv, .null :: st, ws) pc := fun H locs ls h1 h2 h3 h4 => lv_ifnullN C.1.1 C.1.2.1 hdg ht (k H locs ls h1 h2 h3 h4)
theorem bnn_r (C : Cx p s m args c cc nL own D ca ad A N n) {x : Nat} {off : Int} {pc tgt : Nat} {lv : List (Nat × Value)} {st : List Value} {ws : List va_E} (hdg : decode cc pc = .ok (.ifnonnull off, 3)) (ht : (pc : Int) + off = (tgt : Int)) (k : Wa p l e R s m args below meth c cells slots Q D ca ad A nL N (lv, st, ws) tgt) : Wa p l e R s m args below meth c cells slots Q D ca ad A nL N (lv, .ref x :: st, ws) pc := fun H locs ls h1 h2 h3 h4 => lv_ifnonnull C.1.1 C.1.2.1 hdg ht (k H locs ls h1 h2 h3 h4)
theorem bnn_n (C : Cx p s m args c cc nL own D ca ad A N n) {off : Int} {pc : Nat} {lv : List (Nat × Value)} {st : List Value} {ws : List va_E} (hdg : decode cc pc = .ok (.ifnonnull off, 3)) (k : Wa p l e R s m args below meth c cells slots Q D ca ad A nL N (lv, st, ws) (pc + 3)) : Wa p l e R s m args below meth c cells slots Q D ca ad A nL N (lv, .null :: st, ws) pc := fun H locs ls h1 h2 h3 h4 => lv_ifnonnullN C.1.1 C.1.2.1 hdg (k H locs ls h1 h2 h3 h4)
theorem rt_i (C : Cx p s m args c cc nL own D ca ad A N n) {G : Option Value → List va_E → Heap → Prop} {v : Int32} {pc : Nat} {lv : List (Nat × Value)} {ws : List va_E} (hr : meth.sig.returnType = some .int) (hlocks : meth.locks = false) (hdg : decode cc pc = .ok (.ireturn, 1)) (hq : ∀ H, N H → G (some (.int v)) ws H) : Wa p l e R s m args below meth c cells slots (MQ below (CQ D ca ad G A) args s cells slots A) D ca ad A nL N (lv, [.int v], ws) pc := fun H locs ls _ h2 h3 h4 => W.iret C.1.1 C.1.2.1 hr (fun t ht _ => ⟨⟨some (.int v), ws, rfl, by rw [ht]; exact h2, by rw [ht]; exact hq H h4⟩, h3.F ht⟩) h3.2.2 hdg
theorem rt_z (C : Cx p s m args c cc nL own D ca ad A N n) {G : Option Value → List va_E → Heap → Prop} {v : Int32} {pc : Nat} {lv : List (Nat × Value)} {ws : List va_E} (hr : meth.sig.returnType = some .boolean) (hlocks : meth.locks = false) (hn : narrow .boolean (.int v) = .int v) (hdg : decode cc pc = .ok (.ireturn, 1)) (hq : ∀ H, N H → G (some (.int v)) ws H) : Wa p l e R s m args below meth c cells slots (MQ below (CQ D ca ad G A) args s cells slots A) D ca ad A nL N (lv, [.int v], ws) pc := fun H locs ls _ h2 h3 h4 => W.zret C.1.1 C.1.2.1 hr hn (fun t ht _ => ⟨⟨some (.int v), ws, rfl, by rw [ht]; exact h2, by rw [ht]; exact hq H h4⟩, h3.F ht⟩) h3.2.2 hdg
theorem rt_l (C : Cx p s m args c cc nL own D ca ad A N n) {G : Option Value → List va_E → Heap → Prop} {v : Int64} {pc : Nat} {lv : List (Nat × Value)} {ws : List va_E} (hr : meth.sig.returnType = some .long) (hlocks : meth.locks = false) (hdg : decode cc pc = .ok (.lreturn, 1)) (hq : ∀ H, N H → G (some (.long v)) ws H) : Wa p l e R s m args below meth c cells slots (MQ below (CQ D ca ad G A) args s cells slots A) D ca ad A nL N (lv, [.long v], ws) pc := fun H locs ls _ h2 h3 h4 => W.lret C.1.1 C.1.2.1 hr (fun t ht _ => ⟨⟨some (.long v), ws, rfl, by rw [ht]; exact h2, by rw [ht]; exact hq H h4⟩, h3.F ht⟩) h3.2.2 hdg
theorem rt_v (C : Cx p s m args c cc nL own D ca ad A N n) {G : Option Value → List va_E → Heap → Prop} {pc : Nat} {lv : List (Nat × Value)} {ws : List va_E} (hr : meth.sig.returnType = none) (hlocks : meth.locks = false) (hdg : decode cc pc = .ok (.return_, 1)) (hq : ∀ H, N H → G none ws H) : Wa p l e R s m args below meth c cells slots (MQ below (CQ D ca ad G A) args s cells slots A) D ca ad A nL N (lv, [], ws) pc := fun H locs ls _ h2 h3 h4 => W.vret C.1.1 C.1.2.1 hr (fun t ht _ => ⟨⟨none, ws, rfl, by rw [ht]; exact h2, by rw [ht]; exact hq H h4⟩, h3.F ht⟩) h3.2.2 hdg
theorem rt_a (C : Cx p s m args c cc nL own D ca ad A N n) {G : Option Value → List va_E → Heap → Prop} {rt : FieldType} {x : Nat} {pc : Nat} {lv : List (Nat × Value)} {ws : List va_E} (hr : meth.sig.returnType = some rt) (hrt : (∃ n, rt = .object n) ∨ ∃ t, rt = .array t) (hlocks : meth.locks = false) (hdg : decode cc pc = .ok (.areturn, 1)) (hq : ∀ H, N H → G (some (.ref x)) ws H) : Wa p l e R s m args below meth c cells slots (MQ below (CQ D ca ad G A) args s cells slots A) D ca ad A nL N (lv, [.ref x], ws) pc := fun H locs ls _ h2 h3 h4 => W.aret C.1.1 C.1.2.1 hr hrt (Or.inr ⟨_, rfl⟩) (fun t ht _ => ⟨⟨some (.ref x), ws, rfl, by rw [ht]; exact h2, by rw [ht]; exact hq H h4⟩, h3.F ht⟩) h3.2.2 hdg
theorem rt_n (C : Cx p s m args c cc nL own D ca ad A N n) {G : Option Value → List va_E → Heap → Prop} {rt : FieldType} {pc : Nat} {lv : List (Nat × Value)} {ws : List va_E} (hr : meth.sig.returnType = some rt) (hrt : (∃ n, rt = .object n) ∨ ∃ t, rt = .array t) (hlocks : meth.locks = false) (hdg : decode cc pc = .ok (.areturn, 1)) (hq : ∀ H, N H → G (some .null) ws H) : Wa p l e R s m args below meth c cells slots (MQ below (CQ D ca ad G A) args s cells slots A) D ca ad A nL N (lv, [.null], ws) pc := fun H locs ls _ h2 h3 h4 => W.aret C.1.1 C.1.2.1 hr hrt (Or.inl rfl) (fun t ht _ => ⟨⟨some .null, ws, rfl, by rw [ht]; exact h2, by rw [ht]; exact hq H h4⟩, h3.F ht⟩) h3.2.2 hdg
theorem Fr_le {sz sz2 q : Nat} (h : sz ≤ sz2) (hq : Fr ad n sz2 q) : Fr ad n sz q := hq.elim Or.inl (fun h2 => Or.inr (Nat.le_trans h h2))
theorem CPre_blind {ws : List va_E} {sz : Nat} {av : List Value} : FrameBlind (CPre D ca ad ws sz av N) := fun a U g mk h => ⟨h.1, h.2.1, h.2.2.1, h.2.2.2.1.call, h.2.2.2.2⟩
/-- behind a call -/
theorem gcall (C : Cx p s m args c cc nL own D ca ad A N n) {pc mc ms : Nat} {ls : Array Slot} {H : Heap} {locs : List Loc} {st0 rest : List Value} {a : Array Value} {G : Option Value → List va_E → Heap → Prop} {lv : List (Nat × Value)} (hr : va_Run p l e R s m args below meth c H locs cells slots mc ms (F0 m pc ls st0) (rest.map (cv ad)) (CQ D ca ad G (Fr ad n H.size) a) (Fr ad n H.size)) (hl : lv_has ls nL (cl ad lv)) (hS : va_S A s.heap H locs)
    (kk : ∀ (v : Option Value) (ws' : List va_E), Wa p l e R s m args below meth c (cells + mc) (slots + ms) Q D ca ad A nL (G v ws') (lv, v.toList ++ rest, ws') (pc + 3)) : W p l e R s m args below meth c H locs cells slots Q (F0 m pc ls st0) := by
  intro T hT X
  obtain ⟨v, st₀, t, T', L, h0, X', hL, e1, e2, ⟨⟨v2, ws2, hv, hp, hg⟩, hz, hk⟩, st⟩ := hr T hT X
  cases hv
  rw [h0] at hz hk
  have hA : ∀ q, Fr ad n H.size q → A q := fun q h => h.elim (fun ⟨k, h1, h2⟩ => by rw [h2]; exact C.2.2.2.2.1 k h1) (fun h => C.2.2.2.2.2 q (Nat.le_trans hS.1 h))
  have hS1 : va_S A s.heap T'.heap (locs ++ L) := ⟨Nat.le_trans hS.1 (by rw [e1]; exact hz), fun q h1 h2 => by rw [e1, hk q (Nat.lt_of_lt_of_le h1 hS.1) (fun z => h2 (hA q z))]; exact hS.2.1 q h1 h2, fun q hq => by
      rcases List.mem_append.mp hq with h | h
      · exact hS.2.2 q h
      · exact hA _ (hL q h)⟩
  obtain ⟨t2, a1, b1⟩ := kk v2 ws2 T'.heap (locs ++ L) ls hl (by rw [e1]; exact hp) hS1 (by rw [e1]; exact hg) T' rfl X'
  have hst : (v2.toList ++ rest).map (cv ad) = (v2.map (cv ad)).toList ++ rest.map (cv ad) := by cases v2 <;> simp
  rw [hst] at a1
  exact ⟨t2, st t2 a1, b1⟩
theorem rev_map (av rest : List Value) : (av.reverse ++ rest).map (cv ad) = (av.map (cv ad)).reverse ++ rest.map (cv ad) := by simp
theorem cat_map (rest : List Value) : ((rest.map (cv ad)).map fun v => v.category).sum = (rest.map fun v => v.category).sum := by
  rw [List.map_map]
  congr 1
  apply List.map_congr_left
  intro v _
  exact cv_cat ad v
/-- a static method of the own class -/
theorem cl_s (C : Cx p s m args c cc nL own D ca ad A N n) {y : MethodName} {bytes : ByteArray} {maxL k idx pc : Nat} {ret : Option FieldType} {rm : Room} {ws : List va_E} {av rest st : List Value} {lv : List (Nat × Value)} {G : Option Value → List va_E → Heap → Prop} (hM : Ct l y bytes maxL ret rm D ca ad ws n av N G) (hcd : Cond.code y bytes maxL ret ∈ tb) (hini : Cond.initialized y.cls ∈ tb) (hlk : Cond.methodLink own idx y ∈ tb) (hsm : Cond.static y ∈ tb)
    (hd : y.cls ≠ "java/lang/invoke/MethodHandle" ∧ y.cls ≠ "java/lang/invoke/VarHandle" ∧ (parseMethodDescriptor y.desc).map (fun d => d.parameters.length) = some k) (hk : av.length = k) (hst : av.reverse ++ rest = st) (hR : rm.frames + 1 ≤ R.frames ∧ 8 + (maxL + 11) + rm.locals ≤ R.locals) (hR2 : cells + rm.cells ≤ R.cells ∧ slots + rm.slots ≤ R.slots) (hcat : (rest.map fun v => v.category).sum ≤ 8) (hdg : decode cc pc = .ok (.invokestatic idx, 3))
    (kk : ∀ (v : Option Value) (ws' : List va_E), Wa p l e R s m args below meth c (cells + rm.cells) (slots + rm.slots) Q D ca ad A nL (G v ws') (lv, v.toList ++ rest, ws') (pc + 3)) : Wa p l e R s m args below meth c cells slots Q D ca ad A nL N (lv, st, ws) pc := by
  intro H locs ls h1 h2 h3 h4
  subst hst
  have hts := C.1.2.2.2.2
  refine gcall C (a := (av.map (cv ad)).toArray) (va_runS (As := av.map (cv ad)) (n := k) C.1 (hM H.size) ⟨callB_of k hts (tb_gi hcd) rfl rfl rfl (hts _ hini) (hts _ hlk) hd hR, hts _ hsm⟩ ⟨CPre_blind, fun U hU hW => ⟨rfl, by rw [hU], by rw [hU]; exact h2, C.2.1.warm hW, by rw [hU]; exact h4⟩⟩ rfl (by simpa using hk) h1.1 (rev_map av rest) (lv_room (by rw [cat_map]; exact hcat)) hdg hR2) h1 h3 kk
/-- a static method of the nest's host -/
theorem cl_sn (C : Cx p s m args c cc nL own D ca ad A N n) {y : MethodName} {bytes : ByteArray} {maxL k idx pc : Nat} {ret : Option FieldType} {rm : Room} {ws : List va_E} {av rest st : List Value} {lv : List (Nat × Value)} {G : Option Value → List va_E → Heap → Prop} (hM : Ct l y bytes maxL ret rm D ca ad ws n av N G) (hcd : Cond.code y bytes maxL ret ∈ tb) (hini : Cond.initialized y.cls ∈ tb) (hlk : (own, idx, y) ∈ nestL) (hsm : Cond.static y ∈ tb)
    (hd : y.cls ≠ "java/lang/invoke/MethodHandle" ∧ y.cls ≠ "java/lang/invoke/VarHandle" ∧ (parseMethodDescriptor y.desc).map (fun d => d.parameters.length) = some k) (hk : av.length = k) (hst : av.reverse ++ rest = st) (hR : rm.frames + 1 ≤ R.frames ∧ 8 + (maxL + 11) + rm.locals ≤ R.locals) (hR2 : cells + rm.cells ≤ R.cells ∧ slots + rm.slots ≤ R.slots) (hcat : (rest.map fun v => v.category).sum ≤ 8) (hdg : decode cc pc = .ok (.invokestatic idx, 3))
    (kk : ∀ (v : Option Value) (ws' : List va_E), Wa p l e R s m args below meth c (cells + rm.cells) (slots + rm.slots) Q D ca ad A nL (G v ws') (lv, v.toList ++ rest, ws') (pc + 3)) : Wa p l e R s m args below meth c cells slots Q D ca ad A nL N (lv, st, ws) pc := by
  intro H locs ls h1 h2 h3 h4
  subst hst
  have hts := C.1.2.2.2.2
  refine gcall C (a := (av.map (cv ad)).toArray) (va_runSN (As := av.map (cv ad)) (n := k) C.1 (hM H.size) ⟨va_cnB k hts (tb_gi hcd) rfl rfl rfl (C.2.1.2.1 _ hlk) (hts _ hini) hd hR, hts _ hsm, trivial⟩ ⟨CPre_blind, fun U hU hW => ⟨rfl, by rw [hU], by rw [hU]; exact h2, C.2.1.warm hW, by rw [hU]; exact h4⟩⟩ rfl (by simpa using hk) h1.1 (rev_map av rest) (lv_room (by rw [cat_map]; exact hcat)) hdg hR2) h1 h3 kk
/-- a method of an object -/
theorem cl_v (C : Cx p s m args c cc nL own D ca ad A N n) {y : MethodName} {bytes : ByteArray} {maxL k idx pc t : Nat} {ret : Option FieldType} {rm : Room} {ws : List va_E} {av rest st : List Value} {lv : List (Nat × Value)} {G : Option Value → List va_E → Heap → Prop} (hM : Ct l y bytes maxL ret rm D ca ad ws n (.ref t :: av) N G) (hrec : ∀ H, va_P D vwCl (cw ad ca 0 ws) H → N H → ∃ cell : Cell, H[ad t]? = some cell ∧ cell.vm.isStatics = false ∧ s.vm.findClass y.cls = some cell.cls) (hcd : Cond.code y bytes maxL ret ∈ tb) (hini : Cond.initialized y.cls ∈ tb) (hlk : Cond.methodLink own idx y ∈ tb) (him : Cond.instanceMethod y ∈ tb) (hse : Cond.selects y.cls y y ∈ tb)
    (hd : y.cls ≠ "java/lang/invoke/MethodHandle" ∧ y.cls ≠ "java/lang/invoke/VarHandle" ∧ (parseMethodDescriptor y.desc).map (fun d => d.parameters.length) = some k) (hk : av.length = k) (hst : av.reverse ++ .ref t :: rest = st) (hR : rm.frames + 1 ≤ R.frames ∧ 8 + (maxL + 11) + rm.locals ≤ R.locals) (hR2 : cells + rm.cells ≤ R.cells ∧ slots + rm.slots ≤ R.slots) (hcat : (rest.map fun v => v.category).sum ≤ 8) (hdg : decode cc pc = .ok (.invokevirtual idx, 3))
    (kk : ∀ (v : Option Value) (ws' : List va_E), Wa p l e R s m args below meth c (cells + rm.cells) (slots + rm.slots) Q D ca ad A nL (G v ws') (lv, v.toList ++ rest, ws') (pc + 3)) : Wa p l e R s m args below meth c cells slots Q D ca ad A nL N (lv, st, ws) pc := by
  intro H locs ls h1 h2 h3 h4
  subst hst
  have hts := C.1.2.2.2.2
  refine gcall C (a := (Value.ref (ad t) :: av.map (cv ad)).toArray) (va_runV (As := av.map (cv ad)) (b := ad t) (n := k) C.1 (hM H.size) ⟨callB_of k hts (tb_gi hcd) rfl rfl rfl (hts _ hini) (hts _ hlk) hd hR, hts _ him, hts _ hse⟩ ⟨CPre_blind, hrec H h2 h4, fun U hU hW => ⟨rfl, by rw [hU], by rw [hU]; exact h2, C.2.1.warm hW, by rw [hU]; exact h4⟩⟩ rfl (by simpa using hk) h1.1 (by rw [show (.ref (ad t) : Value) = cv ad (.ref t) from rfl]; simp) (lv_room (by rw [cat_map]; exact hcat)) hdg hR2) h1 h3 kk
/-- the receiver is a named cell -/
theorem rcv (hK : KS D ca s) {ws : List va_E} {t ci : Nat} {fs : List Value} {r : vw_C} (hc : vwCl[ci]? = some r) (ht : nth ws t = some (.inr (ci, fs))) : ∀ H, va_P D vwCl (cw ad ca 0 ws) H → N H → ∃ cell : Cell, H[ad t]? = some cell ∧ cell.vm.isStatics = false ∧ s.vm.findClass r.1 = some cell.cls := fun H h2 _ => va_recv hK.1 h2 hc (q0 := t) (fs := fs.map (cv ad)) (by rw [nth_eq] at ht; rw [cw_at, ht]; simp [ce])
end
/-- into a method -/
theorem enter {l : Launch} {y : MethodName} {cc : ByteArray} {maxL n : Nat} {ret : Option FieldType} {rm : Room} {D : va_G} {ca : Nat → ClassId} {ad : Nat → Nat} {ws : List va_E} {av : List Value} {N : Heap → Prop} {G : Option Value → List va_E → Heap → Prop} {lv : List (Nat × Value)} (hy : plainName y.cls = true) (hlen : (lg_sl (av.map (cv ad))).length ≤ maxL) (hlv : lv_args 0 av = lv) (hAD : AD ad n) (hNS : ∀ U, KS D ca U → NSt D ca ad N)
    (body : ∀ (p : Program) (e : Env) (s : State) (m : MethodId) (below : List Frame) (meth : Method) (c : Code) (A : Nat → Prop) (args : Array Value), A = Fr ad n s.heap.size → Cx p s m args c cc maxL y.cls D ca ad A N n → meth.sig.returnType = ret → meth.locks = false → meth.name = y.name → Wa p l e rm s m args below meth c 0 0 (MQ below (CQ D ca ad G A) args s rm.cells rm.slots A) D ca ad A maxL N (lv, [], ws) 0) : Ct l y cc maxL ret rm D ca ad ws n av N G := by
  intro sz
  refine Met.ofW (cc := cc) (maxL := maxL) (ret := ret) hy rfl ?_
  intro p e s m args below meth c s₁ B hml hv
  obtain ⟨rfl, hsz, hP, hK, hN⟩ := hv
  have hts := atoms_spec (ws := Cond.code y cc maxL ret :: tb) B.pre
  have hown : s.vm.findClass y.cls = some m.cls := findClass_of_methodNamed B.named
  subst hsz
  have hl := lv_entry (av.map (cv ad)) (n := maxL) hlen
  rw [lg_entry_eq]
  generalize (lg_sl (av.map (cv ad)) ++ List.replicate (maxL - (lg_sl (av.map (cv ad))).length) Slot.unset).toArray = ls at hl ⊢
  rw [lv_args_cl, hlv] at hl
  exact body p e s m below meth c (Fr ad n s.heap.size) _ rfl ⟨⟨B.exec, B.bytes, hml, hown, fun w hw => hts w (List.mem_cons_of_mem _ hw)⟩, hK, hNS s hK, hAD, fun k hk => Or.inl ⟨k, hk, rfl⟩, fun q hq => Or.inr hq⟩ B.returns B.notSynchronized (name_of_methodNamed B.named B.method).1 s.heap [] ls hl hP va_S.rf hN
