/-! the class's own state: what is changed by calls but the saved tables -/
abbrev QS : Type := TS × TS × Int32 × Int64 × Int32
abbrev qT (q : QS) : TS := q.1
abbrev qR (q : QS) : TS := q.2.1
abbrev qN (q : QS) : Int32 := q.2.2.1
abbrev qB (q : QS) : Int64 := q.2.2.2.1
abbrev qL (q : QS) : Int32 := q.2.2.2.2
abbrev sQT (q : QS) (x : TS) : QS := (x, q.2)
abbrev sQR (q : QS) (x : TS) : QS := (q.1, x, q.2.2)
abbrev sQN (q : QS) (x : Int32) : QS := (q.1, q.2.1, x, q.2.2.2)
abbrev sQB (q : QS) (x : Int64) : QS := (q.1, q.2.1, q.2.2.1, x, q.2.2.2.2)
abbrev sQL (q : QS) (x : Int32) : QS := (q.1, q.2.1, q.2.2.1, q.2.2.2.1, x)
def wQ (cI cJ : ClassId) (aP : Nat) (bT bR : Nat → Nat) (aS : Nat) (q : QS) : va_W := [(aP, .inr (2, [.ref (bT 0), .ref (bR 0), .ref aS, .int (qN q), .long (qB q), .int (qL q)]))] ++ (wT cI cJ bT (qT q) ++ wT cI cJ bR (qR q))
def gw_ok {ε α : Type} : Option (ε ⊕ α) → Option α
  | some (.inr x) => some x
  | _ => none
theorem gw_okh {ε α : Type} {X : Option (ε ⊕ α)} {q : α} (h : gw_ok X = some q) : X = some (.inr q) := by
  cases X with
  | none => cases h
  | some r => cases r with
    | inl e => cases h
    | inr x => cases h; rfl
def gw_xn : Nat → String
  | 1 => "java/lang/IllegalArgumentException"
  | 2 => "java/lang/IllegalStateException"
  | _ => "java/lang/IndexOutOfBoundsException"
def gw_ns : List String := ["java/lang/RuntimeException", "java/lang/Exception"]
def strW : List (String × Nat × String) := [(RX3, 36, "a letter is 1 to 8"), (RX3, 43, "the buffer is full"), (RX3, 52, "the buffer is empty"), (RX3, 66, "the word is there already"), (RX3, 68, "the word is refused"), (RX3, 81, "the word is not there"), (RX3, 101, "a word would be refused"), (RX3, 106, "no state is saved"), (RX3, 110, "there is no such cell"), (RX3, 113, "what is 0 to 6"), (RX3, 119, "there is no such place"), (RX3, 121, "what is 0 or 1"), (RX3, 138, "at is 0 to 11"), (RX3, 161, "what is 0 to 9"), (RX3, 166, "a rank is 0 or more"), (RX3, 168, "at is 0 to 12"), (RX3, 170, "what is 0 to 3")]
/-- the words of a throw that are handed on apart -/
def xW : List Cond := (vx_atS RX3 38 (gw_xn 1) gw_ns).filter (fun w => !goodWord w) ++ ((vx_atS RX3 45 (gw_xn 2) gw_ns).filter (fun w => !goodWord w) ++ (vx_atS RX3 112 (gw_xn 3) gw_ns).filter (fun w => !goodWord w))
def gw_isDC : Cond → Bool
  | .declares _ => true
  | .castable _ _ => true
  | _ => false
theorem xW_dc : xW.all gw_isDC = true := by decide +kernel
theorem xW_warm {s U : State} (hW : s.WarmedH U.vm) : ∀ w ∈ xW, va_Nw w s → va_Nw w U := by
  intro w hw h
  have hd := List.all_eq_true.mp xW_dc w hw
  cases w <;> first | exact va_Nw.warmD hW h | exact va_Nw.warmC hW h | (simp [gw_isDC] at hd)
theorem xW_ot : ∀ w ∈ xW, w.onTables = true := by
  intro w hw
  have hd := List.all_eq_true.mp xW_dc w hw
  cases w <;> first | rfl | (simp [gw_isDC] at hd)
/-- what a throw wants of the start -/
def Xf0 (s : State) (A : Nat → Prop) : Prop := vx_Zq Bundle.tN "UNASSIGNED_STACK" Bundle.steD A s s.heap ∧ vx_Zq Bundle.tN "SUPPRESSED_SENTINEL" Bundle.listD A s s.heap ∧ (∀ q ∈ strW, ∃ a, vk_R q.1 q.2.1 q.2.2 a s) ∧ ∀ w ∈ xW, va_Nw w s
def Xf (l : Launch) (s : State) (A : Nat → Prop) (c : Code) : Prop := l.stackTraces = false ∧ Xf0 s A ∧ ∀ x ∈ c.exceptionTable.toList, False
def rmOfX (f lo : Nat) : Room := { frames := f, cells := 1, slots := 6, locals := lo }
def gw_XC (D : va_G) (E : String) (W1 : va_W) (A : Nat → Prop) : String → State → State → Prop := fun E' st t => E' = E ∧ va_P D vwCl W1 t.heap ∧ va_D A W1 ∧ va_F A st t
def gw_QF : Array Value → State → Outcome → State → Prop := fun _ _ _ _ => False
abbrev CtMT (D : va_G) (below : List Frame) (E : String) (W1 : va_W) (A : Nat → Prop) (args : Array Value) (s : State) : State → Prop := vx_MQ below gw_QF (gw_XC D E W1 A) args s 1 6 A
def CtPX (D : va_G) (tys : List (ClassId × FieldType)) (av : List Value) (W0 : va_W) (sz : Nat) : Array Value → State → Prop := fun a U => CtP D tys av W0 sz a U ∧ Xf0 U (va_A W0 sz)
/-- a method's contract where it throws: the class of what is thrown, and the world behind it -/
def CtT (l : Launch) (D : va_G) (tys : List (ClassId × FieldType)) (y : MethodName) (ws : List Cond) (rm : Room) (av : List Value) (W0 : va_W) (E : String) (W1 : va_W) : Prop :=
  l.stackTraces = false → ∀ sz : Nat, vx_Met l y ws rm (CtPX D tys av W0 sz) gw_QF (gw_XC D E W1 (va_A W0 sz)) 1 6 (va_A W0 sz)
theorem Xf0.same {U U2 : State} {A : Nat → Prop} (hv : U.vm = U2.vm) (hh : U.heap = U2.heap) (h : Xf0 U A) : Xf0 U2 A := by
  obtain ⟨h1, h2, h3, h4⟩ := h
  have ha : U.vm.Alike U2.vm := by rw [hv]; exact Vm.Alike.refl _
  refine ⟨?_, ?_, fun q hq => ?_, fun w hw => va_Nw.same (u := U) (U := U2) (xW_ot w hw) hv (h4 w hw)⟩
  · rw [← hh]; exact vx_Zq.moved ha h1
  · rw [← hh]; exact vx_Zq.moved ha h2
  · obtain ⟨a, h⟩ := h3 q hq
    exact ⟨a, vk_R.same hv.symm h⟩
theorem CtPX_blind (D : va_G) (tys : List (ClassId × FieldType)) (av : List Value) (W0 : va_W) (sz : Nat) : FrameBlind (CtPX D tys av W0 sz) := fun a U g mk q => ⟨CtP_blind D tys av W0 sz a U g mk q.1, Xf0.same (U := U) (U2 := U.calling g mk a) rfl rfl q.2⟩
theorem xW_1 : ∀ w ∈ (vx_atS RX3 38 (gw_xn 1) gw_ns).filter (fun w => !goodWord w), w ∈ xW := fun _ h => List.mem_append_left _ h
theorem xW_2 : ∀ w ∈ (vx_atS RX3 45 (gw_xn 2) gw_ns).filter (fun w => !goodWord w), w ∈ xW := fun _ h => List.mem_append_right _ (List.mem_append_left _ h)
theorem xW_3 : ∀ w ∈ (vx_atS RX3 112 (gw_xn 3) gw_ns).filter (fun w => !goodWord w), w ∈ xW := fun _ h => List.mem_append_right _ (List.mem_append_right _ h)
theorem gw_str {l : Launch} {s : State} {A : Nat → Prop} {c : Code} (XF : Xf l s A c) {tx : String} (k : Nat) (h : (RX3, k, tx) ∈ strW) : ∃ a, vk_R RX3 k tx a s := XF.2.1.2.2.1 (RX3, k, tx) h
theorem CtT_of {l : Launch} {own : String} {D : va_G} {tys : List (ClassId × FieldType)} {y : MethodName} {wsy ws' : List Cond} {f lo : Nat} {av : List Value} {W0 W1 : va_W} {E : String} (cc : ByteArray) (nL : Nat) (ret : Option FieldType) (hy : plainName y.cls = true) (hown : y.cls = own) (hw : wsy = Cond.code y cc nL ret :: ws') (hlen : (lg_sl av).length ≤ nL)
    (body : ∀ p e s m args below meth c (A : Nat → Prop), Cx p s m args meth c cc nL wsy own D tys A ret → Xf l s A c → (y.name = meth.name) → gw_G p l e (rmOfX f lo) s m args below meth c D A (CtMT D below E W1 A args s) nL 0 0 W0 (lv_args 0 av) 0 []) : CtT l D tys y wsy (rmOfX f lo) av W0 E W1 := by
  intro htr sz
  refine vx_ofW (cc := cc) (maxL := nL) (ret := ret) hy hw ?_
  subst hown
  intro p e s m args below meth c s₁ B hml htab hv
  obtain ⟨⟨rfl, hsz, hP, hK, hD0⟩, hX⟩ := hv
  have hts := atoms_spec (ws := wsy) B.pre
  have hown : s.vm.findClass y.cls = some m.cls := findClass_of_methodNamed B.named
  have hnm : meth.name = y.name := (name_of_methodNamed B.named B.method).1
  subst hsz
  rw [lg_entry_eq]
  exact body p e s m av.toArray below meth c (va_A W0 s.heap.size) ⟨⟨B.exec, B.bytes, hml, hown, hts⟩, hK.1, fun q h => Or.inr h, B.notSynchronized, B.returns, hK.2⟩ ⟨htr, hX, htab⟩ hnm.symm s.heap [] _ hP (hD0.self (sz := s.heap.size)) va_S.rf (lv_entry av hlen)
section GT
variable {p : Program} {l : Launch} {e : Env} {R : Room} {s : State} {m : MethodId} {args : Array Value} {below : List Frame} {meth : Method} {c : Code} {D : va_G} {A : Nat → Prop} {nL : Nat} {ws : va_W} {lv : List (Nat × Value)} {pc : Nat} {st : List Value}
variable {cc : ByteArray} {Ts : List Cond} {own : String} {tys : List (ClassId × FieldType)} {rt : Option FieldType}
theorem gw_throw (C : Cx p s m args meth c cc nL Ts own D tys A rt) (XF : Xf l s A c) {ik is ic : Nat} {E tx : String} (d0 : decode cc pc = .ok (.new ik, 3)) (d3 : decode cc (pc + 3) = .ok (.dup, 1)) (d4 : decode cc (pc + 4) = .ok (.ldc is, 2)) (d6 : decode cc (pc + 6) = .ok (.invokespecial ic, 3)) (d9 : decode cc (pc + 9) = .ok (.athrow, 1)) (hst : (st.map fun v => v.category).sum = 0) (hk : Cond.classLink own ik E ∈ Ts) (hi : Cond.initialized E ∈ Ts) (hs : ∃ sa, vk_R own is tx sa s) (hw : ∀ w ∈ (vx_atS own ic E gw_ns).filter goodWord, w ∈ Ts) (hb : ∀ w ∈ (vx_atS own ic E gw_ns).filter (fun w => !goodWord w), w ∈ xW) (hg : (Cond.classLink own ik E :: Cond.initialized E :: vx_atS own ic E gw_ns).all vx_ot = true := by decide +kernel) (hf1 : Bundle.fit E = true := by decide +kernel) (hRf : 6 ≤ R.frames := by exact Nat.le_of_ble_eq_true rfl) (hRl : 82 ≤ R.locals := by exact Nat.le_of_ble_eq_true rfl) (hRc : 1 ≤ R.cells := by exact Nat.le_of_ble_eq_true rfl) (hRs : 6 ≤ R.slots := by exact Nat.le_of_ble_eq_true rfl) :
    gw_G p l e R s m args below meth c D A (CtMT D below E ws A args s) nL 0 0 ws lv pc st := by
  intro H locs ls hP hD hS hl
  obtain ⟨sa, hs⟩ := hs
  refine vx_throwS C.1.1 C.1.2.1 XF.1 C.1.2.2.2.1 hf1 (names := gw_ns) (by decide +kernel) (C.1.2.2.2.2 _ hk) (C.1.2.2.2.2 _ hi) hs (fun w h => by
    by_cases hg9 : goodWord w = true
    · exact C.1.2.2.2.2 w (hw w (List.mem_filter.mpr ⟨h, hg9⟩))
    · have h9 := hb w (List.mem_filter.mpr ⟨h, by simp [hg9]⟩)
      exact va_Nw.use (xW_ot w h9) (XF.2.1.2.2.2 w h9)) (List.all_eq_true.mp hg) XF.2.1.1 XF.2.1.2.1 hS (hl.1.trans C.1.2.2.1.symm) d0 d3 d4 d6 d9 (fun x hx => absurd hx (fun hx => XF.2.2 x hx)) (by show 2 + 3 < R.frames; omega) (by rw [hst]; show 0 + 82 ≤ R.locals; omega) (by omega) (by omega) C.2.2.2.1 (fun t hvm hz hq => ⟨rfl, hP.kept (fun k q hk => hq q.1 (hP k q hk).lt), hD, Nat.le_trans hS.1 hz, fun q h1 h2 => (hq q (Nat.lt_of_lt_of_le h1 hS.1)).trans (hS.2.1 q h1 h2)⟩) hS.2.2 (Nat.le_refl _) (Nat.le_refl _)
end GT
def fP_mix (p1 : Int64) (p2 : Int64) : Int64 :=
 (((31 : Int64) * p1) + p2)
def fP_bitsOf (p1 : UInt64) : Option Int64 :=
 (gw_lp (σ := UInt64 × Int64 × Int32) (ω := UInt64 × Int64) (fun x1 =>
  if (1023 : Int32) ≤ x1.2.2 then
   some (.inl (x1.1, x1.2.1))
  else
   if 0 ≤ (Op.cmpValue (FP.dcmp x1.1 (0x3ff0000000000000 : UInt64)) .g) then
    some (.inl (x1.1, x1.2.1))
   else
    if nn64 (FP.dmul x1.1 (4611686018427387904 : UInt64)) then
    gw_let (FP.dmul x1.1 (4611686018427387904 : UInt64)) fun v5 =>
    gw_let (x1.2.1 - (1 : Int64)) fun v6 =>
    some (.inr (v5, v6, (x1.2.2 + (1 : Int32))))
    else none
 ) gw_fl (p1, (1023 : Int64), (0 : Int32))).bind fun v1 =>
 if nn64 (FP.dsub v1.1 (0x3ff0000000000000 : UInt64)) then
 if nn64 (FP.dmul (FP.dsub v1.1 (0x3ff0000000000000 : UInt64)) (4841369599423283200 : UInt64)) then
 gw_let (FP.d2l (FP.dmul (FP.dsub v1.1 (0x3ff0000000000000 : UInt64)) (4841369599423283200 : UInt64))) fun v9 =>
 some ((v1.2 <<< ((52 : Int32).toInt64 &&& 63)) + v9)
 else none
 else none
def fP_find  (t : QS) : Option Int32 :=
 (fT_leafOf (qB t) (qT t)).bind fun q1 =>
 some q1
def fP_longest  (t : QS) : Option Int32 :=
 (fT_longestAtStartOf (qB t) (qT t)).bind fun q1 =>
 some q1
def fP_beginning  (t : QS) : Option Int32 :=
 (fT_wordsWith (qB t) (qT t)).bind fun q1 =>
 some q1
def fP_ahead  (t : QS) : Option Int32 :=
 (fT_wordsAhead (qB t) (qT t)).bind fun q1 =>
 some q1
def fP_clearBuffer  (t : QS) : Int32 × QS :=
 gw_let (qL t) fun v1 =>
 gw_let (sQB t (0 : Int64)) fun t2 =>
 gw_let (sQL t2 (0 : Int32)) fun t3 =>
 (v1, t3)
def fP_tryToAdd  (t : QS) : Option (Int32 × QS) :=
 if (qL t) = 0 then
  some ((3 : Int32), t)
 else
  (fT_leafOf (qB t) (qT t)).bind fun q2 =>
  if q2 = (-1 : Int32) then
   gw_let (fT_copyFrom (qR t) (qT t)) fun q4 =>
   gw_let (sQR t q4) fun t5 =>
   (fT_insert (qB t5) (qR t5)).bind fun q6 =>
   gw_let (sQR t5 q6.2) fun t7 =>
   if q6.1 = (-1 : Int32) then
    some ((2 : Int32), t7)
   else
    some ((0 : Int32), t7)
  else
   some ((1 : Int32), t)
def fP_costOfTrial (p1 : Int32) (p2 : Int32) (t : QS) : Option Int32 :=
 if p2 = 0 then
  some p1
 else
  if p1 = 0 then
   if p2 = (1 : Int32) then
    (fT_usedCells (qR t)).bind fun q4 =>
    (fT_usedCells (qT t)).bind fun q5 =>
    some (q4 - q5)
   else
    if p2 = (2 : Int32) then
     some ((tM (qR t)) - (tM (qT t)))
    else
     (fE_kept (tN (qR t))).bind fun q7 =>
     (fE_kept (tN (qT t))).bind fun q8 =>
     some ((q7 - q8) + (100 : Int32))
  else
   some (-1 : Int32)
def fP_ifPacked  (t : QS) : Option (Int32 × QS) :=
 (fT_packFrom (qR t) (qT t)).bind fun q1 =>
 gw_let (sQR t q1.2) fun t2 =>
 some (q1.1, t2)
def fP_fullness  (t : QS) : Option UInt64 :=
 (fT_usedCells (qT t)).bind fun q1 =>
 (fT_greatestUsed (qT t)).bind fun q2 =>
 if nn64 (FP.ddiv (FP.i2d q1) (FP.i2d (q2 + (1 : Int32)))) then
 some (FP.ddiv (FP.i2d q1) (FP.i2d (q2 + (1 : Int32))))
 else none
def fP_mixCells (p1 : Int64) (t : QS) : Option Int64 :=
 (gw_lp (σ := Int64 × Int32) (ω := Int64) (fun x1 =>
  if (160 : Int32) ≤ x1.2 then
   some (.inl x1.1)
  else
   if (fT_propertyOf x1.2 (0 : Int32) (qT t)) = 0 then
    some (.inr (x1.1, (x1.2 + (1 : Int32))))
   else
    gw_let (fP_mix x1.1 x1.2.toInt64) fun v4 =>
    (gw_lp (σ := Int64 × Int32) (ω := Int64) (fun x5 =>
     if (6 : Int32) < x5.2 then
      some (.inl x5.1)
     else
      gw_let (fP_mix x5.1 ((fT_propertyOf x1.2 x5.2 (qT t)).toInt64)) fun v7 =>
      some (.inr (v7, (x5.2 + (1 : Int32))))
    ) gw_fl (v4, (0 : Int32))).bind fun v5 =>
    some (.inr (v5, (x1.2 + (1 : Int32))))
 ) gw_fl (p1, (0 : Int32))).bind fun v1 =>
 some v1
def fP_mixEnds (p1 : Int64) (t : QS) : Option Int64 :=
 (gw_lp (σ := Int64 × Int32) (ω := Int64) (fun x1 =>
  if (40 : Int32) ≤ x1.2 then
   some (.inl x1.1)
  else
   gw_let (fE_usesOf x1.2 (tN (qT t))) fun v3 =>
   if v3 ≤ 0 then
    some (.inr (x1.1, (x1.2 + (1 : Int32))))
   else
    (fE_textAt x1.2 (tN (qT t))).bind fun q5 =>
    (fX_lengthOf q5).bind fun q6 =>
    gw_let (fP_mix (fP_mix (fP_mix x1.1 x1.2.toInt64) v3.toInt64) q6.toInt64) fun q7 =>
    (gw_lp (σ := Int64 × Int32) (ω := Int64) (fun x8 =>
     if q6 ≤ x8.2 then
      some (.inl x8.1)
     else
      gw_let (fP_mix x8.1 ((fX_letterAt q5 x8.2).toInt64)) fun v10 =>
      some (.inr (v10, (x8.2 + (1 : Int32))))
    ) gw_fl (q7, (0 : Int32))).bind fun v8 =>
    some (.inr (v8, (x1.2 + (1 : Int32))))
 ) gw_fl (p1, (0 : Int32))).bind fun v1 =>
 some v1
def fP_append (p1 : Int32) (t : QS) : Option ((Nat × QS) ⊕ (Int32 × QS)) :=
 gw_let (α := Unit → Option ((Nat × QS) ⊕ (Int32 × QS))) (fun v1 =>
  some (.inl (1, t))
 ) fun j1 =>
 if p1 < (1 : Int32) then
  j1 ()
 else
  if p1 ≤ (8 : Int32) then
   if (qL t) < (12 : Int32) then
    gw_let (sQB t (fX_withLetter (qB t) (qL t) p1)) fun t5 =>
    gw_let (sQL t5 ((qL t5) + (1 : Int32))) fun t6 =>
    some (.inr ((qL t6), t6))
   else
    some (.inl (2, t))
  else
   j1 ()
def fP_drop  (t : QS) : Option ((Nat × QS) ⊕ (Int32 × QS)) :=
 if 0 < (qL t) then
  gw_let (sQL t ((qL t) - (1 : Int32))) fun t2 =>
  gw_let (fX_letterAt (qB t2) (qL t2)) fun v3 =>
  gw_let (sQB t2 (fX_startOf (qB t2) (qL t2))) fun t4 =>
  some (.inr (v3, t4))
 else
  some (.inl (2, t))
def fP_cell (p1 : Int32) (p2 : Int32) (t : QS) : Option ((Nat) ⊕ Int32) :=
 gw_let (α := Unit → Option ((Nat) ⊕ Int32)) (fun v1 =>
  some (.inl 3)
 ) fun j1 =>
 if p1 < 0 then
  j1 ()
 else
  if p1 < (160 : Int32) then
   gw_let (α := Unit → Option ((Nat) ⊕ Int32)) (fun v4 =>
    some (.inl 1)
   ) fun j4 =>
   if p2 < 0 then
    j4 ()
   else
    if p2 ≤ (6 : Int32) then
     some (.inr (fT_propertyOf p1 p2 (qT t)))
    else
     j4 ()
  else
   j1 ()
def fP_end (p1 : Int32) (p2 : Int32) (t : QS) : Option ((Nat) ⊕ Int32) :=
 gw_let (α := Unit → Option ((Nat) ⊕ Int32)) (fun v1 =>
  some (.inl 3)
 ) fun j1 =>
 if p1 < 0 then
  j1 ()
 else
  if p1 < (40 : Int32) then
   gw_let (α := Unit → Option ((Nat) ⊕ Int32)) (fun v4 =>
    some (.inl 1)
   ) fun j4 =>
   if p2 < 0 then
    j4 ()
   else
    if p2 ≤ (1 : Int32) then
     gw_let (fE_usesOf p1 (tN (qT t))) fun v7 =>
     if p2 = 0 then
      some (.inr v7)
     else
      if v7 = 0 then
       some (.inr (-1 : Int32))
      else
       (fE_textAt p1 (tN (qT t))).bind fun q10 =>
       (fX_lengthOf q10).bind fun q11 =>
       some (.inr q11)
    else
     j4 ()
  else
   j1 ()
def fP_letter (p1 : Int32) (p2 : Int32) (t : QS) : Option ((Nat) ⊕ Int32) :=
 gw_let (α := Unit → Option ((Nat) ⊕ Int32)) (fun v1 =>
  some (.inl 3)
 ) fun j1 =>
 if p1 < 0 then
  j1 ()
 else
  if p1 < (40 : Int32) then
   gw_let (α := Unit → Option ((Nat) ⊕ Int32)) (fun v4 =>
    some (.inl 1)
   ) fun j4 =>
   if p2 < 0 then
    j4 ()
   else
    if p2 < (12 : Int32) then
     (fE_textAt p1 (tN (qT t))).bind fun q7 =>
     gw_let (fX_letterAt q7 p2) fun v8 =>
     if v8 = 0 then
      some (.inr (-1 : Int32))
     else
      some (.inr v8)
    else
     j4 ()
  else
   j1 ()
def fP_count (p1 : Int32) (t : QS) : Option ((Nat) ⊕ Int32) :=
 if p1 = 0 then
  some (.inr (fT_words (qT t)))
 else if p1 = 1 then
  (fT_usedCells (qT t)).bind fun q3 =>
  some (.inr q3)
 else if p1 = 2 then
  (fT_innerCells (qT t)).bind fun q5 =>
  some (.inr q5)
 else if p1 = 3 then
  (fE_kept (tN (qT t))).bind fun q7 =>
  some (.inr q7)
 else if p1 = 4 then
  (fE_letters (tN (qT t))).bind fun q9 =>
  some (.inr q9)
 else if p1 = 5 then
  some (.inr (tM (qT t)))
 else if p1 = 6 then
  (fT_greatestUsed (qT t)).bind fun q12 =>
  some (.inr q12)
 else if p1 = 7 then
  (fT_lettersOfWords (qT t)).bind fun q14 =>
  some (.inr q14)
 else if p1 = 8 then
  some (.inr (qL t))
 else if p1 = 9 then
  some (.inr (qN t))
 else
  some (.inl 1)
def fP_word (p1 : Int32) (p2 : Int32) (t : QS) : Option ((Nat) ⊕ Int32) :=
 if 0 ≤ p1 then
  gw_let (α := Unit → Option ((Nat) ⊕ Int32)) (fun v2 =>
   some (.inl 1)
  ) fun j2 =>
  if p2 < 0 then
   j2 ()
  else
   if p2 ≤ (12 : Int32) then
    (fT_wordAt p1 (qT t)).bind fun q5 =>
    if q5 = (0 : Int64) then
     some (.inr (-1 : Int32))
    else
     (fX_lengthOf q5).bind fun q7 =>
     if p2 ≤ q7 then
      some (.inr (fX_letterAt q5 p2))
     else
      some (.inr (-1 : Int32))
   else
    j2 ()
 else
  some (.inl 1)
def fP_ifAdded (p1 : Int32) (t : QS) : Option ((Nat × QS) ⊕ (Int32 × QS)) :=
 gw_let (α := Unit → Option ((Nat × QS) ⊕ (Int32 × QS))) (fun v1 =>
  some (.inl (1, t))
 ) fun j1 =>
 if p1 < 0 then
  j1 ()
 else
  if p1 ≤ (3 : Int32) then
   (fP_tryToAdd t).bind fun q4 =>
   (fP_costOfTrial q4.1 p1 q4.2).bind fun q5 =>
   some (.inr (q5, q4.2))
  else
   j1 ()
def fP_digest  (t : QS) : Option (Int64 × QS) :=
 (gw_lp (σ := Int64 × Int32) (ω := Int64) (fun x1 =>
  if (9 : Int32) < x1.2 then
   some (.inl x1.1)
  else
   (gw_ok (fP_count x1.2 t)).bind fun q3 =>
   gw_let (fP_mix x1.1 q3.toInt64) fun v4 =>
   some (.inr (v4, (x1.2 + (1 : Int32))))
 ) gw_fl ((2801 : Int64), (0 : Int32))).bind fun v1 =>
 (fP_mixCells v1 t).bind fun q5 =>
 (fP_mixEnds q5 t).bind fun q6 =>
 (fP_find t).bind fun q7 =>
 gw_let (fP_mix q6 q7.toInt64) fun v8 =>
 (fP_longest t).bind fun q9 =>
 gw_let (fP_mix v8 q9.toInt64) fun v10 =>
 (fP_beginning t).bind fun q11 =>
 gw_let (fP_mix v10 q11.toInt64) fun v12 =>
 (fP_ahead t).bind fun q13 =>
 gw_let (fP_mix v12 q13.toInt64) fun v14 =>
 (gw_lp (σ := Int64 × Int32) (ω := Int64) (fun x15 =>
  if (2 : Int32) < x15.2 then
   some (.inl x15.1)
  else
   (gw_lp (σ := Int64 × Int32) (ω := Int64) (fun x17 =>
    if (12 : Int32) < x17.2 then
     some (.inl x17.1)
    else
     (gw_ok (fP_word x15.2 x17.2 t)).bind fun q19 =>
     gw_let (fP_mix x17.1 q19.toInt64) fun v20 =>
     some (.inr (v20, (x17.2 + (1 : Int32))))
   ) gw_fl (x15.1, (0 : Int32))).bind fun v17 =>
   some (.inr (v17, (x15.2 + (1 : Int32))))
 ) gw_fl (v14, (0 : Int32))).bind fun v15 =>
 (fP_tryToAdd t).bind fun q21 =>
 (gw_lp (σ := Int64 × Int32) (ω := Int64) (fun x22 =>
  if (3 : Int32) < x22.2 then
   some (.inl x22.1)
  else
   (fP_costOfTrial q21.1 x22.2 q21.2).bind fun q24 =>
   gw_let (fP_mix x22.1 q24.toInt64) fun v25 =>
   some (.inr (v25, (x22.2 + (1 : Int32))))
 ) gw_fl (v15, (0 : Int32))).bind fun v22 =>
 (fT_packFrom (qR q21.2) (qT q21.2)).bind fun q26 =>
 gw_let (sQR q21.2 q26.2) fun t27 =>
 gw_let (fP_mix v22 q26.1.toInt64) fun v28 =>
 (fP_fullness t27).bind fun q29 =>
 (fP_bitsOf q29).bind fun q30 =>
 gw_let (fP_mix v28 q30) fun v31 =>
 (gw_lp (σ := Int64 × Int32) (ω := Int64) (fun x32 =>
  if (qL t27) ≤ x32.2 then
   some (.inl x32.1)
  else
   gw_let (fP_mix x32.1 ((fX_letterAt (qB t27) x32.2).toInt64)) fun v34 =>
   some (.inr (v34, (x32.2 + (1 : Int32))))
 ) gw_fl (v31, (0 : Int32))).bind fun v32 =>
 some (v32, t27)
theorem hd_X3_mix : yX3_mix.cls = RX3 ∧ yX3_mix.cls ≠ "java/lang/invoke/MethodHandle" ∧ yX3_mix.cls ≠ "java/lang/invoke/VarHandle" ∧ (parseMethodDescriptor yX3_mix.desc).map (fun d => d.parameters.length) = some 2 := by decide +kernel
set_option maxHeartbeats 4000000 in
set_option maxRecDepth 100000 in
theorem c_X3_mix (l : Launch) (D : va_G) (cI cJ cO : ClassId) (p1 : Int64) (p2 : Int64) {o : Int64} (h : fP_mix p1 p2 = o) : Ct l D (tysA cI cJ cO) yX3_mix wsX3_mix (rmOf 0 0) [.long p1, .long p2] ([]) (some (.long o)) ([]) := by
  refine Ct_of (own := RX3) cX3_mix 4 (some .long) (by decide +kernel) rfl rfl (Nat.le_of_ble_eq_true rfl) ?_
  intro p e s m args below meth c A C hnm
  have k214 : Cond.constantLong RX3 214 (31 : Int64) ∈ wsX3_mix := List.mem_of_getElem? (i := 1) rfl
  have h : Rt o (fP_mix p1 p2) := h
  unfold fP_mix at h
  show gw_G p l e (rmOf 0 0) s m args below meth c D A (CtM D below (some (.long o)) ([]) A args s) 4 0 0 ([]) [(0, .long p1), (2, .long p2)] 0 []
  refine gw_ldc2 C dX3_mix_0 k214 ?_
  refine gw_lload_n C dX3_mix_3 0 rfl ?_
  refine gw_lmul C dX3_mix_4 ?_
  refine gw_lload_n C dX3_mix_5 1 rfl ?_
  refine gw_ladd C dX3_mix_6 ?_
  have ho : _ = o := h
  subst ho
  exact gw_lret C dX3_mix_7
theorem hd_X3_bitsOf : yX3_bitsOf.cls = RX3 ∧ yX3_bitsOf.cls ≠ "java/lang/invoke/MethodHandle" ∧ yX3_bitsOf.cls ≠ "java/lang/invoke/VarHandle" ∧ (parseMethodDescriptor yX3_bitsOf.desc).map (fun d => d.parameters.length) = some 1 := by decide +kernel
set_option maxHeartbeats 4000000 in
set_option maxRecDepth 100000 in
theorem c_X3_bitsOf (l : Launch) (D : va_G) (cI cJ cO : ClassId) (p1 : UInt64) {o : Int64} (h : fP_bitsOf p1 = some o) : Ct l D (tysA cI cJ cO) yX3_bitsOf wsX3_bitsOf (rmOf 0 0) [.double p1] ([]) (some (.long o)) ([]) := by
  refine Ct_of (own := RX3) cX3_bitsOf 8 (some .long) (by decide +kernel) rfl rfl (Nat.le_of_ble_eq_true rfl) ?_
  intro p e s m args below meth c A C hnm
  have k216 : Cond.constantLong RX3 216 (1023 : Int64) ∈ wsX3_bitsOf := List.mem_of_getElem? (i := 1) rfl
  have k218 : Cond.constantDouble RX3 218 (4611686018427387904 : UInt64) ∈ wsX3_bitsOf := List.mem_of_getElem? (i := 2) rfl
  have k220 : Cond.constantDouble RX3 220 (4841369599423283200 : UInt64) ∈ wsX3_bitsOf := List.mem_of_getElem? (i := 3) rfl
  have h := gw_top h
  unfold fP_bitsOf at h
  show gw_G p l e (rmOf 0 0) s m args below meth c D A (CtM D below (some (.long o)) ([]) A args s) 8 0 0 ([]) [(0, .double p1)] 0 []
  refine gw_dload_n C dX3_bitsOf_0 0 rfl ?_
  refine gw_dstore_n C dX3_bitsOf_1 [(2, .double p1), (0, .double p1)] rfl (by decide) rfl ?_
  refine gw_ldc2 C dX3_bitsOf_2 k216 ?_
  refine gw_lstore C dX3_bitsOf_5 [(4, .long (1023 : Int64)), (2, .double p1), (0, .double p1)] (by decide) rfl ?_
  refine gw_iconst (v := (0 : Int32)) C dX3_bitsOf_7 rfl ?_
  refine gw_istore C dX3_bitsOf_8 [(6, .int (0 : Int32)), (4, .long (1023 : Int64)), (2, .double p1), (0, .double p1)] (by decide) rfl ?_
  refine gw_sub [2, 1, 0] rfl ?_
  refine gw_lpb (x0 := (p1, (1023 : Int64), (0 : Int32))) (Go := fun x1 : UInt64 × Int64 × Int32 => gw_G p l e (rmOf 0 0) s m args below meth c D A (CtM D below (some (.long o)) ([]) A args s) 8 0 0 ([]) [(2, .double x1.1), (4, .long x1.2.1), (6, .int x1.2.2)] 10 []) (GoX := fun v1 : UInt64 × Int64 => gw_G p l e (rmOf 0 0) s m args below meth c D A (CtM D below (some (.long o)) ([]) A args s) 8 0 0 ([]) [(2, .double v1.1), (4, .long v1.2)] 42 []) h (fun v1 h => ?_) (fun x1 K1 X1 I1 h => ?_)
  · refine gw_dload_n C dX3_bitsOf_42 0 rfl ?_
    refine gw_dconst1 C dX3_bitsOf_43 ?_
    refine gw_chk h (fun b7 h => ?_)
    refine gw_dsub C dX3_bitsOf_44 b7 ?_
    refine gw_ldc2d C dX3_bitsOf_45 k220 ?_
    refine gw_chk h (fun b8 h => ?_)
    refine gw_dmul C dX3_bitsOf_48 b8 ?_
    refine gw_d2l C dX3_bitsOf_49 ?_
    refine gw_lt h (fun v9 ev9 h => ?_)
    rw [ev9]
    refine gw_lstore C dX3_bitsOf_50 [(6, .long v9), (2, .double v1.1), (4, .long v1.2)] (by decide) rfl ?_
    refine gw_lload C dX3_bitsOf_52 2 rfl ?_
    refine gw_bipush (v := (52 : Int32)) C dX3_bitsOf_54 rfl ?_
    refine gw_lshl C dX3_bitsOf_56 ?_
    refine gw_lload C dX3_bitsOf_57 0 rfl ?_
    refine gw_ladd C dX3_bitsOf_59 ?_
    have h := gw_some h
    have ho := Option.some.inj h
    subst ho
    exact gw_lret C dX3_bitsOf_60
  · refine gw_iload C dX3_bitsOf_10 2 rfl ?_
    refine gw_sipush (v := (1023 : Int32)) C dX3_bitsOf_12 rfl ?_
    refine gw_icmp_ge (tgt := 42) C dX3_bitsOf_15 (by decide) h (fun c2 h => ?_) (fun c2 h => ?_)
    · refine gw_sub [0, 1] rfl ?_
      have h := gw_some h
      exact X1 _ h
    · refine gw_dload_n C dX3_bitsOf_18 0 rfl ?_
      refine gw_dconst1 C dX3_bitsOf_19 ?_
      refine gw_dcmp C dX3_bitsOf_20 ?_
      refine gw_if_ge (tgt := 42) C dX3_bitsOf_21 (by decide) h (fun c3 h => ?_) (fun c3 h => ?_)
      · refine gw_sub [0, 1] rfl ?_
        have h := gw_some h
        exact X1 _ h
      · refine gw_dload_n C dX3_bitsOf_24 0 rfl ?_
        refine gw_ldc2d C dX3_bitsOf_25 k218 ?_
        refine gw_chk h (fun b4 h => ?_)
        refine gw_dmul C dX3_bitsOf_28 b4 ?_
        refine gw_lt h (fun v5 ev5 h => ?_)
        rw [ev5]
        refine gw_dstore_n C dX3_bitsOf_29 [(2, .double v5), (4, .long x1.2.1), (6, .int x1.2.2)] rfl (by decide) rfl ?_
        refine gw_lload C dX3_bitsOf_30 1 rfl ?_
        refine gw_lconst (v := (1 : Int64)) C dX3_bitsOf_32 rfl ?_
        refine gw_lsub C dX3_bitsOf_33 ?_
        refine gw_lt h (fun v6 ev6 h => ?_)
        rw [ev6]
        refine gw_lstore C dX3_bitsOf_34 [(4, .long v6), (2, .double v5), (6, .int x1.2.2)] (by decide) rfl ?_
        refine gw_iinc (v := (x1.2.2 + (1 : Int32))) C dX3_bitsOf_36 [(6, .int (x1.2.2 + (1 : Int32))), (4, .long v6), (2, .double v5)] 2 rfl rfl (by decide) rfl ?_
        refine gw_goto (tgt := 10) C dX3_bitsOf_39 (by decide) ?_
        refine gw_sub [2, 1, 0] rfl ?_
        have h := gw_some h
        exact I1 _ h
theorem hd_X3_find : yX3_find.cls = RX3 ∧ yX3_find.cls ≠ "java/lang/invoke/MethodHandle" ∧ yX3_find.cls ≠ "java/lang/invoke/VarHandle" ∧ (parseMethodDescriptor yX3_find.desc).map (fun d => d.parameters.length) = some 0 := by decide +kernel
set_option maxHeartbeats 4000000 in
set_option maxRecDepth 100000 in
theorem c_X3_find (l : Launch) (D : va_G) (cI cJ cO : ClassId) (aP : Nat) (bT bR : Nat → Nat) (aS : Nat) (t : QS)  {o : Int32} (h : fP_find t = some o) : Ct l D (tysA cI cJ cO) yX3_find wsX3_find (rmOf 3 69) [.ref aP] (wQ cI cJ aP bT bR aS t) (some (.int o)) (wQ cI cJ aP bT bR aS t) := by
  refine Ct_of (own := RX3) cX3_find 1 (some .int) (by decide +kernel) rfl rfl (Nat.le_of_ble_eq_true rfl) ?_
  intro p e s m args below meth c A C hnm
  have iX3 : ∀ w ∈ u_ws RX3 TX3 6, w ∈ wsX3_find := fun w h => List.mem_cons_of_mem _ (List.mem_append_left _ (List.mem_append_left _ (List.mem_append_right _ h)))
  have f12 : Cond.fieldLink RX3 12 (TX3 0).1 (TX3 0).2.1 (TX3 0).2.2.1 ∈ wsX3_find := List.mem_of_getElem? (i := 1) rfl
  have f27 : Cond.fieldLink RX3 27 (TX3 4).1 (TX3 4).2.1 (TX3 4).2.2.1 ∈ wsX3_find := List.mem_of_getElem? (i := 2) rfl
  have w_X1_leafOf := cwV (R := (rmOf 3 69)) (rm := rmOf 2 43) (s := s) (args := args) 1 C.1.2.2.2.2 gX3_find_X1_leafOf rfl rfl rfl hd_X1_leafOf ⟨Nat.le_of_ble_eq_true rfl, Nat.le_of_ble_eq_true rfl⟩
  have h := gw_top h
  unfold fP_find at h
  show gw_G p l e (rmOf 3 69) s m args below meth c D A (CtM D below (some (.int o)) (wQ cI cJ aP bT bR aS t) A args s) 1 0 0 (wQ cI cJ aP bT bR aS t) [(0, .ref aP)] 0 []
  refine gw_aload_n C dX3_find_0 0 rfl ?_
  refine gw_get C dX3_find_1 0 2 0 rfl rfl iX3 (by decide) f12 rfl ?_
  refine gw_aload_n C dX3_find_4 0 rfl ?_
  refine gw_get C dX3_find_5 0 2 4 rfl rfl iX3 (by decide) f27 rfl ?_
  refine gw_bind h (fun q1 hq1 h => ?_)
  refine gw_sub_call (st2 := [.int q1]) (ws' := wQ cI cJ aP bT bR aS t) C [1, 2, 3, 4, 5, 6, 7, 8, 9, 10, 11] [0, 12, 13, 14, 15, 16, 17, 18, 19, 20, 21, 22] [0, 12, 13, 14, 15, 16, 17, 18, 19, 20, 21, 22, 1, 2, 3, 4, 5, 6, 7, 8, 9, 10, 11] rfl rfl rfl rfl (by decide) rfl rfl (run_V (rest := []) C (c_X1_leafOf l D cI cJ cO bT (qT t) (qB t) hq1) w_X1_leafOf 0 1 rfl rfl rfl rfl rfl (Nat.le_of_ble_eq_true rfl) dX3_find_8 ⟨Nat.zero_le _, Nat.zero_le _⟩) rfl ?_
  have h := gw_some h
  have ho := Option.some.inj h
  subst ho
  exact gw_iret C dX3_find_11
theorem hd_X3_longest : yX3_longest.cls = RX3 ∧ yX3_longest.cls ≠ "java/lang/invoke/MethodHandle" ∧ yX3_longest.cls ≠ "java/lang/invoke/VarHandle" ∧ (parseMethodDescriptor yX3_longest.desc).map (fun d => d.parameters.length) = some 0 := by decide +kernel
set_option maxHeartbeats 4000000 in
set_option maxRecDepth 100000 in
theorem c_X3_longest (l : Launch) (D : va_G) (cI cJ cO : ClassId) (aP : Nat) (bT bR : Nat → Nat) (aS : Nat) (t : QS)  {o : Int32} (h : fP_longest t = some o) : Ct l D (tysA cI cJ cO) yX3_longest wsX3_longest (rmOf 5 116) [.ref aP] (wQ cI cJ aP bT bR aS t) (some (.int o)) (wQ cI cJ aP bT bR aS t) := by
  refine Ct_of (own := RX3) cX3_longest 1 (some .int) (by decide +kernel) rfl rfl (Nat.le_of_ble_eq_true rfl) ?_
  intro p e s m args below meth c A C hnm
  have iX3 : ∀ w ∈ u_ws RX3 TX3 6, w ∈ wsX3_longest := fun w h => List.mem_cons_of_mem _ (List.mem_append_left _ (List.mem_append_left _ (List.mem_append_right _ h)))
  have f12 : Cond.fieldLink RX3 12 (TX3 0).1 (TX3 0).2.1 (TX3 0).2.2.1 ∈ wsX3_longest := List.mem_of_getElem? (i := 1) rfl
  have f27 : Cond.fieldLink RX3 27 (TX3 4).1 (TX3 4).2.1 (TX3 4).2.2.1 ∈ wsX3_longest := List.mem_of_getElem? (i := 2) rfl
  have w_X1_longestAtStartOf := cwV (R := (rmOf 5 116)) (rm := rmOf 4 89) (s := s) (args := args) 1 C.1.2.2.2.2 gX3_longest_X1_longestAtStartOf rfl rfl rfl hd_X1_longestAtStartOf ⟨Nat.le_of_ble_eq_true rfl, Nat.le_of_ble_eq_true rfl⟩
  have h := gw_top h
  unfold fP_longest at h
  show gw_G p l e (rmOf 5 116) s m args below meth c D A (CtM D below (some (.int o)) (wQ cI cJ aP bT bR aS t) A args s) 1 0 0 (wQ cI cJ aP bT bR aS t) [(0, .ref aP)] 0 []
  refine gw_aload_n C dX3_longest_0 0 rfl ?_
  refine gw_get C dX3_longest_1 0 2 0 rfl rfl iX3 (by decide) f12 rfl ?_
  refine gw_aload_n C dX3_longest_4 0 rfl ?_
  refine gw_get C dX3_longest_5 0 2 4 rfl rfl iX3 (by decide) f27 rfl ?_
  refine gw_bind h (fun q1 hq1 h => ?_)
  refine gw_sub_call (st2 := [.int q1]) (ws' := wQ cI cJ aP bT bR aS t) C [1, 2, 3, 4, 5, 6, 7, 8, 9, 10, 11] [0, 12, 13, 14, 15, 16, 17, 18, 19, 20, 21, 22] [0, 12, 13, 14, 15, 16, 17, 18, 19, 20, 21, 22, 1, 2, 3, 4, 5, 6, 7, 8, 9, 10, 11] rfl rfl rfl rfl (by decide) rfl rfl (run_V (rest := []) C (c_X1_longestAtStartOf l D cI cJ cO bT (qT t) (qB t) hq1) w_X1_longestAtStartOf 0 1 rfl rfl rfl rfl rfl (Nat.le_of_ble_eq_true rfl) dX3_longest_8 ⟨Nat.zero_le _, Nat.zero_le _⟩) rfl ?_
  have h := gw_some h
  have ho := Option.some.inj h
  subst ho
  exact gw_iret C dX3_longest_11
theorem hd_X3_beginning : yX3_beginning.cls = RX3 ∧ yX3_beginning.cls ≠ "java/lang/invoke/MethodHandle" ∧ yX3_beginning.cls ≠ "java/lang/invoke/VarHandle" ∧ (parseMethodDescriptor yX3_beginning.desc).map (fun d => d.parameters.length) = some 0 := by decide +kernel
set_option maxHeartbeats 4000000 in
set_option maxRecDepth 100000 in
theorem c_X3_beginning (l : Launch) (D : va_G) (cI cJ cO : ClassId) (aP : Nat) (bT bR : Nat → Nat) (aS : Nat) (t : QS)  {o : Int32} (h : fP_beginning t = some o) : Ct l D (tysA cI cJ cO) yX3_beginning wsX3_beginning (rmOf 5 115) [.ref aP] (wQ cI cJ aP bT bR aS t) (some (.int o)) (wQ cI cJ aP bT bR aS t) := by
  refine Ct_of (own := RX3) cX3_beginning 1 (some .int) (by decide +kernel) rfl rfl (Nat.le_of_ble_eq_true rfl) ?_
  intro p e s m args below meth c A C hnm
  have iX3 : ∀ w ∈ u_ws RX3 TX3 6, w ∈ wsX3_beginning := fun w h => List.mem_cons_of_mem _ (List.mem_append_left _ (List.mem_append_left _ (List.mem_append_right _ h)))
  have f12 : Cond.fieldLink RX3 12 (TX3 0).1 (TX3 0).2.1 (TX3 0).2.2.1 ∈ wsX3_beginning := List.mem_of_getElem? (i := 1) rfl
  have f27 : Cond.fieldLink RX3 27 (TX3 4).1 (TX3 4).2.1 (TX3 4).2.2.1 ∈ wsX3_beginning := List.mem_of_getElem? (i := 2) rfl
  have w_X1_wordsWith := cwV (R := (rmOf 5 115)) (rm := rmOf 4 89) (s := s) (args := args) 1 C.1.2.2.2.2 gX3_beginning_X1_wordsWith rfl rfl rfl hd_X1_wordsWith ⟨Nat.le_of_ble_eq_true rfl, Nat.le_of_ble_eq_true rfl⟩
  have h := gw_top h
  unfold fP_beginning at h
  show gw_G p l e (rmOf 5 115) s m args below meth c D A (CtM D below (some (.int o)) (wQ cI cJ aP bT bR aS t) A args s) 1 0 0 (wQ cI cJ aP bT bR aS t) [(0, .ref aP)] 0 []
  refine gw_aload_n C dX3_beginning_0 0 rfl ?_
  refine gw_get C dX3_beginning_1 0 2 0 rfl rfl iX3 (by decide) f12 rfl ?_
  refine gw_aload_n C dX3_beginning_4 0 rfl ?_
  refine gw_get C dX3_beginning_5 0 2 4 rfl rfl iX3 (by decide) f27 rfl ?_
  refine gw_bind h (fun q1 hq1 h => ?_)
  refine gw_sub_call (st2 := [.int q1]) (ws' := wQ cI cJ aP bT bR aS t) C [1, 2, 3, 4, 5, 6, 7, 8, 9, 10, 11] [0, 12, 13, 14, 15, 16, 17, 18, 19, 20, 21, 22] [0, 12, 13, 14, 15, 16, 17, 18, 19, 20, 21, 22, 1, 2, 3, 4, 5, 6, 7, 8, 9, 10, 11] rfl rfl rfl rfl (by decide) rfl rfl (run_V (rest := []) C (c_X1_wordsWith l D cI cJ cO bT (qT t) (qB t) hq1) w_X1_wordsWith 0 1 rfl rfl rfl rfl rfl (Nat.le_of_ble_eq_true rfl) dX3_beginning_8 ⟨Nat.zero_le _, Nat.zero_le _⟩) rfl ?_
  have h := gw_some h
  have ho := Option.some.inj h
  subst ho
  exact gw_iret C dX3_beginning_11
theorem hd_X3_ahead : yX3_ahead.cls = RX3 ∧ yX3_ahead.cls ≠ "java/lang/invoke/MethodHandle" ∧ yX3_ahead.cls ≠ "java/lang/invoke/VarHandle" ∧ (parseMethodDescriptor yX3_ahead.desc).map (fun d => d.parameters.length) = some 0 := by decide +kernel
set_option maxHeartbeats 4000000 in
set_option maxRecDepth 100000 in
theorem c_X3_ahead (l : Launch) (D : va_G) (cI cJ cO : ClassId) (aP : Nat) (bT bR : Nat → Nat) (aS : Nat) (t : QS)  {o : Int32} (h : fP_ahead t = some o) : Ct l D (tysA cI cJ cO) yX3_ahead wsX3_ahead (rmOf 4 96) [.ref aP] (wQ cI cJ aP bT bR aS t) (some (.int o)) (wQ cI cJ aP bT bR aS t) := by
  refine Ct_of (own := RX3) cX3_ahead 1 (some .int) (by decide +kernel) rfl rfl (Nat.le_of_ble_eq_true rfl) ?_
  intro p e s m args below meth c A C hnm
  have iX3 : ∀ w ∈ u_ws RX3 TX3 6, w ∈ wsX3_ahead := fun w h => List.mem_cons_of_mem _ (List.mem_append_left _ (List.mem_append_left _ (List.mem_append_right _ h)))
  have f12 : Cond.fieldLink RX3 12 (TX3 0).1 (TX3 0).2.1 (TX3 0).2.2.1 ∈ wsX3_ahead := List.mem_of_getElem? (i := 1) rfl
  have f27 : Cond.fieldLink RX3 27 (TX3 4).1 (TX3 4).2.1 (TX3 4).2.2.1 ∈ wsX3_ahead := List.mem_of_getElem? (i := 2) rfl
  have w_X1_wordsAhead := cwV (R := (rmOf 4 96)) (rm := rmOf 3 69) (s := s) (args := args) 1 C.1.2.2.2.2 gX3_ahead_X1_wordsAhead rfl rfl rfl hd_X1_wordsAhead ⟨Nat.le_of_ble_eq_true rfl, Nat.le_of_ble_eq_true rfl⟩
  have h := gw_top h
  unfold fP_ahead at h
  show gw_G p l e (rmOf 4 96) s m args below meth c D A (CtM D below (some (.int o)) (wQ cI cJ aP bT bR aS t) A args s) 1 0 0 (wQ cI cJ aP bT bR aS t) [(0, .ref aP)] 0 []
  refine gw_aload_n C dX3_ahead_0 0 rfl ?_
  refine gw_get C dX3_ahead_1 0 2 0 rfl rfl iX3 (by decide) f12 rfl ?_
  refine gw_aload_n C dX3_ahead_4 0 rfl ?_
  refine gw_get C dX3_ahead_5 0 2 4 rfl rfl iX3 (by decide) f27 rfl ?_
  refine gw_bind h (fun q1 hq1 h => ?_)
  refine gw_sub_call (st2 := [.int q1]) (ws' := wQ cI cJ aP bT bR aS t) C [1, 2, 3, 4, 5, 6, 7, 8, 9, 10, 11] [0, 12, 13, 14, 15, 16, 17, 18, 19, 20, 21, 22] [0, 12, 13, 14, 15, 16, 17, 18, 19, 20, 21, 22, 1, 2, 3, 4, 5, 6, 7, 8, 9, 10, 11] rfl rfl rfl rfl (by decide) rfl rfl (run_V (rest := []) C (c_X1_wordsAhead l D cI cJ cO bT (qT t) (qB t) hq1) w_X1_wordsAhead 0 1 rfl rfl rfl rfl rfl (Nat.le_of_ble_eq_true rfl) dX3_ahead_8 ⟨Nat.zero_le _, Nat.zero_le _⟩) rfl ?_
  have h := gw_some h
  have ho := Option.some.inj h
  subst ho
  exact gw_iret C dX3_ahead_11
theorem hd_X3_clearBuffer : yX3_clearBuffer.cls = RX3 ∧ yX3_clearBuffer.cls ≠ "java/lang/invoke/MethodHandle" ∧ yX3_clearBuffer.cls ≠ "java/lang/invoke/VarHandle" ∧ (parseMethodDescriptor yX3_clearBuffer.desc).map (fun d => d.parameters.length) = some 0 := by decide +kernel
set_option maxHeartbeats 4000000 in
set_option maxRecDepth 100000 in
theorem c_X3_clearBuffer (l : Launch) (D : va_G) (cI cJ cO : ClassId) (aP : Nat) (bT bR : Nat → Nat) (aS : Nat) (t : QS)  {o : Int32 × QS} (h : fP_clearBuffer t = o) : Ct l D (tysA cI cJ cO) yX3_clearBuffer wsX3_clearBuffer (rmOf 0 0) [.ref aP] (wQ cI cJ aP bT bR aS t) (some (.int o.1)) (wQ cI cJ aP bT bR aS o.2) := by
  refine Ct_of (own := RX3) cX3_clearBuffer 2 (some .int) (by decide +kernel) rfl rfl (Nat.le_of_ble_eq_true rfl) ?_
  intro p e s m args below meth c A C hnm
  have iX3 : ∀ w ∈ u_ws RX3 TX3 6, w ∈ wsX3_clearBuffer := fun w h => List.mem_cons_of_mem _ (List.mem_append_right _ h)
  have f27 : Cond.fieldLink RX3 27 (TX3 4).1 (TX3 4).2.1 (TX3 4).2.2.1 ∈ wsX3_clearBuffer := List.mem_of_getElem? (i := 2) rfl
  have f31 : Cond.fieldLink RX3 31 (TX3 5).1 (TX3 5).2.1 (TX3 5).2.2.1 ∈ wsX3_clearBuffer := List.mem_of_getElem? (i := 1) rfl
  have h : Rt o (fP_clearBuffer t) := h
  unfold fP_clearBuffer at h
  show gw_G p l e (rmOf 0 0) s m args below meth c D A (CtM D below (some (.int o.1)) (wQ cI cJ aP bT bR aS o.2) A args s) 2 0 0 (wQ cI cJ aP bT bR aS t) [(0, .ref aP)] 0 []
  refine gw_aload_n C dX3_clearBuffer_0 0 rfl ?_
  refine gw_get C dX3_clearBuffer_1 0 2 5 rfl rfl iX3 (by decide) f31 rfl ?_
  refine gw_lt h (fun v1 ev1 h => ?_)
  rw [ev1]
  refine gw_istore_n C dX3_clearBuffer_4 [(1, .int v1), (0, .ref aP)] rfl (by decide) rfl ?_
  refine gw_aload_n C dX3_clearBuffer_5 1 rfl ?_
  refine gw_lconst (v := (0 : Int64)) C dX3_clearBuffer_6 rfl ?_
  refine gw_lt h (fun t2 et2 h => ?_)
  refine gw_put (ws' := wQ cI cJ aP bT bR aS t2) (ty := .long) C dX3_clearBuffer_7 0 2 4 tyX3 tyX3_ok nmX3 rfl rfl iX3 (by decide) f27 rfl (tyX3_ok 4 (by decide)) rfl rfl (Nat.le_of_ble_eq_true rfl) (by subst et2; rfl) ?_
  refine gw_aload_n C dX3_clearBuffer_10 1 rfl ?_
  refine gw_iconst (v := (0 : Int32)) C dX3_clearBuffer_11 rfl ?_
  refine gw_lt h (fun t3 et3 h => ?_)
  refine gw_put (ws' := wQ cI cJ aP bT bR aS t3) (ty := .int) C dX3_clearBuffer_12 0 2 5 tyX3 tyX3_ok nmX3 rfl rfl iX3 (by decide) f31 rfl (tyX3_ok 5 (by decide)) rfl rfl (Nat.le_of_ble_eq_true rfl) (by subst et3; rfl) ?_
  refine gw_iload_n C dX3_clearBuffer_15 0 rfl ?_
  have ho : _ = o := h
  subst ho
  exact gw_iret C dX3_clearBuffer_16
theorem hd_X3_tryToAdd : yX3_tryToAdd.cls = RX3 ∧ yX3_tryToAdd.cls ≠ "java/lang/invoke/MethodHandle" ∧ yX3_tryToAdd.cls ≠ "java/lang/invoke/VarHandle" ∧ (parseMethodDescriptor yX3_tryToAdd.desc).map (fun d => d.parameters.length) = some 0 := by decide +kernel
set_option maxHeartbeats 4000000 in
set_option maxRecDepth 100000 in
theorem c_X3_tryToAdd (l : Launch) (D : va_G) (cI cJ cO : ClassId) (aP : Nat) (bT bR : Nat → Nat) (aS : Nat) (t : QS)  {o : Int32 × QS} (h : fP_tryToAdd t = some o) : Ct l D (tysA cI cJ cO) yX3_tryToAdd wsX3_tryToAdd (rmOf 5 135) [.ref aP] (wQ cI cJ aP bT bR aS t) (some (.int o.1)) (wQ cI cJ aP bT bR aS o.2) := by
  refine Ct_of (own := RX3) cX3_tryToAdd 1 (some .int) (by decide +kernel) rfl rfl (Nat.le_of_ble_eq_true rfl) ?_
  intro p e s m args below meth c A C hnm
  have iX3 : ∀ w ∈ u_ws RX3 TX3 6, w ∈ wsX3_tryToAdd := fun w h => List.mem_cons_of_mem _ (List.mem_append_left _ (List.mem_append_left _ (List.mem_append_right _ h)))
  have f12 : Cond.fieldLink RX3 12 (TX3 0).1 (TX3 0).2.1 (TX3 0).2.2.1 ∈ wsX3_tryToAdd := List.mem_of_getElem? (i := 2) rfl
  have f16 : Cond.fieldLink RX3 16 (TX3 1).1 (TX3 1).2.1 (TX3 1).2.2.1 ∈ wsX3_tryToAdd := List.mem_of_getElem? (i := 4) rfl
  have f27 : Cond.fieldLink RX3 27 (TX3 4).1 (TX3 4).2.1 (TX3 4).2.2.1 ∈ wsX3_tryToAdd := List.mem_of_getElem? (i := 3) rfl
  have f31 : Cond.fieldLink RX3 31 (TX3 5).1 (TX3 5).2.1 (TX3 5).2.2.1 ∈ wsX3_tryToAdd := List.mem_of_getElem? (i := 1) rfl
  have w_X1_copyFrom := cwV (R := (rmOf 5 135)) (rm := rmOf 3 60) (s := s) (args := args) 1 C.1.2.2.2.2 gX3_tryToAdd_X1_copyFrom rfl rfl rfl hd_X1_copyFrom ⟨Nat.le_of_ble_eq_true rfl, Nat.le_of_ble_eq_true rfl⟩
  have w_X1_insert := cwV (R := (rmOf 5 135)) (rm := rmOf 4 107) (s := s) (args := args) 1 C.1.2.2.2.2 gX3_tryToAdd_X1_insert rfl rfl rfl hd_X1_insert ⟨Nat.le_of_ble_eq_true rfl, Nat.le_of_ble_eq_true rfl⟩
  have w_X1_leafOf := cwV (R := (rmOf 5 135)) (rm := rmOf 2 43) (s := s) (args := args) 1 C.1.2.2.2.2 gX3_tryToAdd_X1_leafOf rfl rfl rfl hd_X1_leafOf ⟨Nat.le_of_ble_eq_true rfl, Nat.le_of_ble_eq_true rfl⟩
  have h := gw_top h
  unfold fP_tryToAdd at h
  show gw_G p l e (rmOf 5 135) s m args below meth c D A (CtM D below (some (.int o.1)) (wQ cI cJ aP bT bR aS o.2) A args s) 1 0 0 (wQ cI cJ aP bT bR aS t) [(0, .ref aP)] 0 []
  refine gw_aload_n C dX3_tryToAdd_0 0 rfl ?_
  refine gw_get C dX3_tryToAdd_1 0 2 5 rfl rfl iX3 (by decide) f31 rfl ?_
  refine gw_if_ne (tgt := 9) C dX3_tryToAdd_4 (by decide) h (fun c1 h => ?_) (fun c1 h => ?_)
  · refine gw_iconst (v := (3 : Int32)) C dX3_tryToAdd_7 rfl ?_
    have h := gw_some h
    have ho := Option.some.inj h
    subst ho
    exact gw_iret C dX3_tryToAdd_8
  · refine gw_aload_n C dX3_tryToAdd_9 0 rfl ?_
    refine gw_get C dX3_tryToAdd_10 0 2 0 rfl rfl iX3 (by decide) f12 rfl ?_
    refine gw_aload_n C dX3_tryToAdd_13 0 rfl ?_
    refine gw_get C dX3_tryToAdd_14 0 2 4 rfl rfl iX3 (by decide) f27 rfl ?_
    refine gw_bind h (fun q2 hq2 h => ?_)
    refine gw_sub_call (st2 := [.int q2]) (ws' := wQ cI cJ aP bT bR aS t) C [1, 2, 3, 4, 5, 6, 7, 8, 9, 10, 11] [0, 12, 13, 14, 15, 16, 17, 18, 19, 20, 21, 22] [0, 12, 13, 14, 15, 16, 17, 18, 19, 20, 21, 22, 1, 2, 3, 4, 5, 6, 7, 8, 9, 10, 11] rfl rfl rfl rfl (by decide) rfl rfl (run_V (rest := []) C (c_X1_leafOf l D cI cJ cO bT (qT t) (qB t) hq2) w_X1_leafOf 0 1 rfl rfl rfl rfl rfl (Nat.le_of_ble_eq_true rfl) dX3_tryToAdd_17 ⟨Nat.zero_le _, Nat.zero_le _⟩) rfl ?_
    refine gw_iconst (v := (-1 : Int32)) C dX3_tryToAdd_20 rfl ?_
    refine gw_icmp_eq (tgt := 26) C dX3_tryToAdd_21 (by decide) h (fun c3 h => ?_) (fun c3 h => ?_)
    · refine gw_aload_n C dX3_tryToAdd_26 0 rfl ?_
      refine gw_get C dX3_tryToAdd_27 0 2 1 rfl rfl iX3 (by decide) f16 rfl ?_
      refine gw_aload_n C dX3_tryToAdd_30 0 rfl ?_
      refine gw_get C dX3_tryToAdd_31 0 2 0 rfl rfl iX3 (by decide) f12 rfl ?_
      refine gw_lt h (fun q4 hq4 h => ?_)
      refine gw_lt h (fun t5 et5 h => ?_)
      refine gw_sub_call (st2 := []) (ws' := wQ cI cJ aP bT bR aS t5) C [12, 13, 14, 15, 16, 17, 18, 19, 20, 21, 22, 1, 2, 3, 4, 5, 6, 7, 8, 9, 10, 11] [0] [0, 12, 13, 14, 15, 16, 17, 18, 19, 20, 21, 22, 1, 2, 3, 4, 5, 6, 7, 8, 9, 10, 11] rfl rfl rfl rfl (by decide) (by subst et5; rfl) rfl (run_V (rest := []) C (c_X1_copyFrom l D cI cJ cO bR bT (qR t) (qT t) hq4) w_X1_copyFrom 0 1 rfl rfl rfl rfl rfl (Nat.le_of_ble_eq_true rfl) dX3_tryToAdd_34 ⟨Nat.zero_le _, Nat.zero_le _⟩) rfl ?_
      refine gw_aload_n C dX3_tryToAdd_37 0 rfl ?_
      refine gw_get C dX3_tryToAdd_38 0 2 1 rfl rfl iX3 (by decide) f16 rfl ?_
      refine gw_aload_n C dX3_tryToAdd_41 0 rfl ?_
      refine gw_get C dX3_tryToAdd_42 0 2 4 rfl rfl iX3 (by decide) f27 rfl ?_
      refine gw_bind h (fun q6 hq6 h => ?_)
      refine gw_lt h (fun t7 et7 h => ?_)
      refine gw_sub_call (st2 := [.int q6.1]) (ws' := wQ cI cJ aP bT bR aS t7) C [12, 13, 14, 15, 16, 17, 18, 19, 20, 21, 22] [0, 1, 2, 3, 4, 5, 6, 7, 8, 9, 10, 11] [0, 1, 2, 3, 4, 5, 6, 7, 8, 9, 10, 11, 12, 13, 14, 15, 16, 17, 18, 19, 20, 21, 22] rfl rfl rfl rfl (by decide) (by subst et7; rfl) rfl (run_V (rest := []) C (c_X1_insert l D cI cJ cO bR (qR t5) (qB t5) hq6) w_X1_insert 0 1 rfl rfl rfl rfl rfl (Nat.le_of_ble_eq_true rfl) dX3_tryToAdd_45 ⟨Nat.zero_le _, Nat.zero_le _⟩) rfl ?_
      refine gw_iconst (v := (-1 : Int32)) C dX3_tryToAdd_48 rfl ?_
      refine gw_icmp_ne (tgt := 56) C dX3_tryToAdd_49 (by decide) h (fun c8 h => ?_) (fun c8 h => ?_)
      · refine gw_iconst (v := (2 : Int32)) C dX3_tryToAdd_52 rfl ?_
        refine gw_goto (tgt := 57) C dX3_tryToAdd_53 (by decide) ?_
        have h := gw_some h
        have ho := Option.some.inj h
        subst ho
        exact gw_iret C dX3_tryToAdd_57
      · refine gw_iconst (v := (0 : Int32)) C dX3_tryToAdd_56 rfl ?_
        have h := gw_some h
        have ho := Option.some.inj h
        subst ho
        exact gw_iret C dX3_tryToAdd_57
    · refine gw_iconst (v := (1 : Int32)) C dX3_tryToAdd_24 rfl ?_
      have h := gw_some h
      have ho := Option.some.inj h
      subst ho
      exact gw_iret C dX3_tryToAdd_25
theorem hd_X3_costOfTrial : yX3_costOfTrial.cls = RX3 ∧ yX3_costOfTrial.cls ≠ "java/lang/invoke/MethodHandle" ∧ yX3_costOfTrial.cls ≠ "java/lang/invoke/VarHandle" ∧ (parseMethodDescriptor yX3_costOfTrial.desc).map (fun d => d.parameters.length) = some 2 := by decide +kernel
set_option maxHeartbeats 4000000 in
set_option maxRecDepth 100000 in
theorem c_X3_costOfTrial (l : Launch) (D : va_G) (cI cJ cO : ClassId) (aP : Nat) (bT bR : Nat → Nat) (aS : Nat) (t : QS) (p1 : Int32) (p2 : Int32) {o : Int32} (h : fP_costOfTrial p1 p2 t = some o) : Ct l D (tysA cI cJ cO) yX3_costOfTrial wsX3_costOfTrial (rmOf 1 22) [.ref aP, .int p1, .int p2] (wQ cI cJ aP bT bR aS t) (some (.int o)) (wQ cI cJ aP bT bR aS t) := by
  refine Ct_of (own := RX3) cX3_costOfTrial 3 (some .int) (by decide +kernel) rfl rfl (Nat.le_of_ble_eq_true rfl) ?_
  intro p e s m args below meth c A C hnm
  have iX1 : ∀ w ∈ u_ws RX1 TX1 9, w ∈ wsX3_costOfTrial := fun w h => List.mem_cons_of_mem _ (List.mem_append_left _ (List.mem_append_right _ h))
  have iX3 : ∀ w ∈ u_ws RX3 TX3 6, w ∈ wsX3_costOfTrial := fun w h => List.mem_cons_of_mem _ (List.mem_append_left _ (List.mem_append_left _ (List.mem_append_right _ h)))
  have f12 : Cond.fieldLink RX3 12 (TX3 0).1 (TX3 0).2.1 (TX3 0).2.2.1 ∈ wsX3_costOfTrial := List.mem_of_getElem? (i := 2) rfl
  have f16 : Cond.fieldLink RX3 16 (TX3 1).1 (TX3 1).2.1 (TX3 1).2.2.1 ∈ wsX3_costOfTrial := List.mem_of_getElem? (i := 1) rfl
  have f123 : Cond.fieldLink RX3 123 (TX1 0).1 (TX1 0).2.1 (TX1 0).2.2.1 ∈ wsX3_costOfTrial := List.mem_of_getElem? (i := 4) rfl
  have f152 : Cond.fieldLink RX3 152 (TX1 8).1 (TX1 8).2.1 (TX1 8).2.2.1 ∈ wsX3_costOfTrial := List.mem_of_getElem? (i := 3) rfl
  have w_X0_kept := cwV (R := (rmOf 1 22)) (rm := rmOf 0 0) (s := s) (args := args) 0 C.1.2.2.2.2 gX3_costOfTrial_X0_kept rfl rfl rfl hd_X0_kept ⟨Nat.le_of_ble_eq_true rfl, Nat.le_of_ble_eq_true rfl⟩
  have w_X1_usedCells := cwV (R := (rmOf 1 22)) (rm := rmOf 0 0) (s := s) (args := args) 0 C.1.2.2.2.2 gX3_costOfTrial_X1_usedCells rfl rfl rfl hd_X1_usedCells ⟨Nat.le_of_ble_eq_true rfl, Nat.le_of_ble_eq_true rfl⟩
  have h := gw_top h
  unfold fP_costOfTrial at h
  show gw_G p l e (rmOf 1 22) s m args below meth c D A (CtM D below (some (.int o)) (wQ cI cJ aP bT bR aS t) A args s) 3 0 0 (wQ cI cJ aP bT bR aS t) [(0, .ref aP), (1, .int p1), (2, .int p2)] 0 []
  refine gw_iload_n C dX3_costOfTrial_0 2 rfl ?_
  refine gw_if_ne (tgt := 6) C dX3_costOfTrial_1 (by decide) h (fun c1 h => ?_) (fun c1 h => ?_)
  · refine gw_iload_n C dX3_costOfTrial_4 1 rfl ?_
    have h := gw_some h
    have ho := Option.some.inj h
    subst ho
    exact gw_iret C dX3_costOfTrial_5
  · refine gw_iload_n C dX3_costOfTrial_6 1 rfl ?_
    refine gw_if_eq (tgt := 12) C dX3_costOfTrial_7 (by decide) h (fun c2 h => ?_) (fun c2 h => ?_)
    · refine gw_iload_n C dX3_costOfTrial_12 2 rfl ?_
      refine gw_iconst (v := (1 : Int32)) C dX3_costOfTrial_13 rfl ?_
      refine gw_icmp_ne (tgt := 33) C dX3_costOfTrial_14 (by decide) h (fun c3 h => ?_) (fun c3 h => ?_)
      · refine gw_aload_n C dX3_costOfTrial_17 0 rfl ?_
        refine gw_get C dX3_costOfTrial_18 0 2 1 rfl rfl iX3 (by decide) f16 rfl ?_
        refine gw_bind h (fun q4 hq4 h => ?_)
        refine gw_sub_call (st2 := [.int q4]) (ws' := wQ cI cJ aP bT bR aS t) C [12, 13, 14, 15, 16, 17, 18, 19, 20, 21, 22] [0, 1, 2, 3, 4, 5, 6, 7, 8, 9, 10, 11] [0, 1, 2, 3, 4, 5, 6, 7, 8, 9, 10, 11, 12, 13, 14, 15, 16, 17, 18, 19, 20, 21, 22] rfl rfl rfl rfl (by decide) rfl rfl (run_V (rest := []) C (c_X1_usedCells l D cI cJ cO bR (qR t) hq4) w_X1_usedCells 0 1 rfl rfl rfl rfl rfl (Nat.le_of_ble_eq_true rfl) dX3_costOfTrial_21 ⟨Nat.zero_le _, Nat.zero_le _⟩) rfl ?_
        refine gw_aload_n C dX3_costOfTrial_24 0 rfl ?_
        refine gw_get C dX3_costOfTrial_25 0 2 0 rfl rfl iX3 (by decide) f12 rfl ?_
        refine gw_bind h (fun q5 hq5 h => ?_)
        refine gw_sub_call (st2 := [.int q5, .int q4]) (ws' := wQ cI cJ aP bT bR aS t) C [1, 2, 3, 4, 5, 6, 7, 8, 9, 10, 11] [0, 12, 13, 14, 15, 16, 17, 18, 19, 20, 21, 22] [0, 12, 13, 14, 15, 16, 17, 18, 19, 20, 21, 22, 1, 2, 3, 4, 5, 6, 7, 8, 9, 10, 11] rfl rfl rfl rfl (by decide) rfl rfl (run_V (rest := [.int q4]) C (c_X1_usedCells l D cI cJ cO bT (qT t) hq5) w_X1_usedCells 0 1 rfl rfl rfl rfl rfl (Nat.le_of_ble_eq_true rfl) dX3_costOfTrial_28 ⟨Nat.zero_le _, Nat.zero_le _⟩) rfl ?_
        refine gw_isub C dX3_costOfTrial_31 ?_
        have h := gw_some h
        have ho := Option.some.inj h
        subst ho
        exact gw_iret C dX3_costOfTrial_32
      · refine gw_iload_n C dX3_costOfTrial_33 2 rfl ?_
        refine gw_iconst (v := (2 : Int32)) C dX3_costOfTrial_34 rfl ?_
        refine gw_icmp_ne (tgt := 54) C dX3_costOfTrial_35 (by decide) h (fun c6 h => ?_) (fun c6 h => ?_)
        · refine gw_aload_n C dX3_costOfTrial_38 0 rfl ?_
          refine gw_get C dX3_costOfTrial_39 0 2 1 rfl rfl iX3 (by decide) f16 rfl ?_
          refine gw_get C dX3_costOfTrial_42 12 1 8 rfl rfl iX1 (by decide) f152 rfl ?_
          refine gw_aload_n C dX3_costOfTrial_45 0 rfl ?_
          refine gw_get C dX3_costOfTrial_46 0 2 0 rfl rfl iX3 (by decide) f12 rfl ?_
          refine gw_get C dX3_costOfTrial_49 1 1 8 rfl rfl iX1 (by decide) f152 rfl ?_
          refine gw_isub C dX3_costOfTrial_52 ?_
          have h := gw_some h
          have ho := Option.some.inj h
          subst ho
          exact gw_iret C dX3_costOfTrial_53
        · refine gw_aload_n C dX3_costOfTrial_54 0 rfl ?_
          refine gw_get C dX3_costOfTrial_55 0 2 1 rfl rfl iX3 (by decide) f16 rfl ?_
          refine gw_get C dX3_costOfTrial_58 12 1 0 rfl rfl iX1 (by decide) f123 rfl ?_
          refine gw_bind h (fun q7 hq7 h => ?_)
          refine gw_sub_call (st2 := [.int q7]) (ws' := wQ cI cJ aP bT bR aS t) C [20, 21, 22] [0, 1, 2, 3, 4, 5, 6, 7, 8, 9, 10, 11, 12, 13, 14, 15, 16, 17, 18, 19] [0, 1, 2, 3, 4, 5, 6, 7, 8, 9, 10, 11, 12, 13, 14, 15, 16, 17, 18, 19, 20, 21, 22] rfl rfl rfl rfl (by decide) rfl rfl (run_V (rest := []) C (c_X0_kept l D cI cJ cO (bR 8) (bR 9) (bR 10) (tN (qR t)) hq7) w_X0_kept 0 0 rfl rfl rfl rfl rfl (Nat.le_of_ble_eq_true rfl) dX3_costOfTrial_61 ⟨Nat.zero_le _, Nat.zero_le _⟩) rfl ?_
          refine gw_aload_n C dX3_costOfTrial_64 0 rfl ?_
          refine gw_get C dX3_costOfTrial_65 0 2 0 rfl rfl iX3 (by decide) f12 rfl ?_
          refine gw_get C dX3_costOfTrial_68 1 1 0 rfl rfl iX1 (by decide) f123 rfl ?_
          refine gw_bind h (fun q8 hq8 h => ?_)
          refine gw_sub_call (st2 := [.int q8, .int q7]) (ws' := wQ cI cJ aP bT bR aS t) C [9, 10, 11] [0, 1, 2, 3, 4, 5, 6, 7, 8, 12, 13, 14, 15, 16, 17, 18, 19, 20, 21, 22] [0, 1, 2, 3, 4, 5, 6, 7, 8, 20, 21, 22, 9, 10, 11, 12, 13, 14, 15, 16, 17, 18, 19] rfl rfl rfl rfl (by decide) rfl rfl (run_V (rest := [.int q7]) C (c_X0_kept l D cI cJ cO (bT 8) (bT 9) (bT 10) (tN (qT t)) hq8) w_X0_kept 0 0 rfl rfl rfl rfl rfl (Nat.le_of_ble_eq_true rfl) dX3_costOfTrial_71 ⟨Nat.zero_le _, Nat.zero_le _⟩) rfl ?_
          refine gw_isub C dX3_costOfTrial_74 ?_
          refine gw_bipush (v := (100 : Int32)) C dX3_costOfTrial_75 rfl ?_
          refine gw_iadd C dX3_costOfTrial_77 ?_
          have h := gw_some h
          have ho := Option.some.inj h
          subst ho
          exact gw_iret C dX3_costOfTrial_78
    · refine gw_iconst (v := (-1 : Int32)) C dX3_costOfTrial_10 rfl ?_
      have h := gw_some h
      have ho := Option.some.inj h
      subst ho
      exact gw_iret C dX3_costOfTrial_11
theorem hd_X3_ifPacked : yX3_ifPacked.cls = RX3 ∧ yX3_ifPacked.cls ≠ "java/lang/invoke/MethodHandle" ∧ yX3_ifPacked.cls ≠ "java/lang/invoke/VarHandle" ∧ (parseMethodDescriptor yX3_ifPacked.desc).map (fun d => d.parameters.length) = some 0 := by decide +kernel
set_option maxHeartbeats 4000000 in
set_option maxRecDepth 100000 in
theorem c_X3_ifPacked (l : Launch) (D : va_G) (cI cJ cO : ClassId) (aP : Nat) (bT bR : Nat → Nat) (aS : Nat) (t : QS)  {o : Int32 × QS} (h : fP_ifPacked t = some o) : Ct l D (tysA cI cJ cO) yX3_ifPacked wsX3_ifPacked (rmOf 6 158) [.ref aP] (wQ cI cJ aP bT bR aS t) (some (.int o.1)) (wQ cI cJ aP bT bR aS o.2) := by
  refine Ct_of (own := RX3) cX3_ifPacked 1 (some .int) (by decide +kernel) rfl rfl (Nat.le_of_ble_eq_true rfl) ?_
  intro p e s m args below meth c A C hnm
  have iX3 : ∀ w ∈ u_ws RX3 TX3 6, w ∈ wsX3_ifPacked := fun w h => List.mem_cons_of_mem _ (List.mem_append_left _ (List.mem_append_left _ (List.mem_append_right _ h)))
  have f12 : Cond.fieldLink RX3 12 (TX3 0).1 (TX3 0).2.1 (TX3 0).2.2.1 ∈ wsX3_ifPacked := List.mem_of_getElem? (i := 2) rfl
  have f16 : Cond.fieldLink RX3 16 (TX3 1).1 (TX3 1).2.1 (TX3 1).2.2.1 ∈ wsX3_ifPacked := List.mem_of_getElem? (i := 1) rfl
  have w_X1_packFrom := cwV (R := (rmOf 6 158)) (rm := rmOf 5 135) (s := s) (args := args) 1 C.1.2.2.2.2 gX3_ifPacked_X1_packFrom rfl rfl rfl hd_X1_packFrom ⟨Nat.le_of_ble_eq_true rfl, Nat.le_of_ble_eq_true rfl⟩
  have h := gw_top h
  unfold fP_ifPacked at h
  show gw_G p l e (rmOf 6 158) s m args below meth c D A (CtM D below (some (.int o.1)) (wQ cI cJ aP bT bR aS o.2) A args s) 1 0 0 (wQ cI cJ aP bT bR aS t) [(0, .ref aP)] 0 []
  refine gw_aload_n C dX3_ifPacked_0 0 rfl ?_
  refine gw_get C dX3_ifPacked_1 0 2 1 rfl rfl iX3 (by decide) f16 rfl ?_
  refine gw_aload_n C dX3_ifPacked_4 0 rfl ?_
  refine gw_get C dX3_ifPacked_5 0 2 0 rfl rfl iX3 (by decide) f12 rfl ?_
  refine gw_bind h (fun q1 hq1 h => ?_)
  refine gw_lt h (fun t2 et2 h => ?_)
  refine gw_sub_call (st2 := [.int q1.1]) (ws' := wQ cI cJ aP bT bR aS t2) C [12, 13, 14, 15, 16, 17, 18, 19, 20, 21, 22, 1, 2, 3, 4, 5, 6, 7, 8, 9, 10, 11] [0] [0, 12, 13, 14, 15, 16, 17, 18, 19, 20, 21, 22, 1, 2, 3, 4, 5, 6, 7, 8, 9, 10, 11] rfl rfl rfl rfl (by decide) (by subst et2; rfl) rfl (run_V (rest := []) C (c_X1_packFrom l D cI cJ cO bR bT (qR t) (qT t) hq1) w_X1_packFrom 0 1 rfl rfl rfl rfl rfl (Nat.le_of_ble_eq_true rfl) dX3_ifPacked_8 ⟨Nat.zero_le _, Nat.zero_le _⟩) rfl ?_
  have h := gw_some h
  have ho := Option.some.inj h
  subst ho
  exact gw_iret C dX3_ifPacked_11
theorem hd_X3_fullness : yX3_fullness.cls = RX3 ∧ yX3_fullness.cls ≠ "java/lang/invoke/MethodHandle" ∧ yX3_fullness.cls ≠ "java/lang/invoke/VarHandle" ∧ (parseMethodDescriptor yX3_fullness.desc).map (fun d => d.parameters.length) = some 0 := by decide +kernel
set_option maxHeartbeats 4000000 in
set_option maxRecDepth 100000 in
theorem c_X3_fullness (l : Launch) (D : va_G) (cI cJ cO : ClassId) (aP : Nat) (bT bR : Nat → Nat) (aS : Nat) (t : QS)  {o : UInt64} (h : fP_fullness t = some o) : Ct l D (tysA cI cJ cO) yX3_fullness wsX3_fullness (rmOf 1 22) [.ref aP] (wQ cI cJ aP bT bR aS t) (some (.double o)) (wQ cI cJ aP bT bR aS t) := by
  refine Ct_of (own := RX3) cX3_fullness 1 (some .double) (by decide +kernel) rfl rfl (Nat.le_of_ble_eq_true rfl) ?_
  intro p e s m args below meth c A C hnm
  have iX3 : ∀ w ∈ u_ws RX3 TX3 6, w ∈ wsX3_fullness := fun w h => List.mem_cons_of_mem _ (List.mem_append_left _ (List.mem_append_right _ h))
  have f12 : Cond.fieldLink RX3 12 (TX3 0).1 (TX3 0).2.1 (TX3 0).2.2.1 ∈ wsX3_fullness := List.mem_of_getElem? (i := 1) rfl
  have w_X1_greatestUsed := cwV (R := (rmOf 1 22)) (rm := rmOf 0 0) (s := s) (args := args) 0 C.1.2.2.2.2 gX3_fullness_X1_greatestUsed rfl rfl rfl hd_X1_greatestUsed ⟨Nat.le_of_ble_eq_true rfl, Nat.le_of_ble_eq_true rfl⟩
  have w_X1_usedCells := cwV (R := (rmOf 1 22)) (rm := rmOf 0 0) (s := s) (args := args) 0 C.1.2.2.2.2 gX3_fullness_X1_usedCells rfl rfl rfl hd_X1_usedCells ⟨Nat.le_of_ble_eq_true rfl, Nat.le_of_ble_eq_true rfl⟩
  have h := gw_top h
  unfold fP_fullness at h
  show gw_G p l e (rmOf 1 22) s m args below meth c D A (CtM D below (some (.double o)) (wQ cI cJ aP bT bR aS t) A args s) 1 0 0 (wQ cI cJ aP bT bR aS t) [(0, .ref aP)] 0 []
  refine gw_aload_n C dX3_fullness_0 0 rfl ?_
  refine gw_get C dX3_fullness_1 0 2 0 rfl rfl iX3 (by decide) f12 rfl ?_
  refine gw_bind h (fun q1 hq1 h => ?_)
  refine gw_sub_call (st2 := [.int q1]) (ws' := wQ cI cJ aP bT bR aS t) C [1, 2, 3, 4, 5, 6, 7, 8, 9, 10, 11] [0, 12, 13, 14, 15, 16, 17, 18, 19, 20, 21, 22] [0, 12, 13, 14, 15, 16, 17, 18, 19, 20, 21, 22, 1, 2, 3, 4, 5, 6, 7, 8, 9, 10, 11] rfl rfl rfl rfl (by decide) rfl rfl (run_V (rest := []) C (c_X1_usedCells l D cI cJ cO bT (qT t) hq1) w_X1_usedCells 0 1 rfl rfl rfl rfl rfl (Nat.le_of_ble_eq_true rfl) dX3_fullness_4 ⟨Nat.zero_le _, Nat.zero_le _⟩) rfl ?_
  refine gw_i2d C dX3_fullness_7 ?_
  refine gw_aload_n C dX3_fullness_8 0 rfl ?_
  refine gw_get C dX3_fullness_9 0 2 0 rfl rfl iX3 (by decide) f12 rfl ?_
  refine gw_bind h (fun q2 hq2 h => ?_)
  refine gw_sub_call (st2 := [.int q2, .double (FP.i2d q1)]) (ws' := wQ cI cJ aP bT bR aS t) C [1, 2, 3, 4, 5, 6, 7, 8, 9, 10, 11] [0, 12, 13, 14, 15, 16, 17, 18, 19, 20, 21, 22] [0, 12, 13, 14, 15, 16, 17, 18, 19, 20, 21, 22, 1, 2, 3, 4, 5, 6, 7, 8, 9, 10, 11] rfl rfl rfl rfl (by decide) rfl rfl (run_V (rest := [.double (FP.i2d q1)]) C (c_X1_greatestUsed l D cI cJ cO bT (qT t) hq2) w_X1_greatestUsed 0 1 rfl rfl rfl rfl rfl (Nat.le_of_ble_eq_true rfl) dX3_fullness_12 ⟨Nat.zero_le _, Nat.zero_le _⟩) rfl ?_
  refine gw_iconst (v := (1 : Int32)) C dX3_fullness_15 rfl ?_
  refine gw_iadd C dX3_fullness_16 ?_
  refine gw_i2d C dX3_fullness_17 ?_
  refine gw_chk h (fun b3 h => ?_)
  refine gw_ddiv C dX3_fullness_18 b3 ?_
  have h := gw_some h
  have ho := Option.some.inj h
  subst ho
  exact gw_dret C dX3_fullness_19
theorem hd_X3_mixCells : yX3_mixCells.cls = RX3 ∧ yX3_mixCells.cls ≠ "java/lang/invoke/MethodHandle" ∧ yX3_mixCells.cls ≠ "java/lang/invoke/VarHandle" ∧ (parseMethodDescriptor yX3_mixCells.desc).map (fun d => d.parameters.length) = some 1 := by decide +kernel
set_option maxHeartbeats 4000000 in
set_option maxRecDepth 100000 in
theorem c_X3_mixCells (l : Launch) (D : va_G) (cI cJ cO : ClassId) (aP : Nat) (bT bR : Nat → Nat) (aS : Nat) (t : QS) (p1 : Int64) {o : Int64} (h : fP_mixCells p1 t = some o) : Ct l D (tysA cI cJ cO) yX3_mixCells wsX3_mixCells (rmOf 3 64) [.ref aP, .long p1] (wQ cI cJ aP bT bR aS t) (some (.long o)) (wQ cI cJ aP bT bR aS t) := by
  refine Ct_of (own := RX3) cX3_mixCells 7 (some .long) (by decide +kernel) rfl rfl (Nat.le_of_ble_eq_true rfl) ?_
  intro p e s m args below meth c A C hnm
  have iX3 : ∀ w ∈ u_ws RX3 TX3 6, w ∈ wsX3_mixCells := fun w h => List.mem_cons_of_mem _ (List.mem_append_left _ (List.mem_append_right _ h))
  have f12 : Cond.fieldLink RX3 12 (TX3 0).1 (TX3 0).2.1 (TX3 0).2.2.1 ∈ wsX3_mixCells := List.mem_of_getElem? (i := 1) rfl
  have w_X1_propertyOf := cwV (R := (rmOf 3 64)) (rm := rmOf 2 42) (s := s) (args := args) 2 C.1.2.2.2.2 gX3_mixCells_X1_propertyOf rfl rfl rfl hd_X1_propertyOf ⟨Nat.le_of_ble_eq_true rfl, Nat.le_of_ble_eq_true rfl⟩
  have w_X3_mix := va_cwS (R := (rmOf 3 64)) (rm := rmOf 0 0) (s := s) (args := args) 2 C.1.2.2.2.2 gX3_mixCells_X3_mix rfl rfl rfl hd_X3_mix.2 ⟨Nat.le_of_ble_eq_true rfl, Nat.le_of_ble_eq_true rfl⟩
  have h := gw_top h
  unfold fP_mixCells at h
  show gw_G p l e (rmOf 3 64) s m args below meth c D A (CtM D below (some (.long o)) (wQ cI cJ aP bT bR aS t) A args s) 7 0 0 (wQ cI cJ aP bT bR aS t) [(0, .ref aP), (1, .long p1)] 0 []
  refine gw_lload_n C dX3_mixCells_0 1 rfl ?_
  refine gw_lstore_n C dX3_mixCells_1 [(3, .long p1), (0, .ref aP), (1, .long p1)] rfl (by decide) rfl ?_
  refine gw_iconst (v := (0 : Int32)) C dX3_mixCells_2 rfl ?_
  refine gw_istore C dX3_mixCells_3 [(5, .int (0 : Int32)), (3, .long p1), (0, .ref aP), (1, .long p1)] (by decide) rfl ?_
  refine gw_sub [2, 1, 0] rfl ?_
  refine gw_lpb (x0 := (p1, (0 : Int32))) (Go := fun x1 : Int64 × Int32 => gw_G p l e (rmOf 3 64) s m args below meth c D A (CtM D below (some (.long o)) (wQ cI cJ aP bT bR aS t) A args s) 7 0 0 (wQ cI cJ aP bT bR aS t) [(0, .ref aP), (3, .long x1.1), (5, .int x1.2)] 5 []) (GoX := fun v1 : Int64 => gw_G p l e (rmOf 3 64) s m args below meth c D A (CtM D below (some (.long o)) (wQ cI cJ aP bT bR aS t) A args s) 7 0 0 (wQ cI cJ aP bT bR aS t) [(3, .long v1)] 73 []) h (fun v1 h => ?_) (fun x1 K1 X1 I1 h => ?_)
  · refine gw_lload_n C dX3_mixCells_73 0 rfl ?_
    have h := gw_some h
    have ho := Option.some.inj h
    subst ho
    exact gw_lret C dX3_mixCells_74
  · refine gw_iload C dX3_mixCells_5 2 rfl ?_
    refine gw_sipush (v := (160 : Int32)) C dX3_mixCells_7 rfl ?_
    refine gw_icmp_ge (tgt := 73) C dX3_mixCells_10 (by decide) h (fun c2 h => ?_) (fun c2 h => ?_)
    · refine gw_sub [1] rfl ?_
      have h := gw_some h
      exact X1 _ h
    · refine gw_aload_n C dX3_mixCells_13 0 rfl ?_
      refine gw_get C dX3_mixCells_14 0 2 0 rfl rfl iX3 (by decide) f12 rfl ?_
      refine gw_iload C dX3_mixCells_17 2 rfl ?_
      refine gw_iconst (v := (0 : Int32)) C dX3_mixCells_19 rfl ?_
      refine gw_sub_call (st2 := [.int (fT_propertyOf x1.2 (0 : Int32) (qT t))]) (ws' := wQ cI cJ aP bT bR aS t) C [1, 2, 3, 4, 5, 6, 7, 8, 9, 10, 11] [0, 12, 13, 14, 15, 16, 17, 18, 19, 20, 21, 22] [0, 12, 13, 14, 15, 16, 17, 18, 19, 20, 21, 22, 1, 2, 3, 4, 5, 6, 7, 8, 9, 10, 11] rfl rfl rfl rfl (by decide) rfl rfl (run_V (rest := []) C (c_X1_propertyOf l D cI cJ cO bT (qT t) x1.2 (0 : Int32) rfl) w_X1_propertyOf 0 1 rfl rfl rfl rfl rfl (Nat.le_of_ble_eq_true rfl) dX3_mixCells_20 ⟨Nat.zero_le _, Nat.zero_le _⟩) rfl ?_
      refine gw_if_eq (tgt := 67) C dX3_mixCells_23 (by decide) h (fun c3 h => ?_) (fun c3 h => ?_)
      · refine gw_iinc (v := (x1.2 + (1 : Int32))) C dX3_mixCells_67 [(5, .int (x1.2 + (1 : Int32))), (0, .ref aP), (3, .long x1.1)] 2 rfl rfl (by decide) rfl ?_
        refine gw_goto (tgt := 5) C dX3_mixCells_70 (by decide) ?_
        refine gw_sub [1, 2, 0] rfl ?_
        have h := gw_some h
        exact I1 _ h
      · refine gw_lload_n C dX3_mixCells_26 1 rfl ?_
        refine gw_iload C dX3_mixCells_27 2 rfl ?_
        refine gw_i2l C dX3_mixCells_29 ?_
        refine gw_none (st2 := [.long (fP_mix x1.1 x1.2.toInt64)]) C (run_S (rest := []) C (c_X3_mix l D cI cJ cO x1.1 x1.2.toInt64 rfl) w_X3_mix rfl rfl (Nat.le_of_ble_eq_true rfl) dX3_mixCells_30 ⟨Nat.zero_le _, Nat.zero_le _⟩) rfl ?_
        refine gw_lt h (fun v4 ev4 h => ?_)
        rw [ev4]
        refine gw_lstore_n C dX3_mixCells_33 [(3, .long v4), (0, .ref aP), (5, .int x1.2)] rfl (by decide) rfl ?_
        refine gw_iconst (v := (0 : Int32)) C dX3_mixCells_34 rfl ?_
        refine gw_istore C dX3_mixCells_35 [(6, .int (0 : Int32)), (3, .long v4), (0, .ref aP), (5, .int x1.2)] (by decide) rfl ?_
        refine gw_sub [2, 1, 3, 0] rfl ?_
        refine gw_lpb (x0 := (v4, (0 : Int32))) (Go := fun x5 : Int64 × Int32 => gw_G p l e (rmOf 3 64) s m args below meth c D A (CtM D below (some (.long o)) (wQ cI cJ aP bT bR aS t) A args s) 7 0 0 (wQ cI cJ aP bT bR aS t) [(0, .ref aP), (3, .long x5.1), (5, .int x1.2), (6, .int x5.2)] 37 []) (GoX := fun v5 : Int64 => gw_G p l e (rmOf 3 64) s m args below meth c D A (CtM D below (some (.long o)) (wQ cI cJ aP bT bR aS t) A args s) 7 0 0 (wQ cI cJ aP bT bR aS t) [(0, .ref aP), (3, .long v5), (5, .int x1.2)] 67 []) h (fun v5 h => ?_) (fun x5 K5 X5 I5 h => ?_)
        · refine gw_iinc (v := (x1.2 + (1 : Int32))) C dX3_mixCells_67 [(5, .int (x1.2 + (1 : Int32))), (0, .ref aP), (3, .long v5)] 2 rfl rfl (by decide) rfl ?_
          refine gw_goto (tgt := 5) C dX3_mixCells_70 (by decide) ?_
          refine gw_sub [1, 2, 0] rfl ?_
          have h := gw_some h
          exact I1 _ h
        · refine gw_iload C dX3_mixCells_37 3 rfl ?_
          refine gw_bipush (v := (6 : Int32)) C dX3_mixCells_39 rfl ?_
          refine gw_icmp_gt (tgt := 67) C dX3_mixCells_41 (by decide) h (fun c6 h => ?_) (fun c6 h => ?_)
          · refine gw_sub [0, 1, 2] rfl ?_
            have h := gw_some h
            exact X5 _ h
          · refine gw_lload_n C dX3_mixCells_44 1 rfl ?_
            refine gw_aload_n C dX3_mixCells_45 0 rfl ?_
            refine gw_get C dX3_mixCells_46 0 2 0 rfl rfl iX3 (by decide) f12 rfl ?_
            refine gw_iload C dX3_mixCells_49 2 rfl ?_
            refine gw_iload C dX3_mixCells_51 3 rfl ?_
            refine gw_sub_call (st2 := [.int (fT_propertyOf x1.2 x5.2 (qT t)), .long x5.1]) (ws' := wQ cI cJ aP bT bR aS t) C [1, 2, 3, 4, 5, 6, 7, 8, 9, 10, 11] [0, 12, 13, 14, 15, 16, 17, 18, 19, 20, 21, 22] [0, 12, 13, 14, 15, 16, 17, 18, 19, 20, 21, 22, 1, 2, 3, 4, 5, 6, 7, 8, 9, 10, 11] rfl rfl rfl rfl (by decide) rfl rfl (run_V (rest := [.long x5.1]) C (c_X1_propertyOf l D cI cJ cO bT (qT t) x1.2 x5.2 rfl) w_X1_propertyOf 0 1 rfl rfl rfl rfl rfl (Nat.le_of_ble_eq_true rfl) dX3_mixCells_53 ⟨Nat.zero_le _, Nat.zero_le _⟩) rfl ?_
            refine gw_i2l C dX3_mixCells_56 ?_
            refine gw_none (st2 := [.long (fP_mix x5.1 ((fT_propertyOf x1.2 x5.2 (qT t)).toInt64))]) C (run_S (rest := []) C (c_X3_mix l D cI cJ cO x5.1 ((fT_propertyOf x1.2 x5.2 (qT t)).toInt64) rfl) w_X3_mix rfl rfl (Nat.le_of_ble_eq_true rfl) dX3_mixCells_57 ⟨Nat.zero_le _, Nat.zero_le _⟩) rfl ?_
            refine gw_lt h (fun v7 ev7 h => ?_)
            rw [ev7]
            refine gw_lstore_n C dX3_mixCells_60 [(3, .long v7), (0, .ref aP), (5, .int x1.2), (6, .int x5.2)] rfl (by decide) rfl ?_
            refine gw_iinc (v := (x5.2 + (1 : Int32))) C dX3_mixCells_61 [(6, .int (x5.2 + (1 : Int32))), (3, .long v7), (0, .ref aP), (5, .int x1.2)] 3 rfl rfl (by decide) rfl ?_
            refine gw_goto (tgt := 37) C dX3_mixCells_64 (by decide) ?_
            refine gw_sub [2, 1, 3, 0] rfl ?_
            have h := gw_some h
            exact I5 _ h
theorem hd_X3_mixEnds : yX3_mixEnds.cls = RX3 ∧ yX3_mixEnds.cls ≠ "java/lang/invoke/MethodHandle" ∧ yX3_mixEnds.cls ≠ "java/lang/invoke/VarHandle" ∧ (parseMethodDescriptor yX3_mixEnds.desc).map (fun d => d.parameters.length) = some 1 := by decide +kernel
set_option maxHeartbeats 4000000 in
set_option maxRecDepth 100000 in
theorem c_X3_mixEnds (l : Launch) (D : va_G) (cI cJ cO : ClassId) (aP : Nat) (bT bR : Nat → Nat) (aS : Nat) (t : QS) (p1 : Int64) {o : Int64} (h : fP_mixEnds p1 t = some o) : Ct l D (tysA cI cJ cO) yX3_mixEnds wsX3_mixEnds (rmOf 3 66) [.ref aP, .long p1] (wQ cI cJ aP bT bR aS t) (some (.long o)) (wQ cI cJ aP bT bR aS t) := by
  refine Ct_of (own := RX3) cX3_mixEnds 11 (some .long) (by decide +kernel) rfl rfl (Nat.le_of_ble_eq_true rfl) ?_
  intro p e s m args below meth c A C hnm
  have iX1 : ∀ w ∈ u_ws RX1 TX1 9, w ∈ wsX3_mixEnds := fun w h => List.mem_cons_of_mem _ (List.mem_append_left _ (List.mem_append_right _ h))
  have iX3 : ∀ w ∈ u_ws RX3 TX3 6, w ∈ wsX3_mixEnds := fun w h => List.mem_cons_of_mem _ (List.mem_append_left _ (List.mem_append_left _ (List.mem_append_right _ h)))
  have f12 : Cond.fieldLink RX3 12 (TX3 0).1 (TX3 0).2.1 (TX3 0).2.2.1 ∈ wsX3_mixEnds := List.mem_of_getElem? (i := 1) rfl
  have f123 : Cond.fieldLink RX3 123 (TX1 0).1 (TX1 0).2.1 (TX1 0).2.2.1 ∈ wsX3_mixEnds := List.mem_of_getElem? (i := 2) rfl
  have w_X0_textAt := cwV (R := (rmOf 3 66)) (rm := rmOf 0 0) (s := s) (args := args) 1 C.1.2.2.2.2 gX3_mixEnds_X0_textAt rfl rfl rfl hd_X0_textAt ⟨Nat.le_of_ble_eq_true rfl, Nat.le_of_ble_eq_true rfl⟩
  have w_X0_usesOf := cwV (R := (rmOf 3 66)) (rm := rmOf 1 21) (s := s) (args := args) 1 C.1.2.2.2.2 gX3_mixEnds_X0_usesOf rfl rfl rfl hd_X0_usesOf ⟨Nat.le_of_ble_eq_true rfl, Nat.le_of_ble_eq_true rfl⟩
  have w_X2_lengthOf := va_cwS (R := (rmOf 3 66)) (rm := rmOf 2 43) (s := s) (args := args) 1 C.1.2.2.2.2 gX3_mixEnds_X2_lengthOf rfl rfl rfl hd_X2_lengthOf.2 ⟨Nat.le_of_ble_eq_true rfl, Nat.le_of_ble_eq_true rfl⟩
  have w_X2_letterAt := va_cwS (R := (rmOf 3 66)) (rm := rmOf 1 21) (s := s) (args := args) 2 C.1.2.2.2.2 gX3_mixEnds_X2_letterAt rfl rfl rfl hd_X2_letterAt.2 ⟨Nat.le_of_ble_eq_true rfl, Nat.le_of_ble_eq_true rfl⟩
  have w_X3_mix := va_cwS (R := (rmOf 3 66)) (rm := rmOf 0 0) (s := s) (args := args) 2 C.1.2.2.2.2 gX3_mixEnds_X3_mix rfl rfl rfl hd_X3_mix.2 ⟨Nat.le_of_ble_eq_true rfl, Nat.le_of_ble_eq_true rfl⟩
  have h := gw_top h
  unfold fP_mixEnds at h
  show gw_G p l e (rmOf 3 66) s m args below meth c D A (CtM D below (some (.long o)) (wQ cI cJ aP bT bR aS t) A args s) 11 0 0 (wQ cI cJ aP bT bR aS t) [(0, .ref aP), (1, .long p1)] 0 []
  refine gw_lload_n C dX3_mixEnds_0 1 rfl ?_
  refine gw_lstore_n C dX3_mixEnds_1 [(3, .long p1), (0, .ref aP), (1, .long p1)] rfl (by decide) rfl ?_
  refine gw_iconst (v := (0 : Int32)) C dX3_mixEnds_2 rfl ?_
  refine gw_istore C dX3_mixEnds_3 [(5, .int (0 : Int32)), (3, .long p1), (0, .ref aP), (1, .long p1)] (by decide) rfl ?_
  refine gw_sub [2, 1, 0] rfl ?_
  refine gw_lpb (x0 := (p1, (0 : Int32))) (Go := fun x1 : Int64 × Int32 => gw_G p l e (rmOf 3 66) s m args below meth c D A (CtM D below (some (.long o)) (wQ cI cJ aP bT bR aS t) A args s) 11 0 0 (wQ cI cJ aP bT bR aS t) [(0, .ref aP), (3, .long x1.1), (5, .int x1.2)] 5 []) (GoX := fun v1 : Int64 => gw_G p l e (rmOf 3 66) s m args below meth c D A (CtM D below (some (.long o)) (wQ cI cJ aP bT bR aS t) A args s) 11 0 0 (wQ cI cJ aP bT bR aS t) [(3, .long v1)] 107 []) h (fun v1 h => ?_) (fun x1 K1 X1 I1 h => ?_)
  · refine gw_lload_n C dX3_mixEnds_107 0 rfl ?_
    have h := gw_some h
    have ho := Option.some.inj h
    subst ho
    exact gw_lret C dX3_mixEnds_108
  · refine gw_iload C dX3_mixEnds_5 2 rfl ?_
    refine gw_bipush (v := (40 : Int32)) C dX3_mixEnds_7 rfl ?_
    refine gw_icmp_ge (tgt := 107) C dX3_mixEnds_9 (by decide) h (fun c2 h => ?_) (fun c2 h => ?_)
    · refine gw_sub [1] rfl ?_
      have h := gw_some h
      exact X1 _ h
    · refine gw_aload_n C dX3_mixEnds_12 0 rfl ?_
      refine gw_get C dX3_mixEnds_13 0 2 0 rfl rfl iX3 (by decide) f12 rfl ?_
      refine gw_get C dX3_mixEnds_16 1 1 0 rfl rfl iX1 (by decide) f123 rfl ?_
      refine gw_iload C dX3_mixEnds_19 2 rfl ?_
      refine gw_sub_call (st2 := [.int (fE_usesOf x1.2 (tN (qT t)))]) (ws' := wQ cI cJ aP bT bR aS t) C [9, 10, 11] [0, 1, 2, 3, 4, 5, 6, 7, 8, 12, 13, 14, 15, 16, 17, 18, 19, 20, 21, 22] [0, 1, 2, 3, 4, 5, 6, 7, 8, 20, 21, 22, 9, 10, 11, 12, 13, 14, 15, 16, 17, 18, 19] rfl rfl rfl rfl (by decide) rfl rfl (run_V (rest := []) C (c_X0_usesOf l D cI cJ cO (bT 8) (bT 9) (bT 10) (tN (qT t)) x1.2 rfl) w_X0_usesOf 0 0 rfl rfl rfl rfl rfl (Nat.le_of_ble_eq_true rfl) dX3_mixEnds_21 ⟨Nat.zero_le _, Nat.zero_le _⟩) rfl ?_
      refine gw_lt h (fun v3 ev3 h => ?_)
      rw [ev3]
      refine gw_istore C dX3_mixEnds_24 [(6, .int v3), (0, .ref aP), (3, .long x1.1), (5, .int x1.2)] (by decide) rfl ?_
      refine gw_iload C dX3_mixEnds_26 0 rfl ?_
      refine gw_if_le (tgt := 101) C dX3_mixEnds_28 (by decide) h (fun c4 h => ?_) (fun c4 h => ?_)
      · refine gw_iinc (v := (x1.2 + (1 : Int32))) C dX3_mixEnds_101 [(5, .int (x1.2 + (1 : Int32))), (6, .int v3), (0, .ref aP), (3, .long x1.1)] 3 rfl rfl (by decide) rfl ?_
        refine gw_goto (tgt := 5) C dX3_mixEnds_104 (by decide) ?_
        refine gw_sub [2, 3, 0] rfl ?_
        have h := gw_some h
        exact I1 _ h
      · refine gw_aload_n C dX3_mixEnds_31 1 rfl ?_
        refine gw_get C dX3_mixEnds_32 0 2 0 rfl rfl iX3 (by decide) f12 rfl ?_
        refine gw_get C dX3_mixEnds_35 1 1 0 rfl rfl iX1 (by decide) f123 rfl ?_
        refine gw_iload C dX3_mixEnds_38 3 rfl ?_
        refine gw_bind h (fun q5 hq5 h => ?_)
        refine gw_sub_call (st2 := [.long q5]) (ws' := wQ cI cJ aP bT bR aS t) C [9, 10, 11] [0, 1, 2, 3, 4, 5, 6, 7, 8, 12, 13, 14, 15, 16, 17, 18, 19, 20, 21, 22] [0, 1, 2, 3, 4, 5, 6, 7, 8, 20, 21, 22, 9, 10, 11, 12, 13, 14, 15, 16, 17, 18, 19] rfl rfl rfl rfl (by decide) rfl rfl (run_V (rest := []) C (c_X0_textAt l D cI cJ cO (bT 8) (bT 9) (bT 10) (tN (qT t)) x1.2 hq5) w_X0_textAt 0 0 rfl rfl rfl rfl rfl (Nat.le_of_ble_eq_true rfl) dX3_mixEnds_40 ⟨Nat.zero_le _, Nat.zero_le _⟩) rfl ?_
        refine gw_lstore C dX3_mixEnds_43 [(7, .long q5), (6, .int v3), (0, .ref aP), (3, .long x1.1), (5, .int x1.2)] (by decide) rfl ?_
        refine gw_lload C dX3_mixEnds_45 0 rfl ?_
        refine gw_bind h (fun q6 hq6 h => ?_)
        refine gw_none (st2 := [.int q6]) C (run_S (rest := []) C (c_X2_lengthOf l D cI cJ cO q5 hq6) w_X2_lengthOf rfl rfl (Nat.le_of_ble_eq_true rfl) dX3_mixEnds_47 ⟨Nat.zero_le _, Nat.zero_le _⟩) rfl ?_
        refine gw_istore C dX3_mixEnds_50 [(9, .int q6), (7, .long q5), (6, .int v3), (0, .ref aP), (3, .long x1.1), (5, .int x1.2)] (by decide) rfl ?_
        refine gw_lload_n C dX3_mixEnds_52 4 rfl ?_
        refine gw_iload C dX3_mixEnds_53 5 rfl ?_
        refine gw_i2l C dX3_mixEnds_55 ?_
        refine gw_none (st2 := [.long (fP_mix x1.1 x1.2.toInt64)]) C (run_S (rest := []) C (c_X3_mix l D cI cJ cO x1.1 x1.2.toInt64 rfl) w_X3_mix rfl rfl (Nat.le_of_ble_eq_true rfl) dX3_mixEnds_56 ⟨Nat.zero_le _, Nat.zero_le _⟩) rfl ?_
        refine gw_iload C dX3_mixEnds_59 2 rfl ?_
        refine gw_i2l C dX3_mixEnds_61 ?_
        refine gw_none (st2 := [.long (fP_mix (fP_mix x1.1 x1.2.toInt64) v3.toInt64)]) C (run_S (rest := []) C (c_X3_mix l D cI cJ cO (fP_mix x1.1 x1.2.toInt64) v3.toInt64 rfl) w_X3_mix rfl rfl (Nat.le_of_ble_eq_true rfl) dX3_mixEnds_62 ⟨Nat.zero_le _, Nat.zero_le _⟩) rfl ?_
        refine gw_iload C dX3_mixEnds_65 0 rfl ?_
        refine gw_i2l C dX3_mixEnds_67 ?_
        refine gw_lt h (fun q7 hq7 h => ?_)
        refine gw_none (st2 := [.long q7]) C (run_S (rest := []) C (c_X3_mix l D cI cJ cO (fP_mix (fP_mix x1.1 x1.2.toInt64) v3.toInt64) q6.toInt64 hq7) w_X3_mix rfl rfl (Nat.le_of_ble_eq_true rfl) dX3_mixEnds_68 ⟨Nat.zero_le _, Nat.zero_le _⟩) rfl ?_
        refine gw_lstore_n C dX3_mixEnds_71 [(3, .long q7), (9, .int q6), (7, .long q5), (6, .int v3), (0, .ref aP), (5, .int x1.2)] rfl (by decide) rfl ?_
        refine gw_iconst (v := (0 : Int32)) C dX3_mixEnds_72 rfl ?_
        refine gw_istore C dX3_mixEnds_73 [(10, .int (0 : Int32)), (3, .long q7), (9, .int q6), (7, .long q5), (6, .int v3), (0, .ref aP), (5, .int x1.2)] (by decide) rfl ?_
        refine gw_sub [5, 1, 6, 3, 2, 0] rfl ?_
        refine gw_lpb (x0 := (q7, (0 : Int32))) (Go := fun x8 : Int64 × Int32 => gw_G p l e (rmOf 3 66) s m args below meth c D A (CtM D below (some (.long o)) (wQ cI cJ aP bT bR aS t) A args s) 11 0 0 (wQ cI cJ aP bT bR aS t) [(0, .ref aP), (3, .long x8.1), (5, .int x1.2), (7, .long q5), (9, .int q6), (10, .int x8.2)] 75 []) (GoX := fun v8 : Int64 => gw_G p l e (rmOf 3 66) s m args below meth c D A (CtM D below (some (.long o)) (wQ cI cJ aP bT bR aS t) A args s) 11 0 0 (wQ cI cJ aP bT bR aS t) [(0, .ref aP), (3, .long v8), (5, .int x1.2)] 101 []) h (fun v8 h => ?_) (fun x8 K8 X8 I8 h => ?_)
        · refine gw_iinc (v := (x1.2 + (1 : Int32))) C dX3_mixEnds_101 [(5, .int (x1.2 + (1 : Int32))), (0, .ref aP), (3, .long v8)] 2 rfl rfl (by decide) rfl ?_
          refine gw_goto (tgt := 5) C dX3_mixEnds_104 (by decide) ?_
          refine gw_sub [1, 2, 0] rfl ?_
          have h := gw_some h
          exact I1 _ h
        · refine gw_iload C dX3_mixEnds_75 5 rfl ?_
          refine gw_iload C dX3_mixEnds_77 4 rfl ?_
          refine gw_icmp_ge (tgt := 101) C dX3_mixEnds_79 (by decide) h (fun c9 h => ?_) (fun c9 h => ?_)
          · refine gw_sub [0, 1, 2] rfl ?_
            have h := gw_some h
            exact X8 _ h
          · refine gw_lload_n C dX3_mixEnds_82 1 rfl ?_
            refine gw_lload C dX3_mixEnds_83 3 rfl ?_
            refine gw_iload C dX3_mixEnds_85 5 rfl ?_
            refine gw_none (st2 := [.int (fX_letterAt q5 x8.2), .long x8.1]) C (run_S (rest := [.long x8.1]) C (c_X2_letterAt l D cI cJ cO q5 x8.2 rfl) w_X2_letterAt rfl rfl (Nat.le_of_ble_eq_true rfl) dX3_mixEnds_87 ⟨Nat.zero_le _, Nat.zero_le _⟩) rfl ?_
            refine gw_i2l C dX3_mixEnds_90 ?_
            refine gw_none (st2 := [.long (fP_mix x8.1 ((fX_letterAt q5 x8.2).toInt64))]) C (run_S (rest := []) C (c_X3_mix l D cI cJ cO x8.1 ((fX_letterAt q5 x8.2).toInt64) rfl) w_X3_mix rfl rfl (Nat.le_of_ble_eq_true rfl) dX3_mixEnds_91 ⟨Nat.zero_le _, Nat.zero_le _⟩) rfl ?_
            refine gw_lt h (fun v10 ev10 h => ?_)
            rw [ev10]
            refine gw_lstore_n C dX3_mixEnds_94 [(3, .long v10), (0, .ref aP), (5, .int x1.2), (7, .long q5), (9, .int q6), (10, .int x8.2)] rfl (by decide) rfl ?_
            refine gw_iinc (v := (x8.2 + (1 : Int32))) C dX3_mixEnds_95 [(10, .int (x8.2 + (1 : Int32))), (3, .long v10), (0, .ref aP), (5, .int x1.2), (7, .long q5), (9, .int q6)] 5 rfl rfl (by decide) rfl ?_
            refine gw_goto (tgt := 75) C dX3_mixEnds_98 (by decide) ?_
            refine gw_sub [2, 1, 3, 4, 5, 0] rfl ?_
            have h := gw_some h
            exact I8 _ h
theorem hd_X3_append : yX3_append.cls = RX3 ∧ yX3_append.cls ≠ "java/lang/invoke/MethodHandle" ∧ yX3_append.cls ≠ "java/lang/invoke/VarHandle" ∧ (parseMethodDescriptor yX3_append.desc).map (fun d => d.parameters.length) = some 1 := by decide +kernel
set_option maxHeartbeats 4000000 in
set_option maxRecDepth 100000 in
theorem c_X3_append (l : Launch) (D : va_G) (cI cJ cO : ClassId) (aP : Nat) (bT bR : Nat → Nat) (aS : Nat) (t : QS) (p1 : Int32) {o : Int32 × QS} (h : fP_append p1 t = some (.inr o)) : Ct l D (tysA cI cJ cO) yX3_append wsX3_append (rmOf 1 23) [.ref aP, .int p1] (wQ cI cJ aP bT bR aS t) (some (.int o.1)) (wQ cI cJ aP bT bR aS o.2) := by
  refine Ct_of (own := RX3) cX3_append 2 (some .int) (by decide +kernel) rfl rfl (Nat.le_of_ble_eq_true rfl) ?_
  intro p e s m args below meth c A C hnm
  have iX3 : ∀ w ∈ u_ws RX3 TX3 6, w ∈ wsX3_append := fun w h => List.mem_cons_of_mem _ (List.mem_append_left _ (List.mem_append_left _ (List.mem_append_right _ h)))
  have f27 : Cond.fieldLink RX3 27 (TX3 4).1 (TX3 4).2.1 (TX3 4).2.2.1 ∈ wsX3_append := List.mem_of_getElem? (i := 6) rfl
  have f31 : Cond.fieldLink RX3 31 (TX3 5).1 (TX3 5).2.1 (TX3 5).2.2.1 ∈ wsX3_append := List.mem_of_getElem? (i := 5) rfl
  have w_X2_withLetter := va_cwS (R := (rmOf 1 23)) (rm := rmOf 0 0) (s := s) (args := args) 3 C.1.2.2.2.2 gX3_append_X2_withLetter rfl rfl rfl hd_X2_withLetter.2 ⟨Nat.le_of_ble_eq_true rfl, Nat.le_of_ble_eq_true rfl⟩
  have h := gw_top h
  unfold fP_append at h
  show gw_G p l e (rmOf 1 23) s m args below meth c D A (CtM D below (some (.int o.1)) (wQ cI cJ aP bT bR aS o.2) A args s) 2 0 0 (wQ cI cJ aP bT bR aS t) [(0, .ref aP), (1, .int p1)] 0 []
  refine gw_iload_n C dX3_append_0 1 rfl ?_
  refine gw_iconst (v := (1 : Int32)) C dX3_append_1 rfl ?_
  refine gw_lt h (fun j1 ej1 h => ?_)
  have J1 : ∀ v1 : Unit, Rs some (.inr o) (j1 v1) → gw_G p l e (rmOf 1 23) s m args below meth c D A (CtM D below (some (.int o.1)) (wQ cI cJ aP bT bR aS o.2) A args s) 2 0 0 (wQ cI cJ aP bT bR aS t) [] 11 [] := by
    intro v1 h
    have h := gw_app ej1 h
    have h := gw_some h
    cases h
  refine gw_icmp_lt (tgt := 11) C dX3_append_2 (by decide) h (fun c2 h => ?_) (fun c2 h => ?_)
  · refine gw_sub [] rfl ?_
    exact J1 _ h
  · refine gw_iload_n C dX3_append_5 1 rfl ?_
    refine gw_bipush (v := (8 : Int32)) C dX3_append_6 rfl ?_
    refine gw_icmp_le (tgt := 21) C dX3_append_8 (by decide) h (fun c3 h => ?_) (fun c3 h => ?_)
    · refine gw_aload_n C dX3_append_21 0 rfl ?_
      refine gw_get C dX3_append_22 0 2 5 rfl rfl iX3 (by decide) f31 rfl ?_
      refine gw_bipush (v := (12 : Int32)) C dX3_append_25 rfl ?_
      refine gw_icmp_lt (tgt := 40) C dX3_append_27 (by decide) h (fun c4 h => ?_) (fun c4 h => ?_)
      · refine gw_aload_n C dX3_append_40 0 rfl ?_
        refine gw_aload_n C dX3_append_41 0 rfl ?_
        refine gw_get C dX3_append_42 0 2 4 rfl rfl iX3 (by decide) f27 rfl ?_
        refine gw_aload_n C dX3_append_45 0 rfl ?_
        refine gw_get C dX3_append_46 0 2 5 rfl rfl iX3 (by decide) f31 rfl ?_
        refine gw_iload_n C dX3_append_49 1 rfl ?_
        refine gw_none (st2 := [.long (fX_withLetter (qB t) (qL t) p1), .ref aP]) C (run_S (rest := [.ref aP]) C (c_X2_withLetter l D cI cJ cO (qB t) (qL t) p1 rfl) w_X2_withLetter rfl rfl (Nat.le_of_ble_eq_true rfl) dX3_append_50 ⟨Nat.zero_le _, Nat.zero_le _⟩) rfl ?_
        refine gw_lt h (fun t5 et5 h => ?_)
        refine gw_put (ws' := wQ cI cJ aP bT bR aS t5) (ty := .long) C dX3_append_53 0 2 4 tyX3 tyX3_ok nmX3 rfl rfl iX3 (by decide) f27 rfl (tyX3_ok 4 (by decide)) rfl rfl (Nat.le_of_ble_eq_true rfl) (by subst et5; rfl) ?_
        refine gw_aload_n C dX3_append_56 0 rfl ?_
        refine gw_dup C dX3_append_57 rfl ?_
        refine gw_get C dX3_append_58 0 2 5 rfl rfl iX3 (by decide) f31 rfl ?_
        refine gw_iconst (v := (1 : Int32)) C dX3_append_61 rfl ?_
        refine gw_iadd C dX3_append_62 ?_
        refine gw_lt h (fun t6 et6 h => ?_)
        refine gw_put (ws' := wQ cI cJ aP bT bR aS t6) (ty := .int) C dX3_append_63 0 2 5 tyX3 tyX3_ok nmX3 rfl rfl iX3 (by decide) f31 rfl (tyX3_ok 5 (by decide)) rfl rfl (Nat.le_of_ble_eq_true rfl) (by subst et6; rfl) ?_
        refine gw_aload_n C dX3_append_66 0 rfl ?_
        refine gw_get C dX3_append_67 0 2 5 rfl rfl iX3 (by decide) f31 rfl ?_
        have h := gw_some h
        have ho := Sum.inr.inj (Option.some.inj h)
        subst ho
        exact gw_iret C dX3_append_70
      · have h := gw_some h
        cases h
    · refine gw_sub [] rfl ?_
      exact J1 _ h
theorem hd_X3_drop : yX3_drop.cls = RX3 ∧ yX3_drop.cls ≠ "java/lang/invoke/MethodHandle" ∧ yX3_drop.cls ≠ "java/lang/invoke/VarHandle" ∧ (parseMethodDescriptor yX3_drop.desc).map (fun d => d.parameters.length) = some 0 := by decide +kernel
set_option maxHeartbeats 4000000 in
set_option maxRecDepth 100000 in
theorem c_X3_drop (l : Launch) (D : va_G) (cI cJ cO : ClassId) (aP : Nat) (bT bR : Nat → Nat) (aS : Nat) (t : QS)  {o : Int32 × QS} (h : fP_drop t = some (.inr o)) : Ct l D (tysA cI cJ cO) yX3_drop wsX3_drop (rmOf 2 43) [.ref aP] (wQ cI cJ aP bT bR aS t) (some (.int o.1)) (wQ cI cJ aP bT bR aS o.2) := by
  refine Ct_of (own := RX3) cX3_drop 2 (some .int) (by decide +kernel) rfl rfl (Nat.le_of_ble_eq_true rfl) ?_
  intro p e s m args below meth c A C hnm
  have iX3 : ∀ w ∈ u_ws RX3 TX3 6, w ∈ wsX3_drop := fun w h => List.mem_cons_of_mem _ (List.mem_append_left _ (List.mem_append_right _ h))
  have f27 : Cond.fieldLink RX3 27 (TX3 4).1 (TX3 4).2.1 (TX3 4).2.2.1 ∈ wsX3_drop := List.mem_of_getElem? (i := 4) rfl
  have f31 : Cond.fieldLink RX3 31 (TX3 5).1 (TX3 5).2.1 (TX3 5).2.2.1 ∈ wsX3_drop := List.mem_of_getElem? (i := 3) rfl
  have w_X2_letterAt := va_cwS (R := (rmOf 2 43)) (rm := rmOf 1 21) (s := s) (args := args) 2 C.1.2.2.2.2 gX3_drop_X2_letterAt rfl rfl rfl hd_X2_letterAt.2 ⟨Nat.le_of_ble_eq_true rfl, Nat.le_of_ble_eq_true rfl⟩
  have w_X2_startOf := va_cwS (R := (rmOf 2 43)) (rm := rmOf 0 0) (s := s) (args := args) 2 C.1.2.2.2.2 gX3_drop_X2_startOf rfl rfl rfl hd_X2_startOf.2 ⟨Nat.le_of_ble_eq_true rfl, Nat.le_of_ble_eq_true rfl⟩
  have h := gw_top h
  unfold fP_drop at h
  show gw_G p l e (rmOf 2 43) s m args below meth c D A (CtM D below (some (.int o.1)) (wQ cI cJ aP bT bR aS o.2) A args s) 2 0 0 (wQ cI cJ aP bT bR aS t) [(0, .ref aP)] 0 []
  refine gw_aload_n C dX3_drop_0 0 rfl ?_
  refine gw_get C dX3_drop_1 0 2 5 rfl rfl iX3 (by decide) f31 rfl ?_
  refine gw_if_gt (tgt := 17) C dX3_drop_4 (by decide) h (fun c1 h => ?_) (fun c1 h => ?_)
  · refine gw_aload_n C dX3_drop_17 0 rfl ?_
    refine gw_dup C dX3_drop_18 rfl ?_
    refine gw_get C dX3_drop_19 0 2 5 rfl rfl iX3 (by decide) f31 rfl ?_
    refine gw_iconst (v := (1 : Int32)) C dX3_drop_22 rfl ?_
    refine gw_isub C dX3_drop_23 ?_
    refine gw_lt h (fun t2 et2 h => ?_)
    refine gw_put (ws' := wQ cI cJ aP bT bR aS t2) (ty := .int) C dX3_drop_24 0 2 5 tyX3 tyX3_ok nmX3 rfl rfl iX3 (by decide) f31 rfl (tyX3_ok 5 (by decide)) rfl rfl (Nat.le_of_ble_eq_true rfl) (by subst et2; rfl) ?_
    refine gw_aload_n C dX3_drop_27 0 rfl ?_
    refine gw_get C dX3_drop_28 0 2 4 rfl rfl iX3 (by decide) f27 rfl ?_
    refine gw_aload_n C dX3_drop_31 0 rfl ?_
    refine gw_get C dX3_drop_32 0 2 5 rfl rfl iX3 (by decide) f31 rfl ?_
    refine gw_none (st2 := [.int (fX_letterAt (qB t2) (qL t2))]) C (run_S (rest := []) C (c_X2_letterAt l D cI cJ cO (qB t2) (qL t2) rfl) w_X2_letterAt rfl rfl (Nat.le_of_ble_eq_true rfl) dX3_drop_35 ⟨Nat.zero_le _, Nat.zero_le _⟩) rfl ?_
    refine gw_lt h (fun v3 ev3 h => ?_)
    rw [ev3]
    refine gw_istore_n C dX3_drop_38 [(1, .int v3), (0, .ref aP)] rfl (by decide) rfl ?_
    refine gw_aload_n C dX3_drop_39 1 rfl ?_
    refine gw_aload_n C dX3_drop_40 1 rfl ?_
    refine gw_get C dX3_drop_41 0 2 4 rfl rfl iX3 (by decide) f27 rfl ?_
    refine gw_aload_n C dX3_drop_44 1 rfl ?_
    refine gw_get C dX3_drop_45 0 2 5 rfl rfl iX3 (by decide) f31 rfl ?_
    refine gw_none (st2 := [.long (fX_startOf (qB t2) (qL t2)), .ref aP]) C (run_S (rest := [.ref aP]) C (c_X2_startOf l D cI cJ cO (qB t2) (qL t2) rfl) w_X2_startOf rfl rfl (Nat.le_of_ble_eq_true rfl) dX3_drop_48 ⟨Nat.zero_le _, Nat.zero_le _⟩) rfl ?_
    refine gw_lt h (fun t4 et4 h => ?_)
    refine gw_put (ws' := wQ cI cJ aP bT bR aS t4) (ty := .long) C dX3_drop_51 0 2 4 tyX3 tyX3_ok nmX3 rfl rfl iX3 (by decide) f27 rfl (tyX3_ok 4 (by decide)) rfl rfl (Nat.le_of_ble_eq_true rfl) (by subst et4; rfl) ?_
    refine gw_iload_n C dX3_drop_54 0 rfl ?_
    have h := gw_some h
    have ho := Sum.inr.inj (Option.some.inj h)
    subst ho
    exact gw_iret C dX3_drop_55
  · have h := gw_some h
    cases h
theorem hd_X3_cell : yX3_cell.cls = RX3 ∧ yX3_cell.cls ≠ "java/lang/invoke/MethodHandle" ∧ yX3_cell.cls ≠ "java/lang/invoke/VarHandle" ∧ (parseMethodDescriptor yX3_cell.desc).map (fun d => d.parameters.length) = some 2 := by decide +kernel
set_option maxHeartbeats 4000000 in
set_option maxRecDepth 100000 in
theorem c_X3_cell (l : Launch) (D : va_G) (cI cJ cO : ClassId) (aP : Nat) (bT bR : Nat → Nat) (aS : Nat) (t : QS) (p1 : Int32) (p2 : Int32) {o : Int32} (h : fP_cell p1 p2 t = some (.inr o)) : Ct l D (tysA cI cJ cO) yX3_cell wsX3_cell (rmOf 3 64) [.ref aP, .int p1, .int p2] (wQ cI cJ aP bT bR aS t) (some (.int o)) (wQ cI cJ aP bT bR aS t) := by
  refine Ct_of (own := RX3) cX3_cell 3 (some .int) (by decide +kernel) rfl rfl (Nat.le_of_ble_eq_true rfl) ?_
  intro p e s m args below meth c A C hnm
  have iX3 : ∀ w ∈ u_ws RX3 TX3 6, w ∈ wsX3_cell := fun w h => List.mem_cons_of_mem _ (List.mem_append_left _ (List.mem_append_left _ (List.mem_append_left _ (List.mem_append_right _ h))))
  have f12 : Cond.fieldLink RX3 12 (TX3 0).1 (TX3 0).2.1 (TX3 0).2.2.1 ∈ wsX3_cell := List.mem_of_getElem? (i := 5) rfl
  have w_X1_propertyOf := cwV (R := (rmOf 3 64)) (rm := rmOf 2 42) (s := s) (args := args) 2 C.1.2.2.2.2 gX3_cell_X1_propertyOf rfl rfl rfl hd_X1_propertyOf ⟨Nat.le_of_ble_eq_true rfl, Nat.le_of_ble_eq_true rfl⟩
  have h := gw_top h
  unfold fP_cell at h
  show gw_G p l e (rmOf 3 64) s m args below meth c D A (CtM D below (some (.int o)) (wQ cI cJ aP bT bR aS t) A args s) 3 0 0 (wQ cI cJ aP bT bR aS t) [(0, .ref aP), (1, .int p1), (2, .int p2)] 0 []
  refine gw_iload_n C dX3_cell_0 1 rfl ?_
  refine gw_lt h (fun j1 ej1 h => ?_)
  have J1 : ∀ v1 : Unit, Rs some (.inr o) (j1 v1) → gw_G p l e (rmOf 3 64) s m args below meth c D A (CtM D below (some (.int o)) (wQ cI cJ aP bT bR aS t) A args s) 3 0 0 (wQ cI cJ aP bT bR aS t) [] 11 [] := by
    intro v1 h
    have h := gw_app ej1 h
    have h := gw_some h
    cases h
  refine gw_if_lt (tgt := 11) C dX3_cell_1 (by decide) h (fun c2 h => ?_) (fun c2 h => ?_)
  · refine gw_sub [] rfl ?_
    exact J1 _ h
  · refine gw_iload_n C dX3_cell_4 1 rfl ?_
    refine gw_sipush (v := (160 : Int32)) C dX3_cell_5 rfl ?_
    refine gw_icmp_lt (tgt := 21) C dX3_cell_8 (by decide) h (fun c3 h => ?_) (fun c3 h => ?_)
    · refine gw_iload_n C dX3_cell_21 2 rfl ?_
      refine gw_lt h (fun j4 ej4 h => ?_)
      have J4 : ∀ v4 : Unit, Rs some (.inr o) (j4 v4) → gw_G p l e (rmOf 3 64) s m args below meth c D A (CtM D below (some (.int o)) (wQ cI cJ aP bT bR aS t) A args s) 3 0 0 (wQ cI cJ aP bT bR aS t) [] 31 [] := by
        intro v4 h
        have h := gw_app ej4 h
        have h := gw_some h
        cases h
      refine gw_if_lt (tgt := 31) C dX3_cell_22 (by decide) h (fun c5 h => ?_) (fun c5 h => ?_)
      · refine gw_sub [] rfl ?_
        exact J4 _ h
      · refine gw_iload_n C dX3_cell_25 2 rfl ?_
        refine gw_bipush (v := (6 : Int32)) C dX3_cell_26 rfl ?_
        refine gw_icmp_le (tgt := 41) C dX3_cell_28 (by decide) h (fun c6 h => ?_) (fun c6 h => ?_)
        · refine gw_aload_n C dX3_cell_41 0 rfl ?_
          refine gw_get C dX3_cell_42 0 2 0 rfl rfl iX3 (by decide) f12 rfl ?_
          refine gw_iload_n C dX3_cell_45 1 rfl ?_
          refine gw_iload_n C dX3_cell_46 2 rfl ?_
          refine gw_sub_call (st2 := [.int (fT_propertyOf p1 p2 (qT t))]) (ws' := wQ cI cJ aP bT bR aS t) C [1, 2, 3, 4, 5, 6, 7, 8, 9, 10, 11] [0, 12, 13, 14, 15, 16, 17, 18, 19, 20, 21, 22] [0, 12, 13, 14, 15, 16, 17, 18, 19, 20, 21, 22, 1, 2, 3, 4, 5, 6, 7, 8, 9, 10, 11] rfl rfl rfl rfl (by decide) rfl rfl (run_V (rest := []) C (c_X1_propertyOf l D cI cJ cO bT (qT t) p1 p2 rfl) w_X1_propertyOf 0 1 rfl rfl rfl rfl rfl (Nat.le_of_ble_eq_true rfl) dX3_cell_47 ⟨Nat.zero_le _, Nat.zero_le _⟩) rfl ?_
          have h := gw_some h
          have ho := Sum.inr.inj (Option.some.inj h)
          subst ho
          exact gw_iret C dX3_cell_50
        · refine gw_sub [] rfl ?_
          exact J4 _ h
    · refine gw_sub [] rfl ?_
      exact J1 _ h
theorem hd_X3_end : yX3_end.cls = RX3 ∧ yX3_end.cls ≠ "java/lang/invoke/MethodHandle" ∧ yX3_end.cls ≠ "java/lang/invoke/VarHandle" ∧ (parseMethodDescriptor yX3_end.desc).map (fun d => d.parameters.length) = some 2 := by decide +kernel
set_option maxHeartbeats 4000000 in
set_option maxRecDepth 100000 in
theorem c_X3_end (l : Launch) (D : va_G) (cI cJ cO : ClassId) (aP : Nat) (bT bR : Nat → Nat) (aS : Nat) (t : QS) (p1 : Int32) (p2 : Int32) {o : Int32} (h : fP_end p1 p2 t = some (.inr o)) : Ct l D (tysA cI cJ cO) yX3_end wsX3_end (rmOf 3 66) [.ref aP, .int p1, .int p2] (wQ cI cJ aP bT bR aS t) (some (.int o)) (wQ cI cJ aP bT bR aS t) := by
  refine Ct_of (own := RX3) cX3_end 4 (some .int) (by decide +kernel) rfl rfl (Nat.le_of_ble_eq_true rfl) ?_
  intro p e s m args below meth c A C hnm
  have iX1 : ∀ w ∈ u_ws RX1 TX1 9, w ∈ wsX3_end := fun w h => List.mem_cons_of_mem _ (List.mem_append_left _ (List.mem_append_left _ (List.mem_append_left _ (List.mem_append_right _ h))))
  have iX3 : ∀ w ∈ u_ws RX3 TX3 6, w ∈ wsX3_end := fun w h => List.mem_cons_of_mem _ (List.mem_append_left _ (List.mem_append_left _ (List.mem_append_left _ (List.mem_append_left _ (List.mem_append_right _ h)))))
  have f12 : Cond.fieldLink RX3 12 (TX3 0).1 (TX3 0).2.1 (TX3 0).2.2.1 ∈ wsX3_end := List.mem_of_getElem? (i := 5) rfl
  have f123 : Cond.fieldLink RX3 123 (TX1 0).1 (TX1 0).2.1 (TX1 0).2.2.1 ∈ wsX3_end := List.mem_of_getElem? (i := 6) rfl
  have w_X0_textAt := cwV (R := (rmOf 3 66)) (rm := rmOf 0 0) (s := s) (args := args) 1 C.1.2.2.2.2 gX3_end_X0_textAt rfl rfl rfl hd_X0_textAt ⟨Nat.le_of_ble_eq_true rfl, Nat.le_of_ble_eq_true rfl⟩
  have w_X0_usesOf := cwV (R := (rmOf 3 66)) (rm := rmOf 1 21) (s := s) (args := args) 1 C.1.2.2.2.2 gX3_end_X0_usesOf rfl rfl rfl hd_X0_usesOf ⟨Nat.le_of_ble_eq_true rfl, Nat.le_of_ble_eq_true rfl⟩
  have w_X2_lengthOf := va_cwS (R := (rmOf 3 66)) (rm := rmOf 2 43) (s := s) (args := args) 1 C.1.2.2.2.2 gX3_end_X2_lengthOf rfl rfl rfl hd_X2_lengthOf.2 ⟨Nat.le_of_ble_eq_true rfl, Nat.le_of_ble_eq_true rfl⟩
  have h := gw_top h
  unfold fP_end at h
  show gw_G p l e (rmOf 3 66) s m args below meth c D A (CtM D below (some (.int o)) (wQ cI cJ aP bT bR aS t) A args s) 4 0 0 (wQ cI cJ aP bT bR aS t) [(0, .ref aP), (1, .int p1), (2, .int p2)] 0 []
  refine gw_iload_n C dX3_end_0 1 rfl ?_
  refine gw_lt h (fun j1 ej1 h => ?_)
  have J1 : ∀ v1 : Unit, Rs some (.inr o) (j1 v1) → gw_G p l e (rmOf 3 66) s m args below meth c D A (CtM D below (some (.int o)) (wQ cI cJ aP bT bR aS t) A args s) 4 0 0 (wQ cI cJ aP bT bR aS t) [] 10 [] := by
    intro v1 h
    have h := gw_app ej1 h
    have h := gw_some h
    cases h
  refine gw_if_lt (tgt := 10) C dX3_end_1 (by decide) h (fun c2 h => ?_) (fun c2 h => ?_)
  · refine gw_sub [] rfl ?_
    exact J1 _ h
  · refine gw_iload_n C dX3_end_4 1 rfl ?_
    refine gw_bipush (v := (40 : Int32)) C dX3_end_5 rfl ?_
    refine gw_icmp_lt (tgt := 20) C dX3_end_7 (by decide) h (fun c3 h => ?_) (fun c3 h => ?_)
    · refine gw_iload_n C dX3_end_20 2 rfl ?_
      refine gw_lt h (fun j4 ej4 h => ?_)
      have J4 : ∀ v4 : Unit, Rs some (.inr o) (j4 v4) → gw_G p l e (rmOf 3 66) s m args below meth c D A (CtM D below (some (.int o)) (wQ cI cJ aP bT bR aS t) A args s) 4 0 0 (wQ cI cJ aP bT bR aS t) [] 29 [] := by
        intro v4 h
        have h := gw_app ej4 h
        have h := gw_some h
        cases h
      refine gw_if_lt (tgt := 29) C dX3_end_21 (by decide) h (fun c5 h => ?_) (fun c5 h => ?_)
      · refine gw_sub [] rfl ?_
        exact J4 _ h
      · refine gw_iload_n C dX3_end_24 2 rfl ?_
        refine gw_iconst (v := (1 : Int32)) C dX3_end_25 rfl ?_
        refine gw_icmp_le (tgt := 39) C dX3_end_26 (by decide) h (fun c6 h => ?_) (fun c6 h => ?_)
        · refine gw_aload_n C dX3_end_39 0 rfl ?_
          refine gw_get C dX3_end_40 0 2 0 rfl rfl iX3 (by decide) f12 rfl ?_
          refine gw_get C dX3_end_43 1 1 0 rfl rfl iX1 (by decide) f123 rfl ?_
          refine gw_iload_n C dX3_end_46 1 rfl ?_
          refine gw_sub_call (st2 := [.int (fE_usesOf p1 (tN (qT t)))]) (ws' := wQ cI cJ aP bT bR aS t) C [9, 10, 11] [0, 1, 2, 3, 4, 5, 6, 7, 8, 12, 13, 14, 15, 16, 17, 18, 19, 20, 21, 22] [0, 1, 2, 3, 4, 5, 6, 7, 8, 20, 21, 22, 9, 10, 11, 12, 13, 14, 15, 16, 17, 18, 19] rfl rfl rfl rfl (by decide) rfl rfl (run_V (rest := []) C (c_X0_usesOf l D cI cJ cO (bT 8) (bT 9) (bT 10) (tN (qT t)) p1 rfl) w_X0_usesOf 0 0 rfl rfl rfl rfl rfl (Nat.le_of_ble_eq_true rfl) dX3_end_47 ⟨Nat.zero_le _, Nat.zero_le _⟩) rfl ?_
          refine gw_lt h (fun v7 ev7 h => ?_)
          rw [ev7]
          refine gw_istore_n C dX3_end_50 [(3, .int v7), (0, .ref aP), (1, .int p1), (2, .int p2)] rfl (by decide) rfl ?_
          refine gw_iload_n C dX3_end_51 3 rfl ?_
          refine gw_if_ne (tgt := 57) C dX3_end_52 (by decide) h (fun c8 h => ?_) (fun c8 h => ?_)
          · refine gw_iload_n C dX3_end_55 0 rfl ?_
            have h := gw_some h
            have ho := Sum.inr.inj (Option.some.inj h)
            subst ho
            exact gw_iret C dX3_end_56
          · refine gw_iload_n C dX3_end_57 0 rfl ?_
            refine gw_if_ne (tgt := 65) C dX3_end_58 (by decide) h (fun c9 h => ?_) (fun c9 h => ?_)
            · refine gw_iconst (v := (-1 : Int32)) C dX3_end_61 rfl ?_
              refine gw_goto (tgt := 79) C dX3_end_62 (by decide) ?_
              have h := gw_some h
              have ho := Sum.inr.inj (Option.some.inj h)
              subst ho
              exact gw_iret C dX3_end_79
            · refine gw_aload_n C dX3_end_65 1 rfl ?_
              refine gw_get C dX3_end_66 0 2 0 rfl rfl iX3 (by decide) f12 rfl ?_
              refine gw_get C dX3_end_69 1 1 0 rfl rfl iX1 (by decide) f123 rfl ?_
              refine gw_iload_n C dX3_end_72 2 rfl ?_
              refine gw_bind h (fun q10 hq10 h => ?_)
              refine gw_sub_call (st2 := [.long q10]) (ws' := wQ cI cJ aP bT bR aS t) C [9, 10, 11] [0, 1, 2, 3, 4, 5, 6, 7, 8, 12, 13, 14, 15, 16, 17, 18, 19, 20, 21, 22] [0, 1, 2, 3, 4, 5, 6, 7, 8, 20, 21, 22, 9, 10, 11, 12, 13, 14, 15, 16, 17, 18, 19] rfl rfl rfl rfl (by decide) rfl rfl (run_V (rest := []) C (c_X0_textAt l D cI cJ cO (bT 8) (bT 9) (bT 10) (tN (qT t)) p1 hq10) w_X0_textAt 0 0 rfl rfl rfl rfl rfl (Nat.le_of_ble_eq_true rfl) dX3_end_73 ⟨Nat.zero_le _, Nat.zero_le _⟩) rfl ?_
              refine gw_bind h (fun q11 hq11 h => ?_)
              refine gw_none (st2 := [.int q11]) C (run_S (rest := []) C (c_X2_lengthOf l D cI cJ cO q10 hq11) w_X2_lengthOf rfl rfl (Nat.le_of_ble_eq_true rfl) dX3_end_76 ⟨Nat.zero_le _, Nat.zero_le _⟩) rfl ?_
              have h := gw_some h
              have ho := Sum.inr.inj (Option.some.inj h)
              subst ho
              exact gw_iret C dX3_end_79
        · refine gw_sub [] rfl ?_
          exact J4 _ h
    · refine gw_sub [] rfl ?_
      exact J1 _ h
theorem hd_X3_letter : yX3_letter.cls = RX3 ∧ yX3_letter.cls ≠ "java/lang/invoke/MethodHandle" ∧ yX3_letter.cls ≠ "java/lang/invoke/VarHandle" ∧ (parseMethodDescriptor yX3_letter.desc).map (fun d => d.parameters.length) = some 2 := by decide +kernel
set_option maxHeartbeats 4000000 in
set_option maxRecDepth 100000 in
theorem c_X3_letter (l : Launch) (D : va_G) (cI cJ cO : ClassId) (aP : Nat) (bT bR : Nat → Nat) (aS : Nat) (t : QS) (p1 : Int32) (p2 : Int32) {o : Int32} (h : fP_letter p1 p2 t = some (.inr o)) : Ct l D (tysA cI cJ cO) yX3_letter wsX3_letter (rmOf 2 43) [.ref aP, .int p1, .int p2] (wQ cI cJ aP bT bR aS t) (some (.int o)) (wQ cI cJ aP bT bR aS t) := by
  refine Ct_of (own := RX3) cX3_letter 4 (some .int) (by decide +kernel) rfl rfl (Nat.le_of_ble_eq_true rfl) ?_
  intro p e s m args below meth c A C hnm
  have iX1 : ∀ w ∈ u_ws RX1 TX1 9, w ∈ wsX3_letter := fun w h => List.mem_cons_of_mem _ (List.mem_append_left _ (List.mem_append_left _ (List.mem_append_left _ (List.mem_append_right _ h))))
  have iX3 : ∀ w ∈ u_ws RX3 TX3 6, w ∈ wsX3_letter := fun w h => List.mem_cons_of_mem _ (List.mem_append_left _ (List.mem_append_left _ (List.mem_append_left _ (List.mem_append_left _ (List.mem_append_right _ h)))))
  have f12 : Cond.fieldLink RX3 12 (TX3 0).1 (TX3 0).2.1 (TX3 0).2.2.1 ∈ wsX3_letter := List.mem_of_getElem? (i := 5) rfl
  have f123 : Cond.fieldLink RX3 123 (TX1 0).1 (TX1 0).2.1 (TX1 0).2.2.1 ∈ wsX3_letter := List.mem_of_getElem? (i := 6) rfl
  have w_X0_textAt := cwV (R := (rmOf 2 43)) (rm := rmOf 0 0) (s := s) (args := args) 1 C.1.2.2.2.2 gX3_letter_X0_textAt rfl rfl rfl hd_X0_textAt ⟨Nat.le_of_ble_eq_true rfl, Nat.le_of_ble_eq_true rfl⟩
  have w_X2_letterAt := va_cwS (R := (rmOf 2 43)) (rm := rmOf 1 21) (s := s) (args := args) 2 C.1.2.2.2.2 gX3_letter_X2_letterAt rfl rfl rfl hd_X2_letterAt.2 ⟨Nat.le_of_ble_eq_true rfl, Nat.le_of_ble_eq_true rfl⟩
  have h := gw_top h
  unfold fP_letter at h
  show gw_G p l e (rmOf 2 43) s m args below meth c D A (CtM D below (some (.int o)) (wQ cI cJ aP bT bR aS t) A args s) 4 0 0 (wQ cI cJ aP bT bR aS t) [(0, .ref aP), (1, .int p1), (2, .int p2)] 0 []
  refine gw_iload_n C dX3_letter_0 1 rfl ?_
  refine gw_lt h (fun j1 ej1 h => ?_)
  have J1 : ∀ v1 : Unit, Rs some (.inr o) (j1 v1) → gw_G p l e (rmOf 2 43) s m args below meth c D A (CtM D below (some (.int o)) (wQ cI cJ aP bT bR aS t) A args s) 4 0 0 (wQ cI cJ aP bT bR aS t) [] 10 [] := by
    intro v1 h
    have h := gw_app ej1 h
    have h := gw_some h
    cases h
  refine gw_if_lt (tgt := 10) C dX3_letter_1 (by decide) h (fun c2 h => ?_) (fun c2 h => ?_)
  · refine gw_sub [] rfl ?_
    exact J1 _ h
  · refine gw_iload_n C dX3_letter_4 1 rfl ?_
    refine gw_bipush (v := (40 : Int32)) C dX3_letter_5 rfl ?_
    refine gw_icmp_lt (tgt := 20) C dX3_letter_7 (by decide) h (fun c3 h => ?_) (fun c3 h => ?_)
    · refine gw_iload_n C dX3_letter_20 2 rfl ?_
      refine gw_lt h (fun j4 ej4 h => ?_)
      have J4 : ∀ v4 : Unit, Rs some (.inr o) (j4 v4) → gw_G p l e (rmOf 2 43) s m args below meth c D A (CtM D below (some (.int o)) (wQ cI cJ aP bT bR aS t) A args s) 4 0 0 (wQ cI cJ aP bT bR aS t) [] 30 [] := by
        intro v4 h
        have h := gw_app ej4 h
        have h := gw_some h
        cases h
      refine gw_if_lt (tgt := 30) C dX3_letter_21 (by decide) h (fun c5 h => ?_) (fun c5 h => ?_)
      · refine gw_sub [] rfl ?_
        exact J4 _ h
      · refine gw_iload_n C dX3_letter_24 2 rfl ?_
        refine gw_bipush (v := (12 : Int32)) C dX3_letter_25 rfl ?_
        refine gw_icmp_lt (tgt := 40) C dX3_letter_27 (by decide) h (fun c6 h => ?_) (fun c6 h => ?_)
        · refine gw_aload_n C dX3_letter_40 0 rfl ?_
          refine gw_get C dX3_letter_41 0 2 0 rfl rfl iX3 (by decide) f12 rfl ?_
          refine gw_get C dX3_letter_44 1 1 0 rfl rfl iX1 (by decide) f123 rfl ?_
          refine gw_iload_n C dX3_letter_47 1 rfl ?_
          refine gw_bind h (fun q7 hq7 h => ?_)
          refine gw_sub_call (st2 := [.long q7]) (ws' := wQ cI cJ aP bT bR aS t) C [9, 10, 11] [0, 1, 2, 3, 4, 5, 6, 7, 8, 12, 13, 14, 15, 16, 17, 18, 19, 20, 21, 22] [0, 1, 2, 3, 4, 5, 6, 7, 8, 20, 21, 22, 9, 10, 11, 12, 13, 14, 15, 16, 17, 18, 19] rfl rfl rfl rfl (by decide) rfl rfl (run_V (rest := []) C (c_X0_textAt l D cI cJ cO (bT 8) (bT 9) (bT 10) (tN (qT t)) p1 hq7) w_X0_textAt 0 0 rfl rfl rfl rfl rfl (Nat.le_of_ble_eq_true rfl) dX3_letter_48 ⟨Nat.zero_le _, Nat.zero_le _⟩) rfl ?_
          refine gw_iload_n C dX3_letter_51 2 rfl ?_
          refine gw_none (st2 := [.int (fX_letterAt q7 p2)]) C (run_S (rest := []) C (c_X2_letterAt l D cI cJ cO q7 p2 rfl) w_X2_letterAt rfl rfl (Nat.le_of_ble_eq_true rfl) dX3_letter_52 ⟨Nat.zero_le _, Nat.zero_le _⟩) rfl ?_
          refine gw_lt h (fun v8 ev8 h => ?_)
          rw [ev8]
          refine gw_istore_n C dX3_letter_55 [(3, .int v8), (0, .ref aP), (1, .int p1), (2, .int p2)] rfl (by decide) rfl ?_
          refine gw_iload_n C dX3_letter_56 0 rfl ?_
          refine gw_if_ne (tgt := 64) C dX3_letter_57 (by decide) h (fun c9 h => ?_) (fun c9 h => ?_)
          · refine gw_iconst (v := (-1 : Int32)) C dX3_letter_60 rfl ?_
            refine gw_goto (tgt := 65) C dX3_letter_61 (by decide) ?_
            have h := gw_some h
            have ho := Sum.inr.inj (Option.some.inj h)
            subst ho
            exact gw_iret C dX3_letter_65
          · refine gw_iload_n C dX3_letter_64 0 rfl ?_
            have h := gw_some h
            have ho := Sum.inr.inj (Option.some.inj h)
            subst ho
            exact gw_iret C dX3_letter_65
        · refine gw_sub [] rfl ?_
          exact J4 _ h
    · refine gw_sub [] rfl ?_
      exact J1 _ h
theorem hd_X3_count : yX3_count.cls = RX3 ∧ yX3_count.cls ≠ "java/lang/invoke/MethodHandle" ∧ yX3_count.cls ≠ "java/lang/invoke/VarHandle" ∧ (parseMethodDescriptor yX3_count.desc).map (fun d => d.parameters.length) = some 1 := by decide +kernel
set_option maxHeartbeats 4000000 in
set_option maxRecDepth 100000 in
theorem c_X3_count (l : Launch) (D : va_G) (cI cJ cO : ClassId) (aP : Nat) (bT bR : Nat → Nat) (aS : Nat) (t : QS) (p1 : Int32) {o : Int32} (h : fP_count p1 t = some (.inr o)) : Ct l D (tysA cI cJ cO) yX3_count wsX3_count (rmOf 4 88) [.ref aP, .int p1] (wQ cI cJ aP bT bR aS t) (some (.int o)) (wQ cI cJ aP bT bR aS t) := by
  refine Ct_of (own := RX3) cX3_count 2 (some .int) (by decide +kernel) rfl rfl (Nat.le_of_ble_eq_true rfl) ?_
  intro p e s m args below meth c A C hnm
  have iX1 : ∀ w ∈ u_ws RX1 TX1 9, w ∈ wsX3_count := fun w h => List.mem_cons_of_mem _ (List.mem_append_left _ (List.mem_append_left _ (List.mem_append_right _ h)))
  have iX3 : ∀ w ∈ u_ws RX3 TX3 6, w ∈ wsX3_count := fun w h => List.mem_cons_of_mem _ (List.mem_append_left _ (List.mem_append_left _ (List.mem_append_left _ (List.mem_append_right _ h))))
  have f12 : Cond.fieldLink RX3 12 (TX3 0).1 (TX3 0).2.1 (TX3 0).2.2.1 ∈ wsX3_count := List.mem_of_getElem? (i := 3) rfl
  have f23 : Cond.fieldLink RX3 23 (TX3 3).1 (TX3 3).2.1 (TX3 3).2.2.1 ∈ wsX3_count := List.mem_of_getElem? (i := 7) rfl
  have f31 : Cond.fieldLink RX3 31 (TX3 5).1 (TX3 5).2.1 (TX3 5).2.2.1 ∈ wsX3_count := List.mem_of_getElem? (i := 6) rfl
  have f123 : Cond.fieldLink RX3 123 (TX1 0).1 (TX1 0).2.1 (TX1 0).2.2.1 ∈ wsX3_count := List.mem_of_getElem? (i := 4) rfl
  have f152 : Cond.fieldLink RX3 152 (TX1 8).1 (TX1 8).2.1 (TX1 8).2.2.1 ∈ wsX3_count := List.mem_of_getElem? (i := 5) rfl
  have w_X0_kept := cwV (R := (rmOf 4 88)) (rm := rmOf 0 0) (s := s) (args := args) 0 C.1.2.2.2.2 gX3_count_X0_kept rfl rfl rfl hd_X0_kept ⟨Nat.le_of_ble_eq_true rfl, Nat.le_of_ble_eq_true rfl⟩
  have w_X0_letters := cwV (R := (rmOf 4 88)) (rm := rmOf 3 66) (s := s) (args := args) 0 C.1.2.2.2.2 gX3_count_X0_letters rfl rfl rfl hd_X0_letters ⟨Nat.le_of_ble_eq_true rfl, Nat.le_of_ble_eq_true rfl⟩
  have w_X1_greatestUsed := cwV (R := (rmOf 4 88)) (rm := rmOf 0 0) (s := s) (args := args) 0 C.1.2.2.2.2 gX3_count_X1_greatestUsed rfl rfl rfl hd_X1_greatestUsed ⟨Nat.le_of_ble_eq_true rfl, Nat.le_of_ble_eq_true rfl⟩
  have w_X1_innerCells := cwV (R := (rmOf 4 88)) (rm := rmOf 0 0) (s := s) (args := args) 0 C.1.2.2.2.2 gX3_count_X1_innerCells rfl rfl rfl hd_X1_innerCells ⟨Nat.le_of_ble_eq_true rfl, Nat.le_of_ble_eq_true rfl⟩
  have w_X1_lettersOfWords := cwV (R := (rmOf 4 88)) (rm := rmOf 3 66) (s := s) (args := args) 0 C.1.2.2.2.2 gX3_count_X1_lettersOfWords rfl rfl rfl hd_X1_lettersOfWords ⟨Nat.le_of_ble_eq_true rfl, Nat.le_of_ble_eq_true rfl⟩
  have w_X1_usedCells := cwV (R := (rmOf 4 88)) (rm := rmOf 0 0) (s := s) (args := args) 0 C.1.2.2.2.2 gX3_count_X1_usedCells rfl rfl rfl hd_X1_usedCells ⟨Nat.le_of_ble_eq_true rfl, Nat.le_of_ble_eq_true rfl⟩
  have w_X1_words := cwV (R := (rmOf 4 88)) (rm := rmOf 1 21) (s := s) (args := args) 0 C.1.2.2.2.2 gX3_count_X1_words rfl rfl rfl hd_X1_words ⟨Nat.le_of_ble_eq_true rfl, Nat.le_of_ble_eq_true rfl⟩
  have h := gw_top h
  unfold fP_count at h
  show gw_G p l e (rmOf 4 88) s m args below meth c D A (CtM D below (some (.int o)) (wQ cI cJ aP bT bR aS t) A args s) 2 0 0 (wQ cI cJ aP bT bR aS t) [(0, .ref aP), (1, .int p1)] 0 []
  refine gw_iload_n C dX3_count_0 1 rfl ?_
  refine gw_if h (fun c1 h => ?_) (fun c1 h => ?_)
  · refine gw_tabIn (k := (0 : Int32)) (off := 55) (tgt := 56) C dX3_count_1 c1 (by decide) (by decide) rfl (by decide) ?_
    refine gw_aload_n C dX3_count_56 0 rfl ?_
    refine gw_get C dX3_count_57 0 2 0 rfl rfl iX3 (by decide) f12 rfl ?_
    refine gw_sub_call (st2 := [.int (fT_words (qT t))]) (ws' := wQ cI cJ aP bT bR aS t) C [1, 2, 3, 4, 5, 6, 7, 8, 9, 10, 11] [0, 12, 13, 14, 15, 16, 17, 18, 19, 20, 21, 22] [0, 12, 13, 14, 15, 16, 17, 18, 19, 20, 21, 22, 1, 2, 3, 4, 5, 6, 7, 8, 9, 10, 11] rfl rfl rfl rfl (by decide) rfl rfl (run_V (rest := []) C (c_X1_words l D cI cJ cO bT (qT t) rfl) w_X1_words 0 1 rfl rfl rfl rfl rfl (Nat.le_of_ble_eq_true rfl) dX3_count_60 ⟨Nat.zero_le _, Nat.zero_le _⟩) rfl ?_
    have h := gw_some h
    have ho := Sum.inr.inj (Option.some.inj h)
    subst ho
    exact gw_iret C dX3_count_63
  refine gw_if h (fun c2 h => ?_) (fun c2 h => ?_)
  · refine gw_tabIn (k := (1 : Int32)) (off := 63) (tgt := 64) C dX3_count_1 c2 (by decide) (by decide) rfl (by decide) ?_
    refine gw_aload_n C dX3_count_64 0 rfl ?_
    refine gw_get C dX3_count_65 0 2 0 rfl rfl iX3 (by decide) f12 rfl ?_
    refine gw_bind h (fun q3 hq3 h => ?_)
    refine gw_sub_call (st2 := [.int q3]) (ws' := wQ cI cJ aP bT bR aS t) C [1, 2, 3, 4, 5, 6, 7, 8, 9, 10, 11] [0, 12, 13, 14, 15, 16, 17, 18, 19, 20, 21, 22] [0, 12, 13, 14, 15, 16, 17, 18, 19, 20, 21, 22, 1, 2, 3, 4, 5, 6, 7, 8, 9, 10, 11] rfl rfl rfl rfl (by decide) rfl rfl (run_V (rest := []) C (c_X1_usedCells l D cI cJ cO bT (qT t) hq3) w_X1_usedCells 0 1 rfl rfl rfl rfl rfl (Nat.le_of_ble_eq_true rfl) dX3_count_68 ⟨Nat.zero_le _, Nat.zero_le _⟩) rfl ?_
    have h := gw_some h
    have ho := Sum.inr.inj (Option.some.inj h)
    subst ho
    exact gw_iret C dX3_count_71
  refine gw_if h (fun c4 h => ?_) (fun c4 h => ?_)
  · refine gw_tabIn (k := (2 : Int32)) (off := 71) (tgt := 72) C dX3_count_1 c4 (by decide) (by decide) rfl (by decide) ?_
    refine gw_aload_n C dX3_count_72 0 rfl ?_
    refine gw_get C dX3_count_73 0 2 0 rfl rfl iX3 (by decide) f12 rfl ?_
    refine gw_bind h (fun q5 hq5 h => ?_)
    refine gw_sub_call (st2 := [.int q5]) (ws' := wQ cI cJ aP bT bR aS t) C [1, 2, 3, 4, 5, 6, 7, 8, 9, 10, 11] [0, 12, 13, 14, 15, 16, 17, 18, 19, 20, 21, 22] [0, 12, 13, 14, 15, 16, 17, 18, 19, 20, 21, 22, 1, 2, 3, 4, 5, 6, 7, 8, 9, 10, 11] rfl rfl rfl rfl (by decide) rfl rfl (run_V (rest := []) C (c_X1_innerCells l D cI cJ cO bT (qT t) hq5) w_X1_innerCells 0 1 rfl rfl rfl rfl rfl (Nat.le_of_ble_eq_true rfl) dX3_count_76 ⟨Nat.zero_le _, Nat.zero_le _⟩) rfl ?_
    have h := gw_some h
    have ho := Sum.inr.inj (Option.some.inj h)
    subst ho
    exact gw_iret C dX3_count_79
  refine gw_if h (fun c6 h => ?_) (fun c6 h => ?_)
  · refine gw_tabIn (k := (3 : Int32)) (off := 79) (tgt := 80) C dX3_count_1 c6 (by decide) (by decide) rfl (by decide) ?_
    refine gw_aload_n C dX3_count_80 0 rfl ?_
    refine gw_get C dX3_count_81 0 2 0 rfl rfl iX3 (by decide) f12 rfl ?_
    refine gw_get C dX3_count_84 1 1 0 rfl rfl iX1 (by decide) f123 rfl ?_
    refine gw_bind h (fun q7 hq7 h => ?_)
    refine gw_sub_call (st2 := [.int q7]) (ws' := wQ cI cJ aP bT bR aS t) C [9, 10, 11] [0, 1, 2, 3, 4, 5, 6, 7, 8, 12, 13, 14, 15, 16, 17, 18, 19, 20, 21, 22] [0, 1, 2, 3, 4, 5, 6, 7, 8, 20, 21, 22, 9, 10, 11, 12, 13, 14, 15, 16, 17, 18, 19] rfl rfl rfl rfl (by decide) rfl rfl (run_V (rest := []) C (c_X0_kept l D cI cJ cO (bT 8) (bT 9) (bT 10) (tN (qT t)) hq7) w_X0_kept 0 0 rfl rfl rfl rfl rfl (Nat.le_of_ble_eq_true rfl) dX3_count_87 ⟨Nat.zero_le _, Nat.zero_le _⟩) rfl ?_
    have h := gw_some h
    have ho := Sum.inr.inj (Option.some.inj h)
    subst ho
    exact gw_iret C dX3_count_90
  refine gw_if h (fun c8 h => ?_) (fun c8 h => ?_)
  · refine gw_tabIn (k := (4 : Int32)) (off := 90) (tgt := 91) C dX3_count_1 c8 (by decide) (by decide) rfl (by decide) ?_
    refine gw_aload_n C dX3_count_91 0 rfl ?_
    refine gw_get C dX3_count_92 0 2 0 rfl rfl iX3 (by decide) f12 rfl ?_
    refine gw_get C dX3_count_95 1 1 0 rfl rfl iX1 (by decide) f123 rfl ?_
    refine gw_bind h (fun q9 hq9 h => ?_)
    refine gw_sub_call (st2 := [.int q9]) (ws' := wQ cI cJ aP bT bR aS t) C [9, 10, 11] [0, 1, 2, 3, 4, 5, 6, 7, 8, 12, 13, 14, 15, 16, 17, 18, 19, 20, 21, 22] [0, 1, 2, 3, 4, 5, 6, 7, 8, 20, 21, 22, 9, 10, 11, 12, 13, 14, 15, 16, 17, 18, 19] rfl rfl rfl rfl (by decide) rfl rfl (run_V (rest := []) C (c_X0_letters l D cI cJ cO (bT 8) (bT 9) (bT 10) (tN (qT t)) hq9) w_X0_letters 0 0 rfl rfl rfl rfl rfl (Nat.le_of_ble_eq_true rfl) dX3_count_98 ⟨Nat.zero_le _, Nat.zero_le _⟩) rfl ?_
    have h := gw_some h
    have ho := Sum.inr.inj (Option.some.inj h)
    subst ho
    exact gw_iret C dX3_count_101
  refine gw_if h (fun c10 h => ?_) (fun c10 h => ?_)
  · refine gw_tabIn (k := (5 : Int32)) (off := 101) (tgt := 102) C dX3_count_1 c10 (by decide) (by decide) rfl (by decide) ?_
    refine gw_aload_n C dX3_count_102 0 rfl ?_
    refine gw_get C dX3_count_103 0 2 0 rfl rfl iX3 (by decide) f12 rfl ?_
    refine gw_get C dX3_count_106 1 1 8 rfl rfl iX1 (by decide) f152 rfl ?_
    have h := gw_some h
    have ho := Sum.inr.inj (Option.some.inj h)
    subst ho
    exact gw_iret C dX3_count_109
  refine gw_if h (fun c11 h => ?_) (fun c11 h => ?_)
  · refine gw_tabIn (k := (6 : Int32)) (off := 109) (tgt := 110) C dX3_count_1 c11 (by decide) (by decide) rfl (by decide) ?_
    refine gw_aload_n C dX3_count_110 0 rfl ?_
    refine gw_get C dX3_count_111 0 2 0 rfl rfl iX3 (by decide) f12 rfl ?_
    refine gw_bind h (fun q12 hq12 h => ?_)
    refine gw_sub_call (st2 := [.int q12]) (ws' := wQ cI cJ aP bT bR aS t) C [1, 2, 3, 4, 5, 6, 7, 8, 9, 10, 11] [0, 12, 13, 14, 15, 16, 17, 18, 19, 20, 21, 22] [0, 12, 13, 14, 15, 16, 17, 18, 19, 20, 21, 22, 1, 2, 3, 4, 5, 6, 7, 8, 9, 10, 11] rfl rfl rfl rfl (by decide) rfl rfl (run_V (rest := []) C (c_X1_greatestUsed l D cI cJ cO bT (qT t) hq12) w_X1_greatestUsed 0 1 rfl rfl rfl rfl rfl (Nat.le_of_ble_eq_true rfl) dX3_count_114 ⟨Nat.zero_le _, Nat.zero_le _⟩) rfl ?_
    have h := gw_some h
    have ho := Sum.inr.inj (Option.some.inj h)
    subst ho
    exact gw_iret C dX3_count_117
  refine gw_if h (fun c13 h => ?_) (fun c13 h => ?_)
  · refine gw_tabIn (k := (7 : Int32)) (off := 117) (tgt := 118) C dX3_count_1 c13 (by decide) (by decide) rfl (by decide) ?_
    refine gw_aload_n C dX3_count_118 0 rfl ?_
    refine gw_get C dX3_count_119 0 2 0 rfl rfl iX3 (by decide) f12 rfl ?_
    refine gw_bind h (fun q14 hq14 h => ?_)
    refine gw_sub_call (st2 := [.int q14]) (ws' := wQ cI cJ aP bT bR aS t) C [1, 2, 3, 4, 5, 6, 7, 8, 9, 10, 11] [0, 12, 13, 14, 15, 16, 17, 18, 19, 20, 21, 22] [0, 12, 13, 14, 15, 16, 17, 18, 19, 20, 21, 22, 1, 2, 3, 4, 5, 6, 7, 8, 9, 10, 11] rfl rfl rfl rfl (by decide) rfl rfl (run_V (rest := []) C (c_X1_lettersOfWords l D cI cJ cO bT (qT t) hq14) w_X1_lettersOfWords 0 1 rfl rfl rfl rfl rfl (Nat.le_of_ble_eq_true rfl) dX3_count_122 ⟨Nat.zero_le _, Nat.zero_le _⟩) rfl ?_
    have h := gw_some h
    have ho := Sum.inr.inj (Option.some.inj h)
    subst ho
    exact gw_iret C dX3_count_125
  refine gw_if h (fun c15 h => ?_) (fun c15 h => ?_)
  · refine gw_tabIn (k := (8 : Int32)) (off := 125) (tgt := 126) C dX3_count_1 c15 (by decide) (by decide) rfl (by decide) ?_
    refine gw_aload_n C dX3_count_126 0 rfl ?_
    refine gw_get C dX3_count_127 0 2 5 rfl rfl iX3 (by decide) f31 rfl ?_
    have h := gw_some h
    have ho := Sum.inr.inj (Option.some.inj h)
    subst ho
    exact gw_iret C dX3_count_130
  refine gw_if h (fun c16 h => ?_) (fun c16 h => ?_)
  · refine gw_tabIn (k := (9 : Int32)) (off := 130) (tgt := 131) C dX3_count_1 c16 (by decide) (by decide) rfl (by decide) ?_
    refine gw_aload_n C dX3_count_131 0 rfl ?_
    refine gw_get C dX3_count_132 0 2 3 rfl rfl iX3 (by decide) f23 rfl ?_
    have h := gw_some h
    have ho := Sum.inr.inj (Option.some.inj h)
    subst ho
    exact gw_iret C dX3_count_135
  refine gw_tabOut (tgt := 136) C dX3_count_1 (gw_out10 (lo := 0) c1 c2 c4 c6 c8 c10 c11 c13 c15 c16) (by decide) ?_
  have h := gw_some h
  cases h
theorem hd_X3_word : yX3_word.cls = RX3 ∧ yX3_word.cls ≠ "java/lang/invoke/MethodHandle" ∧ yX3_word.cls ≠ "java/lang/invoke/VarHandle" ∧ (parseMethodDescriptor yX3_word.desc).map (fun d => d.parameters.length) = some 2 := by decide +kernel
set_option maxHeartbeats 4000000 in
set_option maxRecDepth 100000 in
theorem c_X3_word (l : Launch) (D : va_G) (cI cJ cO : ClassId) (aP : Nat) (bT bR : Nat → Nat) (aS : Nat) (t : QS) (p1 : Int32) (p2 : Int32) {o : Int32} (h : fP_word p1 p2 t = some (.inr o)) : Ct l D (tysA cI cJ cO) yX3_word wsX3_word (rmOf 4 96) [.ref aP, .int p1, .int p2] (wQ cI cJ aP bT bR aS t) (some (.int o)) (wQ cI cJ aP bT bR aS t) := by
  refine Ct_of (own := RX3) cX3_word 5 (some .int) (by decide +kernel) rfl rfl (Nat.le_of_ble_eq_true rfl) ?_
  intro p e s m args below meth c A C hnm
  have iX3 : ∀ w ∈ u_ws RX3 TX3 6, w ∈ wsX3_word := fun w h => List.mem_cons_of_mem _ (List.mem_append_left _ (List.mem_append_left _ (List.mem_append_left _ (List.mem_append_right _ h))))
  have f12 : Cond.fieldLink RX3 12 (TX3 0).1 (TX3 0).2.1 (TX3 0).2.2.1 ∈ wsX3_word := List.mem_of_getElem? (i := 3) rfl
  have w_X1_wordAt := cwV (R := (rmOf 4 96)) (rm := rmOf 3 69) (s := s) (args := args) 1 C.1.2.2.2.2 gX3_word_X1_wordAt rfl rfl rfl hd_X1_wordAt ⟨Nat.le_of_ble_eq_true rfl, Nat.le_of_ble_eq_true rfl⟩
  have w_X2_lengthOf := va_cwS (R := (rmOf 4 96)) (rm := rmOf 2 43) (s := s) (args := args) 1 C.1.2.2.2.2 gX3_word_X2_lengthOf rfl rfl rfl hd_X2_lengthOf.2 ⟨Nat.le_of_ble_eq_true rfl, Nat.le_of_ble_eq_true rfl⟩
  have w_X2_letterAt := va_cwS (R := (rmOf 4 96)) (rm := rmOf 1 21) (s := s) (args := args) 2 C.1.2.2.2.2 gX3_word_X2_letterAt rfl rfl rfl hd_X2_letterAt.2 ⟨Nat.le_of_ble_eq_true rfl, Nat.le_of_ble_eq_true rfl⟩
  have h := gw_top h
  unfold fP_word at h
  show gw_G p l e (rmOf 4 96) s m args below meth c D A (CtM D below (some (.int o)) (wQ cI cJ aP bT bR aS t) A args s) 5 0 0 (wQ cI cJ aP bT bR aS t) [(0, .ref aP), (1, .int p1), (2, .int p2)] 0 []
  refine gw_iload_n C dX3_word_0 1 rfl ?_
  refine gw_if_ge (tgt := 14) C dX3_word_1 (by decide) h (fun c1 h => ?_) (fun c1 h => ?_)
  · refine gw_iload_n C dX3_word_14 2 rfl ?_
    refine gw_lt h (fun j2 ej2 h => ?_)
    have J2 : ∀ v2 : Unit, Rs some (.inr o) (j2 v2) → gw_G p l e (rmOf 4 96) s m args below meth c D A (CtM D below (some (.int o)) (wQ cI cJ aP bT bR aS t) A args s) 5 0 0 (wQ cI cJ aP bT bR aS t) [] 24 [] := by
      intro v2 h
      have h := gw_app ej2 h
      have h := gw_some h
      cases h
    refine gw_if_lt (tgt := 24) C dX3_word_15 (by decide) h (fun c3 h => ?_) (fun c3 h => ?_)
    · refine gw_sub [] rfl ?_
      exact J2 _ h
    · refine gw_iload_n C dX3_word_18 2 rfl ?_
      refine gw_bipush (v := (12 : Int32)) C dX3_word_19 rfl ?_
      refine gw_icmp_le (tgt := 34) C dX3_word_21 (by decide) h (fun c4 h => ?_) (fun c4 h => ?_)
      · refine gw_aload_n C dX3_word_34 0 rfl ?_
        refine gw_get C dX3_word_35 0 2 0 rfl rfl iX3 (by decide) f12 rfl ?_
        refine gw_iload_n C dX3_word_38 1 rfl ?_
        refine gw_bind h (fun q5 hq5 h => ?_)
        refine gw_sub_call (st2 := [.long q5]) (ws' := wQ cI cJ aP bT bR aS t) C [1, 2, 3, 4, 5, 6, 7, 8, 9, 10, 11] [0, 12, 13, 14, 15, 16, 17, 18, 19, 20, 21, 22] [0, 12, 13, 14, 15, 16, 17, 18, 19, 20, 21, 22, 1, 2, 3, 4, 5, 6, 7, 8, 9, 10, 11] rfl rfl rfl rfl (by decide) rfl rfl (run_V (rest := []) C (c_X1_wordAt l D cI cJ cO bT (qT t) p1 hq5) w_X1_wordAt 0 1 rfl rfl rfl rfl rfl (Nat.le_of_ble_eq_true rfl) dX3_word_39 ⟨Nat.zero_le _, Nat.zero_le _⟩) rfl ?_
        refine gw_lstore_n C dX3_word_42 [(3, .long q5), (0, .ref aP), (1, .int p1), (2, .int p2)] rfl (by decide) rfl ?_
        refine gw_lload_n C dX3_word_43 0 rfl ?_
        refine gw_lconst (v := (0 : Int64)) C dX3_word_44 rfl ?_
        refine gw_lcmp_eq (tgt := 57) C dX3_word_45 dX3_word_46 (by decide) h (fun c6 h => ?_) (fun c6 h => ?_)
        · refine gw_iconst (v := (-1 : Int32)) C dX3_word_57 rfl ?_
          have h := gw_some h
          have ho := Sum.inr.inj (Option.some.inj h)
          subst ho
          exact gw_iret C dX3_word_58
        · refine gw_iload_n C dX3_word_49 3 rfl ?_
          refine gw_lload_n C dX3_word_50 0 rfl ?_
          refine gw_bind h (fun q7 hq7 h => ?_)
          refine gw_none (st2 := [.int q7, .int p2]) C (run_S (rest := [.int p2]) C (c_X2_lengthOf l D cI cJ cO q5 hq7) w_X2_lengthOf rfl rfl (Nat.le_of_ble_eq_true rfl) dX3_word_51 ⟨Nat.zero_le _, Nat.zero_le _⟩) rfl ?_
          refine gw_icmp_le (tgt := 59) C dX3_word_54 (by decide) h (fun c8 h => ?_) (fun c8 h => ?_)
          · refine gw_lload_n C dX3_word_59 0 rfl ?_
            refine gw_iload_n C dX3_word_60 3 rfl ?_
            refine gw_none (st2 := [.int (fX_letterAt q5 p2)]) C (run_S (rest := []) C (c_X2_letterAt l D cI cJ cO q5 p2 rfl) w_X2_letterAt rfl rfl (Nat.le_of_ble_eq_true rfl) dX3_word_61 ⟨Nat.zero_le _, Nat.zero_le _⟩) rfl ?_
            have h := gw_some h
            have ho := Sum.inr.inj (Option.some.inj h)
            subst ho
            exact gw_iret C dX3_word_64
          · refine gw_iconst (v := (-1 : Int32)) C dX3_word_57 rfl ?_
            have h := gw_some h
            have ho := Sum.inr.inj (Option.some.inj h)
            subst ho
            exact gw_iret C dX3_word_58
      · refine gw_sub [] rfl ?_
        exact J2 _ h
  · have h := gw_some h
    cases h
theorem hd_X3_ifAdded : yX3_ifAdded.cls = RX3 ∧ yX3_ifAdded.cls ≠ "java/lang/invoke/MethodHandle" ∧ yX3_ifAdded.cls ≠ "java/lang/invoke/VarHandle" ∧ (parseMethodDescriptor yX3_ifAdded.desc).map (fun d => d.parameters.length) = some 1 := by decide +kernel
set_option maxHeartbeats 4000000 in
set_option maxRecDepth 100000 in
theorem c_X3_ifAdded (l : Launch) (D : va_G) (cI cJ cO : ClassId) (aP : Nat) (bT bR : Nat → Nat) (aS : Nat) (t : QS) (p1 : Int32) {o : Int32 × QS} (h : fP_ifAdded p1 t = some (.inr o)) : Ct l D (tysA cI cJ cO) yX3_ifAdded wsX3_ifAdded (rmOf 6 155) [.ref aP, .int p1] (wQ cI cJ aP bT bR aS t) (some (.int o.1)) (wQ cI cJ aP bT bR aS o.2) := by
  refine Ct_of (own := RX3) cX3_ifAdded 2 (some .int) (by decide +kernel) rfl rfl (Nat.le_of_ble_eq_true rfl) ?_
  intro p e s m args below meth c A C hnm
  have w_X3_costOfTrial := cwV (R := (rmOf 6 155)) (rm := rmOf 1 22) (s := s) (args := args) 2 C.1.2.2.2.2 gX3_ifAdded_X3_costOfTrial rfl rfl rfl hd_X3_costOfTrial ⟨Nat.le_of_ble_eq_true rfl, Nat.le_of_ble_eq_true rfl⟩
  have w_X3_tryToAdd := cwV (R := (rmOf 6 155)) (rm := rmOf 5 135) (s := s) (args := args) 0 C.1.2.2.2.2 gX3_ifAdded_X3_tryToAdd rfl rfl rfl hd_X3_tryToAdd ⟨Nat.le_of_ble_eq_true rfl, Nat.le_of_ble_eq_true rfl⟩
  have h := gw_top h
  unfold fP_ifAdded at h
  show gw_G p l e (rmOf 6 155) s m args below meth c D A (CtM D below (some (.int o.1)) (wQ cI cJ aP bT bR aS o.2) A args s) 2 0 0 (wQ cI cJ aP bT bR aS t) [(0, .ref aP), (1, .int p1)] 0 []
  refine gw_iload_n C dX3_ifAdded_0 1 rfl ?_
  refine gw_lt h (fun j1 ej1 h => ?_)
  have J1 : ∀ v1 : Unit, Rs some (.inr o) (j1 v1) → gw_G p l e (rmOf 6 155) s m args below meth c D A (CtM D below (some (.int o.1)) (wQ cI cJ aP bT bR aS o.2) A args s) 2 0 0 (wQ cI cJ aP bT bR aS t) [] 9 [] := by
    intro v1 h
    have h := gw_app ej1 h
    have h := gw_some h
    cases h
  refine gw_if_lt (tgt := 9) C dX3_ifAdded_1 (by decide) h (fun c2 h => ?_) (fun c2 h => ?_)
  · refine gw_sub [] rfl ?_
    exact J1 _ h
  · refine gw_iload_n C dX3_ifAdded_4 1 rfl ?_
    refine gw_iconst (v := (3 : Int32)) C dX3_ifAdded_5 rfl ?_
    refine gw_icmp_le (tgt := 19) C dX3_ifAdded_6 (by decide) h (fun c3 h => ?_) (fun c3 h => ?_)
    · refine gw_aload_n C dX3_ifAdded_19 0 rfl ?_
      refine gw_aload_n C dX3_ifAdded_20 0 rfl ?_
      refine gw_bind h (fun q4 hq4 h => ?_)
      refine gw_whole (st2 := [.int q4.1, .ref aP]) C (run_V (rest := [.ref aP]) C (c_X3_tryToAdd l D cI cJ cO aP bT bR aS t hq4) w_X3_tryToAdd 0 2 rfl rfl rfl rfl rfl (Nat.le_of_ble_eq_true rfl) dX3_ifAdded_21 ⟨Nat.zero_le _, Nat.zero_le _⟩) rfl ?_
      refine gw_iload_n C dX3_ifAdded_24 1 rfl ?_
      refine gw_bind h (fun q5 hq5 h => ?_)
      refine gw_whole (st2 := [.int q5]) C (run_V (rest := []) C (c_X3_costOfTrial l D cI cJ cO aP bT bR aS q4.2 q4.1 p1 hq5) w_X3_costOfTrial 0 2 rfl rfl rfl rfl rfl (Nat.le_of_ble_eq_true rfl) dX3_ifAdded_25 ⟨Nat.zero_le _, Nat.zero_le _⟩) rfl ?_
      have h := gw_some h
      have ho := Sum.inr.inj (Option.some.inj h)
      subst ho
      exact gw_iret C dX3_ifAdded_28
    · refine gw_sub [] rfl ?_
      exact J1 _ h
theorem hd_X3_digest : yX3_digest.cls = RX3 ∧ yX3_digest.cls ≠ "java/lang/invoke/MethodHandle" ∧ yX3_digest.cls ≠ "java/lang/invoke/VarHandle" ∧ (parseMethodDescriptor yX3_digest.desc).map (fun d => d.parameters.length) = some 0 := by decide +kernel
set_option maxHeartbeats 4000000 in
set_option maxRecDepth 100000 in
theorem c_X3_digest (l : Launch) (D : va_G) (cI cJ cO : ClassId) (aP : Nat) (bT bR : Nat → Nat) (aS : Nat) (t : QS)  {o : Int64 × QS} (h : fP_digest t = some o) : Ct l D (tysA cI cJ cO) yX3_digest wsX3_digest (rmOf 6 158) [.ref aP] (wQ cI cJ aP bT bR aS t) (some (.long o.1)) (wQ cI cJ aP bT bR aS o.2) := by
  refine Ct_of (own := RX3) cX3_digest 5 (some .long) (by decide +kernel) rfl rfl (Nat.le_of_ble_eq_true rfl) ?_
  intro p e s m args below meth c A C hnm
  have iX3 : ∀ w ∈ u_ws RX3 TX3 6, w ∈ wsX3_digest := fun w h => List.mem_cons_of_mem _ (List.mem_append_left _ (List.mem_append_left _ (List.mem_append_left _ (List.mem_append_right _ h))))
  have f12 : Cond.fieldLink RX3 12 (TX3 0).1 (TX3 0).2.1 (TX3 0).2.2.1 ∈ wsX3_digest := List.mem_of_getElem? (i := 3) rfl
  have f16 : Cond.fieldLink RX3 16 (TX3 1).1 (TX3 1).2.1 (TX3 1).2.2.1 ∈ wsX3_digest := List.mem_of_getElem? (i := 2) rfl
  have f27 : Cond.fieldLink RX3 27 (TX3 4).1 (TX3 4).2.1 (TX3 4).2.2.1 ∈ wsX3_digest := List.mem_of_getElem? (i := 5) rfl
  have f31 : Cond.fieldLink RX3 31 (TX3 5).1 (TX3 5).2.1 (TX3 5).2.2.1 ∈ wsX3_digest := List.mem_of_getElem? (i := 4) rfl
  have k175 : Cond.constantLong RX3 175 (2801 : Int64) ∈ wsX3_digest := List.mem_of_getElem? (i := 1) rfl
  have w_X1_packFrom := cwV (R := (rmOf 6 158)) (rm := rmOf 5 135) (s := s) (args := args) 1 C.1.2.2.2.2 gX3_digest_X1_packFrom rfl rfl rfl hd_X1_packFrom ⟨Nat.le_of_ble_eq_true rfl, Nat.le_of_ble_eq_true rfl⟩
  have w_X2_letterAt := va_cwS (R := (rmOf 6 158)) (rm := rmOf 1 21) (s := s) (args := args) 2 C.1.2.2.2.2 gX3_digest_X2_letterAt rfl rfl rfl hd_X2_letterAt.2 ⟨Nat.le_of_ble_eq_true rfl, Nat.le_of_ble_eq_true rfl⟩
  have w_X3_ahead := cwV (R := (rmOf 6 158)) (rm := rmOf 4 96) (s := s) (args := args) 0 C.1.2.2.2.2 gX3_digest_X3_ahead rfl rfl rfl hd_X3_ahead ⟨Nat.le_of_ble_eq_true rfl, Nat.le_of_ble_eq_true rfl⟩
  have w_X3_beginning := cwV (R := (rmOf 6 158)) (rm := rmOf 5 115) (s := s) (args := args) 0 C.1.2.2.2.2 gX3_digest_X3_beginning rfl rfl rfl hd_X3_beginning ⟨Nat.le_of_ble_eq_true rfl, Nat.le_of_ble_eq_true rfl⟩
  have w_X3_bitsOf := va_cwS (R := (rmOf 6 158)) (rm := rmOf 0 0) (s := s) (args := args) 1 C.1.2.2.2.2 gX3_digest_X3_bitsOf rfl rfl rfl hd_X3_bitsOf.2 ⟨Nat.le_of_ble_eq_true rfl, Nat.le_of_ble_eq_true rfl⟩
  have w_X3_costOfTrial := cwV (R := (rmOf 6 158)) (rm := rmOf 1 22) (s := s) (args := args) 2 C.1.2.2.2.2 gX3_digest_X3_costOfTrial rfl rfl rfl hd_X3_costOfTrial ⟨Nat.le_of_ble_eq_true rfl, Nat.le_of_ble_eq_true rfl⟩
  have w_X3_count := cwV (R := (rmOf 6 158)) (rm := rmOf 4 88) (s := s) (args := args) 1 C.1.2.2.2.2 gX3_digest_X3_count rfl rfl rfl hd_X3_count ⟨Nat.le_of_ble_eq_true rfl, Nat.le_of_ble_eq_true rfl⟩
  have w_X3_find := cwV (R := (rmOf 6 158)) (rm := rmOf 3 69) (s := s) (args := args) 0 C.1.2.2.2.2 gX3_digest_X3_find rfl rfl rfl hd_X3_find ⟨Nat.le_of_ble_eq_true rfl, Nat.le_of_ble_eq_true rfl⟩
  have w_X3_fullness := cwV (R := (rmOf 6 158)) (rm := rmOf 1 22) (s := s) (args := args) 0 C.1.2.2.2.2 gX3_digest_X3_fullness rfl rfl rfl hd_X3_fullness ⟨Nat.le_of_ble_eq_true rfl, Nat.le_of_ble_eq_true rfl⟩
  have w_X3_longest := cwV (R := (rmOf 6 158)) (rm := rmOf 5 116) (s := s) (args := args) 0 C.1.2.2.2.2 gX3_digest_X3_longest rfl rfl rfl hd_X3_longest ⟨Nat.le_of_ble_eq_true rfl, Nat.le_of_ble_eq_true rfl⟩
  have w_X3_mix := va_cwS (R := (rmOf 6 158)) (rm := rmOf 0 0) (s := s) (args := args) 2 C.1.2.2.2.2 gX3_digest_X3_mix rfl rfl rfl hd_X3_mix.2 ⟨Nat.le_of_ble_eq_true rfl, Nat.le_of_ble_eq_true rfl⟩
  have w_X3_mixCells := cwV (R := (rmOf 6 158)) (rm := rmOf 3 64) (s := s) (args := args) 1 C.1.2.2.2.2 gX3_digest_X3_mixCells rfl rfl rfl hd_X3_mixCells ⟨Nat.le_of_ble_eq_true rfl, Nat.le_of_ble_eq_true rfl⟩
  have w_X3_mixEnds := cwV (R := (rmOf 6 158)) (rm := rmOf 3 66) (s := s) (args := args) 1 C.1.2.2.2.2 gX3_digest_X3_mixEnds rfl rfl rfl hd_X3_mixEnds ⟨Nat.le_of_ble_eq_true rfl, Nat.le_of_ble_eq_true rfl⟩
  have w_X3_tryToAdd := cwV (R := (rmOf 6 158)) (rm := rmOf 5 135) (s := s) (args := args) 0 C.1.2.2.2.2 gX3_digest_X3_tryToAdd rfl rfl rfl hd_X3_tryToAdd ⟨Nat.le_of_ble_eq_true rfl, Nat.le_of_ble_eq_true rfl⟩
  have w_X3_word := cwV (R := (rmOf 6 158)) (rm := rmOf 4 96) (s := s) (args := args) 2 C.1.2.2.2.2 gX3_digest_X3_word rfl rfl rfl hd_X3_word ⟨Nat.le_of_ble_eq_true rfl, Nat.le_of_ble_eq_true rfl⟩
  have h := gw_top h
  unfold fP_digest at h
  show gw_G p l e (rmOf 6 158) s m args below meth c D A (CtM D below (some (.long o.1)) (wQ cI cJ aP bT bR aS o.2) A args s) 5 0 0 (wQ cI cJ aP bT bR aS t) [(0, .ref aP)] 0 []
  refine gw_ldc2 C dX3_digest_0 k175 ?_
  refine gw_lstore_n C dX3_digest_3 [(1, .long (2801 : Int64)), (0, .ref aP)] rfl (by decide) rfl ?_
  refine gw_iconst (v := (0 : Int32)) C dX3_digest_4 rfl ?_
  refine gw_istore_n C dX3_digest_5 [(3, .int (0 : Int32)), (1, .long (2801 : Int64)), (0, .ref aP)] rfl (by decide) rfl ?_
  refine gw_sub [2, 1, 0] rfl ?_
  refine gw_lpb (x0 := ((2801 : Int64), (0 : Int32))) (Go := fun x1 : Int64 × Int32 => gw_G p l e (rmOf 6 158) s m args below meth c D A (CtM D below (some (.long o.1)) (wQ cI cJ aP bT bR aS o.2) A args s) 5 0 0 (wQ cI cJ aP bT bR aS t) [(0, .ref aP), (1, .long x1.1), (3, .int x1.2)] 6 []) (GoX := fun v1 : Int64 => gw_G p l e (rmOf 6 158) s m args below meth c D A (CtM D below (some (.long o.1)) (wQ cI cJ aP bT bR aS o.2) A args s) 5 0 0 (wQ cI cJ aP bT bR aS t) [(0, .ref aP), (1, .long v1)] 29 []) h (fun v1 h => ?_) (fun x1 K1 X1 I1 h => ?_)
  · refine gw_aload_n C dX3_digest_29 0 rfl ?_
    refine gw_lload_n C dX3_digest_30 1 rfl ?_
    refine gw_bind h (fun q5 hq5 h => ?_)
    refine gw_whole (st2 := [.long q5]) C (run_V (rest := []) C (c_X3_mixCells l D cI cJ cO aP bT bR aS t v1 hq5) w_X3_mixCells 0 2 rfl rfl rfl rfl rfl (Nat.le_of_ble_eq_true rfl) dX3_digest_31 ⟨Nat.zero_le _, Nat.zero_le _⟩) rfl ?_
    refine gw_lstore_n C dX3_digest_34 [(1, .long q5), (0, .ref aP)] rfl (by decide) rfl ?_
    refine gw_aload_n C dX3_digest_35 1 rfl ?_
    refine gw_lload_n C dX3_digest_36 0 rfl ?_
    refine gw_bind h (fun q6 hq6 h => ?_)
    refine gw_whole (st2 := [.long q6]) C (run_V (rest := []) C (c_X3_mixEnds l D cI cJ cO aP bT bR aS t q5 hq6) w_X3_mixEnds 0 2 rfl rfl rfl rfl rfl (Nat.le_of_ble_eq_true rfl) dX3_digest_37 ⟨Nat.zero_le _, Nat.zero_le _⟩) rfl ?_
    refine gw_lstore_n C dX3_digest_40 [(1, .long q6), (0, .ref aP)] rfl (by decide) rfl ?_
    refine gw_lload_n C dX3_digest_41 0 rfl ?_
    refine gw_aload_n C dX3_digest_42 1 rfl ?_
    refine gw_bind h (fun q7 hq7 h => ?_)
    refine gw_whole (st2 := [.int q7, .long q6]) C (run_V (rest := [.long q6]) C (c_X3_find l D cI cJ cO aP bT bR aS t hq7) w_X3_find 0 2 rfl rfl rfl rfl rfl (Nat.le_of_ble_eq_true rfl) dX3_digest_43 ⟨Nat.zero_le _, Nat.zero_le _⟩) rfl ?_
    refine gw_i2l C dX3_digest_46 ?_
    refine gw_none (st2 := [.long (fP_mix q6 q7.toInt64)]) C (run_S (rest := []) C (c_X3_mix l D cI cJ cO q6 q7.toInt64 rfl) w_X3_mix rfl rfl (Nat.le_of_ble_eq_true rfl) dX3_digest_47 ⟨Nat.zero_le _, Nat.zero_le _⟩) rfl ?_
    refine gw_lt h (fun v8 ev8 h => ?_)
    rw [ev8]
    refine gw_lstore_n C dX3_digest_50 [(1, .long v8), (0, .ref aP)] rfl (by decide) rfl ?_
    refine gw_lload_n C dX3_digest_51 0 rfl ?_
    refine gw_aload_n C dX3_digest_52 1 rfl ?_
    refine gw_bind h (fun q9 hq9 h => ?_)
    refine gw_whole (st2 := [.int q9, .long v8]) C (run_V (rest := [.long v8]) C (c_X3_longest l D cI cJ cO aP bT bR aS t hq9) w_X3_longest 0 2 rfl rfl rfl rfl rfl (Nat.le_of_ble_eq_true rfl) dX3_digest_53 ⟨Nat.zero_le _, Nat.zero_le _⟩) rfl ?_
    refine gw_i2l C dX3_digest_56 ?_
    refine gw_none (st2 := [.long (fP_mix v8 q9.toInt64)]) C (run_S (rest := []) C (c_X3_mix l D cI cJ cO v8 q9.toInt64 rfl) w_X3_mix rfl rfl (Nat.le_of_ble_eq_true rfl) dX3_digest_57 ⟨Nat.zero_le _, Nat.zero_le _⟩) rfl ?_
    refine gw_lt h (fun v10 ev10 h => ?_)
    rw [ev10]
    refine gw_lstore_n C dX3_digest_60 [(1, .long v10), (0, .ref aP)] rfl (by decide) rfl ?_
    refine gw_lload_n C dX3_digest_61 0 rfl ?_
    refine gw_aload_n C dX3_digest_62 1 rfl ?_
    refine gw_bind h (fun q11 hq11 h => ?_)
    refine gw_whole (st2 := [.int q11, .long v10]) C (run_V (rest := [.long v10]) C (c_X3_beginning l D cI cJ cO aP bT bR aS t hq11) w_X3_beginning 0 2 rfl rfl rfl rfl rfl (Nat.le_of_ble_eq_true rfl) dX3_digest_63 ⟨Nat.zero_le _, Nat.zero_le _⟩) rfl ?_
    refine gw_i2l C dX3_digest_66 ?_
    refine gw_none (st2 := [.long (fP_mix v10 q11.toInt64)]) C (run_S (rest := []) C (c_X3_mix l D cI cJ cO v10 q11.toInt64 rfl) w_X3_mix rfl rfl (Nat.le_of_ble_eq_true rfl) dX3_digest_67 ⟨Nat.zero_le _, Nat.zero_le _⟩) rfl ?_
    refine gw_lt h (fun v12 ev12 h => ?_)
    rw [ev12]
    refine gw_lstore_n C dX3_digest_70 [(1, .long v12), (0, .ref aP)] rfl (by decide) rfl ?_
    refine gw_lload_n C dX3_digest_71 0 rfl ?_
    refine gw_aload_n C dX3_digest_72 1 rfl ?_
    refine gw_bind h (fun q13 hq13 h => ?_)
    refine gw_whole (st2 := [.int q13, .long v12]) C (run_V (rest := [.long v12]) C (c_X3_ahead l D cI cJ cO aP bT bR aS t hq13) w_X3_ahead 0 2 rfl rfl rfl rfl rfl (Nat.le_of_ble_eq_true rfl) dX3_digest_73 ⟨Nat.zero_le _, Nat.zero_le _⟩) rfl ?_
    refine gw_i2l C dX3_digest_76 ?_
    refine gw_none (st2 := [.long (fP_mix v12 q13.toInt64)]) C (run_S (rest := []) C (c_X3_mix l D cI cJ cO v12 q13.toInt64 rfl) w_X3_mix rfl rfl (Nat.le_of_ble_eq_true rfl) dX3_digest_77 ⟨Nat.zero_le _, Nat.zero_le _⟩) rfl ?_
    refine gw_lt h (fun v14 ev14 h => ?_)
    rw [ev14]
    refine gw_lstore_n C dX3_digest_80 [(1, .long v14), (0, .ref aP)] rfl (by decide) rfl ?_
    refine gw_iconst (v := (0 : Int32)) C dX3_digest_81 rfl ?_
    refine gw_istore_n C dX3_digest_82 [(3, .int (0 : Int32)), (1, .long v14), (0, .ref aP)] rfl (by decide) rfl ?_
    refine gw_sub [2, 1, 0] rfl ?_
    refine gw_lpb (x0 := (v14, (0 : Int32))) (Go := fun x15 : Int64 × Int32 => gw_G p l e (rmOf 6 158) s m args below meth c D A (CtM D below (some (.long o.1)) (wQ cI cJ aP bT bR aS o.2) A args s) 5 0 0 (wQ cI cJ aP bT bR aS t) [(0, .ref aP), (1, .long x15.1), (3, .int x15.2)] 83 []) (GoX := fun v15 : Int64 => gw_G p l e (rmOf 6 158) s m args below meth c D A (CtM D below (some (.long o.1)) (wQ cI cJ aP bT bR aS o.2) A args s) 5 0 0 (wQ cI cJ aP bT bR aS t) [(0, .ref aP), (1, .long v15)] 123 []) h (fun v15 h => ?_) (fun x15 K15 X15 I15 h => ?_)
    · refine gw_aload_n C dX3_digest_123 0 rfl ?_
      refine gw_bind h (fun q21 hq21 h => ?_)
      refine gw_whole (st2 := [.int q21.1]) C (run_V (rest := []) C (c_X3_tryToAdd l D cI cJ cO aP bT bR aS t hq21) w_X3_tryToAdd 0 2 rfl rfl rfl rfl rfl (Nat.le_of_ble_eq_true rfl) dX3_digest_124 ⟨Nat.zero_le _, Nat.zero_le _⟩) rfl ?_
      refine gw_istore_n C dX3_digest_127 [(3, .int q21.1), (0, .ref aP), (1, .long v15)] rfl (by decide) rfl ?_
      refine gw_iconst (v := (0 : Int32)) C dX3_digest_128 rfl ?_
      refine gw_istore C dX3_digest_129 [(4, .int (0 : Int32)), (3, .int q21.1), (0, .ref aP), (1, .long v15)] (by decide) rfl ?_
      refine gw_sub [2, 3, 1, 0] rfl ?_
      refine gw_lpb (x0 := (v15, (0 : Int32))) (Go := fun x22 : Int64 × Int32 => gw_G p l e (rmOf 6 158) s m args below meth c D A (CtM D below (some (.long o.1)) (wQ cI cJ aP bT bR aS o.2) A args s) 5 0 0 (wQ cI cJ aP bT bR aS q21.2) [(0, .ref aP), (1, .long x22.1), (3, .int q21.1), (4, .int x22.2)] 131 []) (GoX := fun v22 : Int64 => gw_G p l e (rmOf 6 158) s m args below meth c D A (CtM D below (some (.long o.1)) (wQ cI cJ aP bT bR aS o.2) A args s) 5 0 0 (wQ cI cJ aP bT bR aS q21.2) [(0, .ref aP), (1, .long v22)] 156 []) h (fun v22 h => ?_) (fun x22 K22 X22 I22 h => ?_)
      · refine gw_lload_n C dX3_digest_156 1 rfl ?_
        refine gw_aload_n C dX3_digest_157 0 rfl ?_
        refine gw_get C dX3_digest_158 0 2 1 rfl rfl iX3 (by decide) f16 rfl ?_
        refine gw_aload_n C dX3_digest_161 0 rfl ?_
        refine gw_get C dX3_digest_162 0 2 0 rfl rfl iX3 (by decide) f12 rfl ?_
        refine gw_bind h (fun q26 hq26 h => ?_)
        refine gw_lt h (fun t27 et27 h => ?_)
        refine gw_sub_call (st2 := [.int q26.1, .long v22]) (ws' := wQ cI cJ aP bT bR aS t27) C [12, 13, 14, 15, 16, 17, 18, 19, 20, 21, 22, 1, 2, 3, 4, 5, 6, 7, 8, 9, 10, 11] [0] [0, 12, 13, 14, 15, 16, 17, 18, 19, 20, 21, 22, 1, 2, 3, 4, 5, 6, 7, 8, 9, 10, 11] rfl rfl rfl rfl (by decide) (by subst et27; rfl) rfl (run_V (rest := [.long v22]) C (c_X1_packFrom l D cI cJ cO bR bT (qR q21.2) (qT q21.2) hq26) w_X1_packFrom 0 1 rfl rfl rfl rfl rfl (Nat.le_of_ble_eq_true rfl) dX3_digest_165 ⟨Nat.zero_le _, Nat.zero_le _⟩) rfl ?_
        refine gw_i2l C dX3_digest_168 ?_
        refine gw_none (st2 := [.long (fP_mix v22 q26.1.toInt64)]) C (run_S (rest := []) C (c_X3_mix l D cI cJ cO v22 q26.1.toInt64 rfl) w_X3_mix rfl rfl (Nat.le_of_ble_eq_true rfl) dX3_digest_169 ⟨Nat.zero_le _, Nat.zero_le _⟩) rfl ?_
        refine gw_lt h (fun v28 ev28 h => ?_)
        rw [ev28]
        refine gw_lstore_n C dX3_digest_172 [(1, .long v28), (0, .ref aP)] rfl (by decide) rfl ?_
        refine gw_lload_n C dX3_digest_173 0 rfl ?_
        refine gw_aload_n C dX3_digest_174 1 rfl ?_
        refine gw_bind h (fun q29 hq29 h => ?_)
        refine gw_whole (st2 := [.double q29, .long v28]) C (run_V (rest := [.long v28]) C (c_X3_fullness l D cI cJ cO aP bT bR aS t27 hq29) w_X3_fullness 0 2 rfl rfl rfl rfl rfl (Nat.le_of_ble_eq_true rfl) dX3_digest_175 ⟨Nat.zero_le _, Nat.zero_le _⟩) rfl ?_
        refine gw_bind h (fun q30 hq30 h => ?_)
        refine gw_none (st2 := [.long q30, .long v28]) C (run_S (rest := [.long v28]) C (c_X3_bitsOf l D cI cJ cO q29 hq30) w_X3_bitsOf rfl rfl (Nat.le_of_ble_eq_true rfl) dX3_digest_178 ⟨Nat.zero_le _, Nat.zero_le _⟩) rfl ?_
        refine gw_none (st2 := [.long (fP_mix v28 q30)]) C (run_S (rest := []) C (c_X3_mix l D cI cJ cO v28 q30 rfl) w_X3_mix rfl rfl (Nat.le_of_ble_eq_true rfl) dX3_digest_181 ⟨Nat.zero_le _, Nat.zero_le _⟩) rfl ?_
        refine gw_lt h (fun v31 ev31 h => ?_)
        rw [ev31]
        refine gw_lstore_n C dX3_digest_184 [(1, .long v31), (0, .ref aP)] rfl (by decide) rfl ?_
        refine gw_iconst (v := (0 : Int32)) C dX3_digest_185 rfl ?_
        refine gw_istore C dX3_digest_186 [(4, .int (0 : Int32)), (1, .long v31), (0, .ref aP)] (by decide) rfl ?_
        refine gw_sub [2, 1, 0] rfl ?_
        refine gw_lpb (x0 := (v31, (0 : Int32))) (Go := fun x32 : Int64 × Int32 => gw_G p l e (rmOf 6 158) s m args below meth c D A (CtM D below (some (.long o.1)) (wQ cI cJ aP bT bR aS o.2) A args s) 5 0 0 (wQ cI cJ aP bT bR aS t27) [(0, .ref aP), (1, .long x32.1), (4, .int x32.2)] 188 []) (GoX := fun v32 : Int64 => gw_G p l e (rmOf 6 158) s m args below meth c D A (CtM D below (some (.long o.1)) (wQ cI cJ aP bT bR aS o.2) A args s) 5 0 0 (wQ cI cJ aP bT bR aS t27) [(1, .long v32)] 218 []) h (fun v32 h => ?_) (fun x32 K32 X32 I32 h => ?_)
        · refine gw_lload_n C dX3_digest_218 0 rfl ?_
          have h := gw_some h
          have ho := Option.some.inj h
          subst ho
          exact gw_lret C dX3_digest_219
        · refine gw_iload C dX3_digest_188 2 rfl ?_
          refine gw_aload_n C dX3_digest_190 0 rfl ?_
          refine gw_get C dX3_digest_191 0 2 5 rfl rfl iX3 (by decide) f31 rfl ?_
          refine gw_icmp_ge (tgt := 218) C dX3_digest_194 (by decide) h (fun c33 h => ?_) (fun c33 h => ?_)
          · refine gw_sub [1] rfl ?_
            have h := gw_some h
            exact X32 _ h
          · refine gw_lload_n C dX3_digest_197 1 rfl ?_
            refine gw_aload_n C dX3_digest_198 0 rfl ?_
            refine gw_get C dX3_digest_199 0 2 4 rfl rfl iX3 (by decide) f27 rfl ?_
            refine gw_iload C dX3_digest_202 2 rfl ?_
            refine gw_none (st2 := [.int (fX_letterAt (qB t27) x32.2), .long x32.1]) C (run_S (rest := [.long x32.1]) C (c_X2_letterAt l D cI cJ cO (qB t27) x32.2 rfl) w_X2_letterAt rfl rfl (Nat.le_of_ble_eq_true rfl) dX3_digest_204 ⟨Nat.zero_le _, Nat.zero_le _⟩) rfl ?_
            refine gw_i2l C dX3_digest_207 ?_
            refine gw_none (st2 := [.long (fP_mix x32.1 ((fX_letterAt (qB t27) x32.2).toInt64))]) C (run_S (rest := []) C (c_X3_mix l D cI cJ cO x32.1 ((fX_letterAt (qB t27) x32.2).toInt64) rfl) w_X3_mix rfl rfl (Nat.le_of_ble_eq_true rfl) dX3_digest_208 ⟨Nat.zero_le _, Nat.zero_le _⟩) rfl ?_
            refine gw_lt h (fun v34 ev34 h => ?_)
            rw [ev34]
            refine gw_lstore_n C dX3_digest_211 [(1, .long v34), (0, .ref aP), (4, .int x32.2)] rfl (by decide) rfl ?_
            refine gw_iinc (v := (x32.2 + (1 : Int32))) C dX3_digest_212 [(4, .int (x32.2 + (1 : Int32))), (1, .long v34), (0, .ref aP)] 2 rfl rfl (by decide) rfl ?_
            refine gw_goto (tgt := 188) C dX3_digest_215 (by decide) ?_
            refine gw_sub [2, 1, 0] rfl ?_
            have h := gw_some h
            exact I32 _ h
      · refine gw_iload C dX3_digest_131 3 rfl ?_
        refine gw_iconst (v := (3 : Int32)) C dX3_digest_133 rfl ?_
        refine gw_icmp_gt (tgt := 156) C dX3_digest_134 (by decide) h (fun c23 h => ?_) (fun c23 h => ?_)
        · refine gw_sub [0, 1] rfl ?_
          have h := gw_some h
          exact X22 _ h
        · refine gw_lload_n C dX3_digest_137 1 rfl ?_
          refine gw_aload_n C dX3_digest_138 0 rfl ?_
          refine gw_iload_n C dX3_digest_139 2 rfl ?_
          refine gw_iload C dX3_digest_140 3 rfl ?_
          refine gw_bind h (fun q24 hq24 h => ?_)
          refine gw_whole (st2 := [.int q24, .long x22.1]) C (run_V (rest := [.long x22.1]) C (c_X3_costOfTrial l D cI cJ cO aP bT bR aS q21.2 q21.1 x22.2 hq24) w_X3_costOfTrial 0 2 rfl rfl rfl rfl rfl (Nat.le_of_ble_eq_true rfl) dX3_digest_142 ⟨Nat.zero_le _, Nat.zero_le _⟩) rfl ?_
          refine gw_i2l C dX3_digest_145 ?_
          refine gw_none (st2 := [.long (fP_mix x22.1 q24.toInt64)]) C (run_S (rest := []) C (c_X3_mix l D cI cJ cO x22.1 q24.toInt64 rfl) w_X3_mix rfl rfl (Nat.le_of_ble_eq_true rfl) dX3_digest_146 ⟨Nat.zero_le _, Nat.zero_le _⟩) rfl ?_
          refine gw_lt h (fun v25 ev25 h => ?_)
          rw [ev25]
          refine gw_lstore_n C dX3_digest_149 [(1, .long v25), (0, .ref aP), (3, .int q21.1), (4, .int x22.2)] rfl (by decide) rfl ?_
          refine gw_iinc (v := (x22.2 + (1 : Int32))) C dX3_digest_150 [(4, .int (x22.2 + (1 : Int32))), (1, .long v25), (0, .ref aP), (3, .int q21.1)] 3 rfl rfl (by decide) rfl ?_
          refine gw_goto (tgt := 131) C dX3_digest_153 (by decide) ?_
          refine gw_sub [2, 1, 3, 0] rfl ?_
          have h := gw_some h
          exact I22 _ h
    · refine gw_iload_n C dX3_digest_83 2 rfl ?_
      refine gw_iconst (v := (2 : Int32)) C dX3_digest_84 rfl ?_
      refine gw_icmp_gt (tgt := 123) C dX3_digest_85 (by decide) h (fun c16 h => ?_) (fun c16 h => ?_)
      · refine gw_sub [0, 1] rfl ?_
        have h := gw_some h
        exact X15 _ h
      · refine gw_iconst (v := (0 : Int32)) C dX3_digest_88 rfl ?_
        refine gw_istore C dX3_digest_89 [(4, .int (0 : Int32)), (0, .ref aP), (1, .long x15.1), (3, .int x15.2)] (by decide) rfl ?_
        refine gw_sub [1, 2, 3, 0] rfl ?_
        refine gw_lpb (x0 := (x15.1, (0 : Int32))) (Go := fun x17 : Int64 × Int32 => gw_G p l e (rmOf 6 158) s m args below meth c D A (CtM D below (some (.long o.1)) (wQ cI cJ aP bT bR aS o.2) A args s) 5 0 0 (wQ cI cJ aP bT bR aS t) [(0, .ref aP), (1, .long x17.1), (3, .int x15.2), (4, .int x17.2)] 91 []) (GoX := fun v17 : Int64 => gw_G p l e (rmOf 6 158) s m args below meth c D A (CtM D below (some (.long o.1)) (wQ cI cJ aP bT bR aS o.2) A args s) 5 0 0 (wQ cI cJ aP bT bR aS t) [(0, .ref aP), (1, .long v17), (3, .int x15.2)] 117 []) h (fun v17 h => ?_) (fun x17 K17 X17 I17 h => ?_)
        · refine gw_iinc (v := (x15.2 + (1 : Int32))) C dX3_digest_117 [(3, .int (x15.2 + (1 : Int32))), (0, .ref aP), (1, .long v17)] 2 rfl rfl (by decide) rfl ?_
          refine gw_goto (tgt := 83) C dX3_digest_120 (by decide) ?_
          refine gw_sub [1, 2, 0] rfl ?_
          have h := gw_some h
          exact I15 _ h
        · refine gw_iload C dX3_digest_91 3 rfl ?_
          refine gw_bipush (v := (12 : Int32)) C dX3_digest_93 rfl ?_
          refine gw_icmp_gt (tgt := 117) C dX3_digest_95 (by decide) h (fun c18 h => ?_) (fun c18 h => ?_)
          · refine gw_sub [0, 1, 2] rfl ?_
            have h := gw_some h
            exact X17 _ h
          · refine gw_lload_n C dX3_digest_98 1 rfl ?_
            refine gw_aload_n C dX3_digest_99 0 rfl ?_
            refine gw_iload_n C dX3_digest_100 2 rfl ?_
            refine gw_iload C dX3_digest_101 3 rfl ?_
            refine gw_bind h (fun q19 hq19 h => ?_)
            refine gw_whole (st2 := [.int q19, .long x17.1]) C (run_V (rest := [.long x17.1]) C (c_X3_word l D cI cJ cO aP bT bR aS t x15.2 x17.2 (gw_okh hq19)) w_X3_word 0 2 rfl rfl rfl rfl rfl (Nat.le_of_ble_eq_true rfl) dX3_digest_103 ⟨Nat.zero_le _, Nat.zero_le _⟩) rfl ?_
            refine gw_i2l C dX3_digest_106 ?_
            refine gw_none (st2 := [.long (fP_mix x17.1 q19.toInt64)]) C (run_S (rest := []) C (c_X3_mix l D cI cJ cO x17.1 q19.toInt64 rfl) w_X3_mix rfl rfl (Nat.le_of_ble_eq_true rfl) dX3_digest_107 ⟨Nat.zero_le _, Nat.zero_le _⟩) rfl ?_
            refine gw_lt h (fun v20 ev20 h => ?_)
            rw [ev20]
            refine gw_lstore_n C dX3_digest_110 [(1, .long v20), (0, .ref aP), (3, .int x15.2), (4, .int x17.2)] rfl (by decide) rfl ?_
            refine gw_iinc (v := (x17.2 + (1 : Int32))) C dX3_digest_111 [(4, .int (x17.2 + (1 : Int32))), (1, .long v20), (0, .ref aP), (3, .int x15.2)] 3 rfl rfl (by decide) rfl ?_
            refine gw_goto (tgt := 91) C dX3_digest_114 (by decide) ?_
            refine gw_sub [2, 1, 3, 0] rfl ?_
            have h := gw_some h
            exact I17 _ h
  · refine gw_iload_n C dX3_digest_6 2 rfl ?_
    refine gw_bipush (v := (9 : Int32)) C dX3_digest_7 rfl ?_
    refine gw_icmp_gt (tgt := 29) C dX3_digest_9 (by decide) h (fun c2 h => ?_) (fun c2 h => ?_)
    · refine gw_sub [0, 1] rfl ?_
      have h := gw_some h
      exact X1 _ h
    · refine gw_lload_n C dX3_digest_12 1 rfl ?_
      refine gw_aload_n C dX3_digest_13 0 rfl ?_
      refine gw_iload_n C dX3_digest_14 2 rfl ?_
      refine gw_bind h (fun q3 hq3 h => ?_)
      refine gw_whole (st2 := [.int q3, .long x1.1]) C (run_V (rest := [.long x1.1]) C (c_X3_count l D cI cJ cO aP bT bR aS t x1.2 (gw_okh hq3)) w_X3_count 0 2 rfl rfl rfl rfl rfl (Nat.le_of_ble_eq_true rfl) dX3_digest_15 ⟨Nat.zero_le _, Nat.zero_le _⟩) rfl ?_
      refine gw_i2l C dX3_digest_18 ?_
      refine gw_none (st2 := [.long (fP_mix x1.1 q3.toInt64)]) C (run_S (rest := []) C (c_X3_mix l D cI cJ cO x1.1 q3.toInt64 rfl) w_X3_mix rfl rfl (Nat.le_of_ble_eq_true rfl) dX3_digest_19 ⟨Nat.zero_le _, Nat.zero_le _⟩) rfl ?_
      refine gw_lt h (fun v4 ev4 h => ?_)
      rw [ev4]
      refine gw_lstore_n C dX3_digest_22 [(1, .long v4), (0, .ref aP), (3, .int x1.2)] rfl (by decide) rfl ?_
      refine gw_iinc (v := (x1.2 + (1 : Int32))) C dX3_digest_23 [(3, .int (x1.2 + (1 : Int32))), (1, .long v4), (0, .ref aP)] 2 rfl rfl (by decide) rfl ?_
      refine gw_goto (tgt := 6) C dX3_digest_26 (by decide) ?_
      refine gw_sub [2, 1, 0] rfl ?_
      have h := gw_some h
      exact I1 _ h
set_option maxHeartbeats 4000000 in
set_option maxRecDepth 100000 in
theorem c_X3_append_T (l : Launch) (D : va_G) (cI cJ cO : ClassId) (aP : Nat) (bT bR : Nat → Nat) (aS : Nat) (t : QS) (p1 : Int32) {o : Nat × QS} (h : fP_append p1 t = some (.inl o)) : CtT l D (tysA cI cJ cO) yX3_append wsX3_append (rmOfX 6 95) [.ref aP, .int p1] (wQ cI cJ aP bT bR aS t) (gw_xn o.1) (wQ cI cJ aP bT bR aS o.2) := by
  refine CtT_of (own := RX3) cX3_append 2 (some .int) (by decide +kernel) rfl rfl (Nat.le_of_ble_eq_true rfl) ?_
  intro p e s m args below meth c A C XF hnm
  have iX3 : ∀ w ∈ u_ws RX3 TX3 6, w ∈ wsX3_append := fun w h => List.mem_cons_of_mem _ (List.mem_append_left _ (List.mem_append_left _ (List.mem_append_right _ h)))
  have f27 : Cond.fieldLink RX3 27 (TX3 4).1 (TX3 4).2.1 (TX3 4).2.2.1 ∈ wsX3_append := List.mem_of_getElem? (i := 6) rfl
  have f31 : Cond.fieldLink RX3 31 (TX3 5).1 (TX3 5).2.1 (TX3 5).2.2.1 ∈ wsX3_append := List.mem_of_getElem? (i := 5) rfl
  have th2a : Cond.classLink RX3 41 (gw_xn 2) ∈ wsX3_append := List.mem_of_getElem? (i := 3) rfl
  have th2b : Cond.initialized (gw_xn 2) ∈ wsX3_append := List.mem_of_getElem? (i := 4) rfl
  have th2c : ∀ w ∈ (vx_atS RX3 45 (gw_xn 2) gw_ns).filter goodWord, w ∈ wsX3_append := fun w h => List.mem_cons_of_mem _ (List.mem_append_right _ h)
  have sx43 := gw_str (tx := "the buffer is full") XF 43 (List.mem_of_getElem? (i := 1) rfl)
  have th1a : Cond.classLink RX3 34 (gw_xn 1) ∈ wsX3_append := List.mem_of_getElem? (i := 1) rfl
  have th1b : Cond.initialized (gw_xn 1) ∈ wsX3_append := List.mem_of_getElem? (i := 2) rfl
  have th1c : ∀ w ∈ (vx_atS RX3 38 (gw_xn 1) gw_ns).filter goodWord, w ∈ wsX3_append := fun w h => List.mem_cons_of_mem _ (List.mem_append_left _ (List.mem_append_right _ h))
  have sx36 := gw_str (tx := "a letter is 1 to 8") XF 36 (List.mem_of_getElem? (i := 0) rfl)
  have w_X2_withLetter := va_cwS (R := (rmOfX 6 95)) (rm := rmOf 0 0) (s := s) (args := args) 3 C.1.2.2.2.2 gX3_append_X2_withLetter rfl rfl rfl hd_X2_withLetter.2 ⟨Nat.le_of_ble_eq_true rfl, Nat.le_of_ble_eq_true rfl⟩
  have h := gw_top h
  unfold fP_append at h
  show gw_G p l e (rmOfX 6 95) s m args below meth c D A (CtMT D below (gw_xn o.1) (wQ cI cJ aP bT bR aS o.2) A args s) 2 0 0 (wQ cI cJ aP bT bR aS t) [(0, .ref aP), (1, .int p1)] 0 []
  refine gw_iload_n C dX3_append_0 1 rfl ?_
  refine gw_iconst (v := (1 : Int32)) C dX3_append_1 rfl ?_
  refine gw_lt h (fun j1 ej1 h => ?_)
  have J1 : ∀ v1 : Unit, Rs some (.inl o) (j1 v1) → gw_G p l e (rmOfX 6 95) s m args below meth c D A (CtMT D below (gw_xn o.1) (wQ cI cJ aP bT bR aS o.2) A args s) 2 0 0 (wQ cI cJ aP bT bR aS t) [] 11 [] := by
    intro v1 h
    have h := gw_app ej1 h
    have h := gw_some h
    have ho := Sum.inl.inj (Option.some.inj h)
    subst ho
    exact gw_throw (E := gw_xn 1) C XF dX3_append_11 dX3_append_14 dX3_append_15 dX3_append_17 dX3_append_20 (by decide) th1a th1b (sx36) th1c xW_1
  refine gw_icmp_lt (tgt := 11) C dX3_append_2 (by decide) h (fun c2 h => ?_) (fun c2 h => ?_)
  · refine gw_sub [] rfl ?_
    exact J1 _ h
  · refine gw_iload_n C dX3_append_5 1 rfl ?_
    refine gw_bipush (v := (8 : Int32)) C dX3_append_6 rfl ?_
    refine gw_icmp_le (tgt := 21) C dX3_append_8 (by decide) h (fun c3 h => ?_) (fun c3 h => ?_)
    · refine gw_aload_n C dX3_append_21 0 rfl ?_
      refine gw_get C dX3_append_22 0 2 5 rfl rfl iX3 (by decide) f31 rfl ?_
      refine gw_bipush (v := (12 : Int32)) C dX3_append_25 rfl ?_
      refine gw_icmp_lt (tgt := 40) C dX3_append_27 (by decide) h (fun c4 h => ?_) (fun c4 h => ?_)
      · refine gw_aload_n C dX3_append_40 0 rfl ?_
        refine gw_aload_n C dX3_append_41 0 rfl ?_
        refine gw_get C dX3_append_42 0 2 4 rfl rfl iX3 (by decide) f27 rfl ?_
        refine gw_aload_n C dX3_append_45 0 rfl ?_
        refine gw_get C dX3_append_46 0 2 5 rfl rfl iX3 (by decide) f31 rfl ?_
        refine gw_iload_n C dX3_append_49 1 rfl ?_
        refine gw_none (st2 := [.long (fX_withLetter (qB t) (qL t) p1), .ref aP]) C (run_S (rest := [.ref aP]) C (c_X2_withLetter l D cI cJ cO (qB t) (qL t) p1 rfl) w_X2_withLetter rfl rfl (Nat.le_of_ble_eq_true rfl) dX3_append_50 ⟨Nat.zero_le _, Nat.zero_le _⟩) rfl ?_
        refine gw_lt h (fun t5 et5 h => ?_)
        refine gw_put (ws' := wQ cI cJ aP bT bR aS t5) (ty := .long) C dX3_append_53 0 2 4 tyX3 tyX3_ok nmX3 rfl rfl iX3 (by decide) f27 rfl (tyX3_ok 4 (by decide)) rfl rfl (Nat.le_of_ble_eq_true rfl) (by subst et5; rfl) ?_
        refine gw_aload_n C dX3_append_56 0 rfl ?_
        refine gw_dup C dX3_append_57 rfl ?_
        refine gw_get C dX3_append_58 0 2 5 rfl rfl iX3 (by decide) f31 rfl ?_
        refine gw_iconst (v := (1 : Int32)) C dX3_append_61 rfl ?_
        refine gw_iadd C dX3_append_62 ?_
        refine gw_lt h (fun t6 et6 h => ?_)
        refine gw_put (ws' := wQ cI cJ aP bT bR aS t6) (ty := .int) C dX3_append_63 0 2 5 tyX3 tyX3_ok nmX3 rfl rfl iX3 (by decide) f31 rfl (tyX3_ok 5 (by decide)) rfl rfl (Nat.le_of_ble_eq_true rfl) (by subst et6; rfl) ?_
        refine gw_aload_n C dX3_append_66 0 rfl ?_
        refine gw_get C dX3_append_67 0 2 5 rfl rfl iX3 (by decide) f31 rfl ?_
        have h := gw_some h
        cases h
      · have h := gw_some h
        have ho := Sum.inl.inj (Option.some.inj h)
        subst ho
        exact gw_throw (E := gw_xn 2) C XF dX3_append_30 dX3_append_33 dX3_append_34 dX3_append_36 dX3_append_39 (by decide) th2a th2b (sx43) th2c xW_2
    · refine gw_sub [] rfl ?_
      exact J1 _ h
set_option maxHeartbeats 4000000 in
set_option maxRecDepth 100000 in
theorem c_X3_drop_T (l : Launch) (D : va_G) (cI cJ cO : ClassId) (aP : Nat) (bT bR : Nat → Nat) (aS : Nat) (t : QS)  {o : Nat × QS} (h : fP_drop t = some (.inl o)) : CtT l D (tysA cI cJ cO) yX3_drop wsX3_drop (rmOfX 6 95) [.ref aP] (wQ cI cJ aP bT bR aS t) (gw_xn o.1) (wQ cI cJ aP bT bR aS o.2) := by
  refine CtT_of (own := RX3) cX3_drop 2 (some .int) (by decide +kernel) rfl rfl (Nat.le_of_ble_eq_true rfl) ?_
  intro p e s m args below meth c A C XF hnm
  have iX3 : ∀ w ∈ u_ws RX3 TX3 6, w ∈ wsX3_drop := fun w h => List.mem_cons_of_mem _ (List.mem_append_left _ (List.mem_append_right _ h))
  have f27 : Cond.fieldLink RX3 27 (TX3 4).1 (TX3 4).2.1 (TX3 4).2.2.1 ∈ wsX3_drop := List.mem_of_getElem? (i := 4) rfl
  have f31 : Cond.fieldLink RX3 31 (TX3 5).1 (TX3 5).2.1 (TX3 5).2.2.1 ∈ wsX3_drop := List.mem_of_getElem? (i := 3) rfl
  have th2a : Cond.classLink RX3 41 (gw_xn 2) ∈ wsX3_drop := List.mem_of_getElem? (i := 1) rfl
  have th2b : Cond.initialized (gw_xn 2) ∈ wsX3_drop := List.mem_of_getElem? (i := 2) rfl
  have th2c : ∀ w ∈ (vx_atS RX3 45 (gw_xn 2) gw_ns).filter goodWord, w ∈ wsX3_drop := fun w h => List.mem_cons_of_mem _ (List.mem_append_right _ h)
  have sx52 := gw_str (tx := "the buffer is empty") XF 52 (List.mem_of_getElem? (i := 2) rfl)
  have w_X2_letterAt := va_cwS (R := (rmOfX 6 95)) (rm := rmOf 1 21) (s := s) (args := args) 2 C.1.2.2.2.2 gX3_drop_X2_letterAt rfl rfl rfl hd_X2_letterAt.2 ⟨Nat.le_of_ble_eq_true rfl, Nat.le_of_ble_eq_true rfl⟩
  have w_X2_startOf := va_cwS (R := (rmOfX 6 95)) (rm := rmOf 0 0) (s := s) (args := args) 2 C.1.2.2.2.2 gX3_drop_X2_startOf rfl rfl rfl hd_X2_startOf.2 ⟨Nat.le_of_ble_eq_true rfl, Nat.le_of_ble_eq_true rfl⟩
  have h := gw_top h
  unfold fP_drop at h
  show gw_G p l e (rmOfX 6 95) s m args below meth c D A (CtMT D below (gw_xn o.1) (wQ cI cJ aP bT bR aS o.2) A args s) 2 0 0 (wQ cI cJ aP bT bR aS t) [(0, .ref aP)] 0 []
  refine gw_aload_n C dX3_drop_0 0 rfl ?_
  refine gw_get C dX3_drop_1 0 2 5 rfl rfl iX3 (by decide) f31 rfl ?_
  refine gw_if_gt (tgt := 17) C dX3_drop_4 (by decide) h (fun c1 h => ?_) (fun c1 h => ?_)
  · refine gw_aload_n C dX3_drop_17 0 rfl ?_
    refine gw_dup C dX3_drop_18 rfl ?_
    refine gw_get C dX3_drop_19 0 2 5 rfl rfl iX3 (by decide) f31 rfl ?_
    refine gw_iconst (v := (1 : Int32)) C dX3_drop_22 rfl ?_
    refine gw_isub C dX3_drop_23 ?_
    refine gw_lt h (fun t2 et2 h => ?_)
    refine gw_put (ws' := wQ cI cJ aP bT bR aS t2) (ty := .int) C dX3_drop_24 0 2 5 tyX3 tyX3_ok nmX3 rfl rfl iX3 (by decide) f31 rfl (tyX3_ok 5 (by decide)) rfl rfl (Nat.le_of_ble_eq_true rfl) (by subst et2; rfl) ?_
    refine gw_aload_n C dX3_drop_27 0 rfl ?_
    refine gw_get C dX3_drop_28 0 2 4 rfl rfl iX3 (by decide) f27 rfl ?_
    refine gw_aload_n C dX3_drop_31 0 rfl ?_
    refine gw_get C dX3_drop_32 0 2 5 rfl rfl iX3 (by decide) f31 rfl ?_
    refine gw_none (st2 := [.int (fX_letterAt (qB t2) (qL t2))]) C (run_S (rest := []) C (c_X2_letterAt l D cI cJ cO (qB t2) (qL t2) rfl) w_X2_letterAt rfl rfl (Nat.le_of_ble_eq_true rfl) dX3_drop_35 ⟨Nat.zero_le _, Nat.zero_le _⟩) rfl ?_
    refine gw_lt h (fun v3 ev3 h => ?_)
    rw [ev3]
    refine gw_istore_n C dX3_drop_38 [(1, .int v3), (0, .ref aP)] rfl (by decide) rfl ?_
    refine gw_aload_n C dX3_drop_39 1 rfl ?_
    refine gw_aload_n C dX3_drop_40 1 rfl ?_
    refine gw_get C dX3_drop_41 0 2 4 rfl rfl iX3 (by decide) f27 rfl ?_
    refine gw_aload_n C dX3_drop_44 1 rfl ?_
    refine gw_get C dX3_drop_45 0 2 5 rfl rfl iX3 (by decide) f31 rfl ?_
    refine gw_none (st2 := [.long (fX_startOf (qB t2) (qL t2)), .ref aP]) C (run_S (rest := [.ref aP]) C (c_X2_startOf l D cI cJ cO (qB t2) (qL t2) rfl) w_X2_startOf rfl rfl (Nat.le_of_ble_eq_true rfl) dX3_drop_48 ⟨Nat.zero_le _, Nat.zero_le _⟩) rfl ?_
    refine gw_lt h (fun t4 et4 h => ?_)
    refine gw_put (ws' := wQ cI cJ aP bT bR aS t4) (ty := .long) C dX3_drop_51 0 2 4 tyX3 tyX3_ok nmX3 rfl rfl iX3 (by decide) f27 rfl (tyX3_ok 4 (by decide)) rfl rfl (Nat.le_of_ble_eq_true rfl) (by subst et4; rfl) ?_
    refine gw_iload_n C dX3_drop_54 0 rfl ?_
    have h := gw_some h
    cases h
  · have h := gw_some h
    have ho := Sum.inl.inj (Option.some.inj h)
    subst ho
    exact gw_throw (E := gw_xn 2) C XF dX3_drop_7 dX3_drop_10 dX3_drop_11 dX3_drop_13 dX3_drop_16 (by decide) th2a th2b (sx52) th2c xW_2
set_option maxHeartbeats 4000000 in
set_option maxRecDepth 100000 in
theorem c_X3_cell_T (l : Launch) (D : va_G) (cI cJ cO : ClassId) (aP : Nat) (bT bR : Nat → Nat) (aS : Nat) (t : QS) (p1 : Int32) (p2 : Int32) {o : Nat} (h : fP_cell p1 p2 t = some (.inl o)) : CtT l D (tysA cI cJ cO) yX3_cell wsX3_cell (rmOfX 6 95) [.ref aP, .int p1, .int p2] (wQ cI cJ aP bT bR aS t) (gw_xn o) (wQ cI cJ aP bT bR aS t) := by
  refine CtT_of (own := RX3) cX3_cell 3 (some .int) (by decide +kernel) rfl rfl (Nat.le_of_ble_eq_true rfl) ?_
  intro p e s m args below meth c A C XF hnm
  have iX3 : ∀ w ∈ u_ws RX3 TX3 6, w ∈ wsX3_cell := fun w h => List.mem_cons_of_mem _ (List.mem_append_left _ (List.mem_append_left _ (List.mem_append_left _ (List.mem_append_right _ h))))
  have f12 : Cond.fieldLink RX3 12 (TX3 0).1 (TX3 0).2.1 (TX3 0).2.2.1 ∈ wsX3_cell := List.mem_of_getElem? (i := 5) rfl
  have th1a : Cond.classLink RX3 34 (gw_xn 1) ∈ wsX3_cell := List.mem_of_getElem? (i := 3) rfl
  have th1b : Cond.initialized (gw_xn 1) ∈ wsX3_cell := List.mem_of_getElem? (i := 4) rfl
  have th1c : ∀ w ∈ (vx_atS RX3 38 (gw_xn 1) gw_ns).filter goodWord, w ∈ wsX3_cell := fun w h => List.mem_cons_of_mem _ (List.mem_append_right _ h)
  have sx113 := gw_str (tx := "what is 0 to 6") XF 113 (List.mem_of_getElem? (i := 9) rfl)
  have th3a : Cond.classLink RX3 108 (gw_xn 3) ∈ wsX3_cell := List.mem_of_getElem? (i := 1) rfl
  have th3b : Cond.initialized (gw_xn 3) ∈ wsX3_cell := List.mem_of_getElem? (i := 2) rfl
  have th3c : ∀ w ∈ (vx_atS RX3 112 (gw_xn 3) gw_ns).filter goodWord, w ∈ wsX3_cell := fun w h => List.mem_cons_of_mem _ (List.mem_append_left _ (List.mem_append_right _ h))
  have sx110 := gw_str (tx := "there is no such cell") XF 110 (List.mem_of_getElem? (i := 8) rfl)
  have w_X1_propertyOf := cwV (R := (rmOfX 6 95)) (rm := rmOf 2 42) (s := s) (args := args) 2 C.1.2.2.2.2 gX3_cell_X1_propertyOf rfl rfl rfl hd_X1_propertyOf ⟨Nat.le_of_ble_eq_true rfl, Nat.le_of_ble_eq_true rfl⟩
  have h := gw_top h
  unfold fP_cell at h
  show gw_G p l e (rmOfX 6 95) s m args below meth c D A (CtMT D below (gw_xn o) (wQ cI cJ aP bT bR aS t) A args s) 3 0 0 (wQ cI cJ aP bT bR aS t) [(0, .ref aP), (1, .int p1), (2, .int p2)] 0 []
  refine gw_iload_n C dX3_cell_0 1 rfl ?_
  refine gw_lt h (fun j1 ej1 h => ?_)
  have J1 : ∀ v1 : Unit, Rs some (.inl o) (j1 v1) → gw_G p l e (rmOfX 6 95) s m args below meth c D A (CtMT D below (gw_xn o) (wQ cI cJ aP bT bR aS t) A args s) 3 0 0 (wQ cI cJ aP bT bR aS t) [] 11 [] := by
    intro v1 h
    have h := gw_app ej1 h
    have h := gw_some h
    have ho := Sum.inl.inj (Option.some.inj h)
    subst ho
    exact gw_throw (E := gw_xn 3) C XF dX3_cell_11 dX3_cell_14 dX3_cell_15 dX3_cell_17 dX3_cell_20 (by decide) th3a th3b (sx110) th3c xW_3
  refine gw_if_lt (tgt := 11) C dX3_cell_1 (by decide) h (fun c2 h => ?_) (fun c2 h => ?_)
  · refine gw_sub [] rfl ?_
    exact J1 _ h
  · refine gw_iload_n C dX3_cell_4 1 rfl ?_
    refine gw_sipush (v := (160 : Int32)) C dX3_cell_5 rfl ?_
    refine gw_icmp_lt (tgt := 21) C dX3_cell_8 (by decide) h (fun c3 h => ?_) (fun c3 h => ?_)
    · refine gw_iload_n C dX3_cell_21 2 rfl ?_
      refine gw_lt h (fun j4 ej4 h => ?_)
      have J4 : ∀ v4 : Unit, Rs some (.inl o) (j4 v4) → gw_G p l e (rmOfX 6 95) s m args below meth c D A (CtMT D below (gw_xn o) (wQ cI cJ aP bT bR aS t) A args s) 3 0 0 (wQ cI cJ aP bT bR aS t) [] 31 [] := by
        intro v4 h
        have h := gw_app ej4 h
        have h := gw_some h
        have ho := Sum.inl.inj (Option.some.inj h)
        subst ho
        exact gw_throw (E := gw_xn 1) C XF dX3_cell_31 dX3_cell_34 dX3_cell_35 dX3_cell_37 dX3_cell_40 (by decide) th1a th1b (sx113) th1c xW_1
      refine gw_if_lt (tgt := 31) C dX3_cell_22 (by decide) h (fun c5 h => ?_) (fun c5 h => ?_)
      · refine gw_sub [] rfl ?_
        exact J4 _ h
      · refine gw_iload_n C dX3_cell_25 2 rfl ?_
        refine gw_bipush (v := (6 : Int32)) C dX3_cell_26 rfl ?_
        refine gw_icmp_le (tgt := 41) C dX3_cell_28 (by decide) h (fun c6 h => ?_) (fun c6 h => ?_)
        · refine gw_aload_n C dX3_cell_41 0 rfl ?_
          refine gw_get C dX3_cell_42 0 2 0 rfl rfl iX3 (by decide) f12 rfl ?_
          refine gw_iload_n C dX3_cell_45 1 rfl ?_
          refine gw_iload_n C dX3_cell_46 2 rfl ?_
          refine gw_sub_call (st2 := [.int (fT_propertyOf p1 p2 (qT t))]) (ws' := wQ cI cJ aP bT bR aS t) C [1, 2, 3, 4, 5, 6, 7, 8, 9, 10, 11] [0, 12, 13, 14, 15, 16, 17, 18, 19, 20, 21, 22] [0, 12, 13, 14, 15, 16, 17, 18, 19, 20, 21, 22, 1, 2, 3, 4, 5, 6, 7, 8, 9, 10, 11] rfl rfl rfl rfl (by decide) rfl rfl (run_V (rest := []) C (c_X1_propertyOf l D cI cJ cO bT (qT t) p1 p2 rfl) w_X1_propertyOf 0 1 rfl rfl rfl rfl rfl (Nat.le_of_ble_eq_true rfl) dX3_cell_47 ⟨Nat.zero_le _, Nat.zero_le _⟩) rfl ?_
          have h := gw_some h
          cases h
        · refine gw_sub [] rfl ?_
          exact J4 _ h
    · refine gw_sub [] rfl ?_
      exact J1 _ h
set_option maxHeartbeats 4000000 in
set_option maxRecDepth 100000 in
theorem c_X3_end_T (l : Launch) (D : va_G) (cI cJ cO : ClassId) (aP : Nat) (bT bR : Nat → Nat) (aS : Nat) (t : QS) (p1 : Int32) (p2 : Int32) {o : Nat} (h : fP_end p1 p2 t = some (.inl o)) : CtT l D (tysA cI cJ cO) yX3_end wsX3_end (rmOfX 6 95) [.ref aP, .int p1, .int p2] (wQ cI cJ aP bT bR aS t) (gw_xn o) (wQ cI cJ aP bT bR aS t) := by
  refine CtT_of (own := RX3) cX3_end 4 (some .int) (by decide +kernel) rfl rfl (Nat.le_of_ble_eq_true rfl) ?_
  intro p e s m args below meth c A C XF hnm
  have iX1 : ∀ w ∈ u_ws RX1 TX1 9, w ∈ wsX3_end := fun w h => List.mem_cons_of_mem _ (List.mem_append_left _ (List.mem_append_left _ (List.mem_append_left _ (List.mem_append_right _ h))))
  have iX3 : ∀ w ∈ u_ws RX3 TX3 6, w ∈ wsX3_end := fun w h => List.mem_cons_of_mem _ (List.mem_append_left _ (List.mem_append_left _ (List.mem_append_left _ (List.mem_append_left _ (List.mem_append_right _ h)))))
  have f12 : Cond.fieldLink RX3 12 (TX3 0).1 (TX3 0).2.1 (TX3 0).2.2.1 ∈ wsX3_end := List.mem_of_getElem? (i := 5) rfl
  have f123 : Cond.fieldLink RX3 123 (TX1 0).1 (TX1 0).2.1 (TX1 0).2.2.1 ∈ wsX3_end := List.mem_of_getElem? (i := 6) rfl
  have th1a : Cond.classLink RX3 34 (gw_xn 1) ∈ wsX3_end := List.mem_of_getElem? (i := 3) rfl
  have th1b : Cond.initialized (gw_xn 1) ∈ wsX3_end := List.mem_of_getElem? (i := 4) rfl
  have th1c : ∀ w ∈ (vx_atS RX3 38 (gw_xn 1) gw_ns).filter goodWord, w ∈ wsX3_end := fun w h => List.mem_cons_of_mem _ (List.mem_append_right _ h)
  have sx121 := gw_str (tx := "what is 0 or 1") XF 121 (List.mem_of_getElem? (i := 11) rfl)
  have th3a : Cond.classLink RX3 108 (gw_xn 3) ∈ wsX3_end := List.mem_of_getElem? (i := 1) rfl
  have th3b : Cond.initialized (gw_xn 3) ∈ wsX3_end := List.mem_of_getElem? (i := 2) rfl
  have th3c : ∀ w ∈ (vx_atS RX3 112 (gw_xn 3) gw_ns).filter goodWord, w ∈ wsX3_end := fun w h => List.mem_cons_of_mem _ (List.mem_append_left _ (List.mem_append_right _ h))
  have sx119 := gw_str (tx := "there is no such place") XF 119 (List.mem_of_getElem? (i := 10) rfl)
  have w_X0_textAt := cwV (R := (rmOfX 6 95)) (rm := rmOf 0 0) (s := s) (args := args) 1 C.1.2.2.2.2 gX3_end_X0_textAt rfl rfl rfl hd_X0_textAt ⟨Nat.le_of_ble_eq_true rfl, Nat.le_of_ble_eq_true rfl⟩
  have w_X0_usesOf := cwV (R := (rmOfX 6 95)) (rm := rmOf 1 21) (s := s) (args := args) 1 C.1.2.2.2.2 gX3_end_X0_usesOf rfl rfl rfl hd_X0_usesOf ⟨Nat.le_of_ble_eq_true rfl, Nat.le_of_ble_eq_true rfl⟩
  have w_X2_lengthOf := va_cwS (R := (rmOfX 6 95)) (rm := rmOf 2 43) (s := s) (args := args) 1 C.1.2.2.2.2 gX3_end_X2_lengthOf rfl rfl rfl hd_X2_lengthOf.2 ⟨Nat.le_of_ble_eq_true rfl, Nat.le_of_ble_eq_true rfl⟩
  have h := gw_top h
  unfold fP_end at h
  show gw_G p l e (rmOfX 6 95) s m args below meth c D A (CtMT D below (gw_xn o) (wQ cI cJ aP bT bR aS t) A args s) 4 0 0 (wQ cI cJ aP bT bR aS t) [(0, .ref aP), (1, .int p1), (2, .int p2)] 0 []
  refine gw_iload_n C dX3_end_0 1 rfl ?_
  refine gw_lt h (fun j1 ej1 h => ?_)
  have J1 : ∀ v1 : Unit, Rs some (.inl o) (j1 v1) → gw_G p l e (rmOfX 6 95) s m args below meth c D A (CtMT D below (gw_xn o) (wQ cI cJ aP bT bR aS t) A args s) 4 0 0 (wQ cI cJ aP bT bR aS t) [] 10 [] := by
    intro v1 h
    have h := gw_app ej1 h
    have h := gw_some h
    have ho := Sum.inl.inj (Option.some.inj h)
    subst ho
    exact gw_throw (E := gw_xn 3) C XF dX3_end_10 dX3_end_13 dX3_end_14 dX3_end_16 dX3_end_19 (by decide) th3a th3b (sx119) th3c xW_3
  refine gw_if_lt (tgt := 10) C dX3_end_1 (by decide) h (fun c2 h => ?_) (fun c2 h => ?_)
  · refine gw_sub [] rfl ?_
    exact J1 _ h
  · refine gw_iload_n C dX3_end_4 1 rfl ?_
    refine gw_bipush (v := (40 : Int32)) C dX3_end_5 rfl ?_
    refine gw_icmp_lt (tgt := 20) C dX3_end_7 (by decide) h (fun c3 h => ?_) (fun c3 h => ?_)
    · refine gw_iload_n C dX3_end_20 2 rfl ?_
      refine gw_lt h (fun j4 ej4 h => ?_)
      have J4 : ∀ v4 : Unit, Rs some (.inl o) (j4 v4) → gw_G p l e (rmOfX 6 95) s m args below meth c D A (CtMT D below (gw_xn o) (wQ cI cJ aP bT bR aS t) A args s) 4 0 0 (wQ cI cJ aP bT bR aS t) [] 29 [] := by
        intro v4 h
        have h := gw_app ej4 h
        have h := gw_some h
        have ho := Sum.inl.inj (Option.some.inj h)
        subst ho
        exact gw_throw (E := gw_xn 1) C XF dX3_end_29 dX3_end_32 dX3_end_33 dX3_end_35 dX3_end_38 (by decide) th1a th1b (sx121) th1c xW_1
      refine gw_if_lt (tgt := 29) C dX3_end_21 (by decide) h (fun c5 h => ?_) (fun c5 h => ?_)
      · refine gw_sub [] rfl ?_
        exact J4 _ h
      · refine gw_iload_n C dX3_end_24 2 rfl ?_
        refine gw_iconst (v := (1 : Int32)) C dX3_end_25 rfl ?_
        refine gw_icmp_le (tgt := 39) C dX3_end_26 (by decide) h (fun c6 h => ?_) (fun c6 h => ?_)
        · refine gw_aload_n C dX3_end_39 0 rfl ?_
          refine gw_get C dX3_end_40 0 2 0 rfl rfl iX3 (by decide) f12 rfl ?_
          refine gw_get C dX3_end_43 1 1 0 rfl rfl iX1 (by decide) f123 rfl ?_
          refine gw_iload_n C dX3_end_46 1 rfl ?_
          refine gw_sub_call (st2 := [.int (fE_usesOf p1 (tN (qT t)))]) (ws' := wQ cI cJ aP bT bR aS t) C [9, 10, 11] [0, 1, 2, 3, 4, 5, 6, 7, 8, 12, 13, 14, 15, 16, 17, 18, 19, 20, 21, 22] [0, 1, 2, 3, 4, 5, 6, 7, 8, 20, 21, 22, 9, 10, 11, 12, 13, 14, 15, 16, 17, 18, 19] rfl rfl rfl rfl (by decide) rfl rfl (run_V (rest := []) C (c_X0_usesOf l D cI cJ cO (bT 8) (bT 9) (bT 10) (tN (qT t)) p1 rfl) w_X0_usesOf 0 0 rfl rfl rfl rfl rfl (Nat.le_of_ble_eq_true rfl) dX3_end_47 ⟨Nat.zero_le _, Nat.zero_le _⟩) rfl ?_
          refine gw_lt h (fun v7 ev7 h => ?_)
          rw [ev7]
          refine gw_istore_n C dX3_end_50 [(3, .int v7), (0, .ref aP), (1, .int p1), (2, .int p2)] rfl (by decide) rfl ?_
          refine gw_iload_n C dX3_end_51 3 rfl ?_
          refine gw_if_ne (tgt := 57) C dX3_end_52 (by decide) h (fun c8 h => ?_) (fun c8 h => ?_)
          · refine gw_iload_n C dX3_end_55 0 rfl ?_
            have h := gw_some h
            cases h
          · refine gw_iload_n C dX3_end_57 0 rfl ?_
            refine gw_if_ne (tgt := 65) C dX3_end_58 (by decide) h (fun c9 h => ?_) (fun c9 h => ?_)
            · refine gw_iconst (v := (-1 : Int32)) C dX3_end_61 rfl ?_
              refine gw_goto (tgt := 79) C dX3_end_62 (by decide) ?_
              have h := gw_some h
              cases h
            · refine gw_aload_n C dX3_end_65 1 rfl ?_
              refine gw_get C dX3_end_66 0 2 0 rfl rfl iX3 (by decide) f12 rfl ?_
              refine gw_get C dX3_end_69 1 1 0 rfl rfl iX1 (by decide) f123 rfl ?_
              refine gw_iload_n C dX3_end_72 2 rfl ?_
              refine gw_bind h (fun q10 hq10 h => ?_)
              refine gw_sub_call (st2 := [.long q10]) (ws' := wQ cI cJ aP bT bR aS t) C [9, 10, 11] [0, 1, 2, 3, 4, 5, 6, 7, 8, 12, 13, 14, 15, 16, 17, 18, 19, 20, 21, 22] [0, 1, 2, 3, 4, 5, 6, 7, 8, 20, 21, 22, 9, 10, 11, 12, 13, 14, 15, 16, 17, 18, 19] rfl rfl rfl rfl (by decide) rfl rfl (run_V (rest := []) C (c_X0_textAt l D cI cJ cO (bT 8) (bT 9) (bT 10) (tN (qT t)) p1 hq10) w_X0_textAt 0 0 rfl rfl rfl rfl rfl (Nat.le_of_ble_eq_true rfl) dX3_end_73 ⟨Nat.zero_le _, Nat.zero_le _⟩) rfl ?_
              refine gw_bind h (fun q11 hq11 h => ?_)
              refine gw_none (st2 := [.int q11]) C (run_S (rest := []) C (c_X2_lengthOf l D cI cJ cO q10 hq11) w_X2_lengthOf rfl rfl (Nat.le_of_ble_eq_true rfl) dX3_end_76 ⟨Nat.zero_le _, Nat.zero_le _⟩) rfl ?_
              have h := gw_some h
              cases h
        · refine gw_sub [] rfl ?_
          exact J4 _ h
    · refine gw_sub [] rfl ?_
      exact J1 _ h
set_option maxHeartbeats 4000000 in
set_option maxRecDepth 100000 in
theorem c_X3_letter_T (l : Launch) (D : va_G) (cI cJ cO : ClassId) (aP : Nat) (bT bR : Nat → Nat) (aS : Nat) (t : QS) (p1 : Int32) (p2 : Int32) {o : Nat} (h : fP_letter p1 p2 t = some (.inl o)) : CtT l D (tysA cI cJ cO) yX3_letter wsX3_letter (rmOfX 6 95) [.ref aP, .int p1, .int p2] (wQ cI cJ aP bT bR aS t) (gw_xn o) (wQ cI cJ aP bT bR aS t) := by
  refine CtT_of (own := RX3) cX3_letter 4 (some .int) (by decide +kernel) rfl rfl (Nat.le_of_ble_eq_true rfl) ?_
  intro p e s m args below meth c A C XF hnm
  have iX1 : ∀ w ∈ u_ws RX1 TX1 9, w ∈ wsX3_letter := fun w h => List.mem_cons_of_mem _ (List.mem_append_left _ (List.mem_append_left _ (List.mem_append_left _ (List.mem_append_right _ h))))
  have iX3 : ∀ w ∈ u_ws RX3 TX3 6, w ∈ wsX3_letter := fun w h => List.mem_cons_of_mem _ (List.mem_append_left _ (List.mem_append_left _ (List.mem_append_left _ (List.mem_append_left _ (List.mem_append_right _ h)))))
  have f12 : Cond.fieldLink RX3 12 (TX3 0).1 (TX3 0).2.1 (TX3 0).2.2.1 ∈ wsX3_letter := List.mem_of_getElem? (i := 5) rfl
  have f123 : Cond.fieldLink RX3 123 (TX1 0).1 (TX1 0).2.1 (TX1 0).2.2.1 ∈ wsX3_letter := List.mem_of_getElem? (i := 6) rfl
  have th1a : Cond.classLink RX3 34 (gw_xn 1) ∈ wsX3_letter := List.mem_of_getElem? (i := 3) rfl
  have th1b : Cond.initialized (gw_xn 1) ∈ wsX3_letter := List.mem_of_getElem? (i := 4) rfl
  have th1c : ∀ w ∈ (vx_atS RX3 38 (gw_xn 1) gw_ns).filter goodWord, w ∈ wsX3_letter := fun w h => List.mem_cons_of_mem _ (List.mem_append_right _ h)
  have sx138 := gw_str (tx := "at is 0 to 11") XF 138 (List.mem_of_getElem? (i := 12) rfl)
  have th3a : Cond.classLink RX3 108 (gw_xn 3) ∈ wsX3_letter := List.mem_of_getElem? (i := 1) rfl
  have th3b : Cond.initialized (gw_xn 3) ∈ wsX3_letter := List.mem_of_getElem? (i := 2) rfl
  have th3c : ∀ w ∈ (vx_atS RX3 112 (gw_xn 3) gw_ns).filter goodWord, w ∈ wsX3_letter := fun w h => List.mem_cons_of_mem _ (List.mem_append_left _ (List.mem_append_right _ h))
  have sx119 := gw_str (tx := "there is no such place") XF 119 (List.mem_of_getElem? (i := 10) rfl)
  have w_X0_textAt := cwV (R := (rmOfX 6 95)) (rm := rmOf 0 0) (s := s) (args := args) 1 C.1.2.2.2.2 gX3_letter_X0_textAt rfl rfl rfl hd_X0_textAt ⟨Nat.le_of_ble_eq_true rfl, Nat.le_of_ble_eq_true rfl⟩
  have w_X2_letterAt := va_cwS (R := (rmOfX 6 95)) (rm := rmOf 1 21) (s := s) (args := args) 2 C.1.2.2.2.2 gX3_letter_X2_letterAt rfl rfl rfl hd_X2_letterAt.2 ⟨Nat.le_of_ble_eq_true rfl, Nat.le_of_ble_eq_true rfl⟩
  have h := gw_top h
  unfold fP_letter at h
  show gw_G p l e (rmOfX 6 95) s m args below meth c D A (CtMT D below (gw_xn o) (wQ cI cJ aP bT bR aS t) A args s) 4 0 0 (wQ cI cJ aP bT bR aS t) [(0, .ref aP), (1, .int p1), (2, .int p2)] 0 []
  refine gw_iload_n C dX3_letter_0 1 rfl ?_
  refine gw_lt h (fun j1 ej1 h => ?_)
  have J1 : ∀ v1 : Unit, Rs some (.inl o) (j1 v1) → gw_G p l e (rmOfX 6 95) s m args below meth c D A (CtMT D below (gw_xn o) (wQ cI cJ aP bT bR aS t) A args s) 4 0 0 (wQ cI cJ aP bT bR aS t) [] 10 [] := by
    intro v1 h
    have h := gw_app ej1 h
    have h := gw_some h
    have ho := Sum.inl.inj (Option.some.inj h)
    subst ho
    exact gw_throw (E := gw_xn 3) C XF dX3_letter_10 dX3_letter_13 dX3_letter_14 dX3_letter_16 dX3_letter_19 (by decide) th3a th3b (sx119) th3c xW_3
  refine gw_if_lt (tgt := 10) C dX3_letter_1 (by decide) h (fun c2 h => ?_) (fun c2 h => ?_)
  · refine gw_sub [] rfl ?_
    exact J1 _ h
  · refine gw_iload_n C dX3_letter_4 1 rfl ?_
    refine gw_bipush (v := (40 : Int32)) C dX3_letter_5 rfl ?_
    refine gw_icmp_lt (tgt := 20) C dX3_letter_7 (by decide) h (fun c3 h => ?_) (fun c3 h => ?_)
    · refine gw_iload_n C dX3_letter_20 2 rfl ?_
      refine gw_lt h (fun j4 ej4 h => ?_)
      have J4 : ∀ v4 : Unit, Rs some (.inl o) (j4 v4) → gw_G p l e (rmOfX 6 95) s m args below meth c D A (CtMT D below (gw_xn o) (wQ cI cJ aP bT bR aS t) A args s) 4 0 0 (wQ cI cJ aP bT bR aS t) [] 30 [] := by
        intro v4 h
        have h := gw_app ej4 h
        have h := gw_some h
        have ho := Sum.inl.inj (Option.some.inj h)
        subst ho
        exact gw_throw (E := gw_xn 1) C XF dX3_letter_30 dX3_letter_33 dX3_letter_34 dX3_letter_36 dX3_letter_39 (by decide) th1a th1b (sx138) th1c xW_1
      refine gw_if_lt (tgt := 30) C dX3_letter_21 (by decide) h (fun c5 h => ?_) (fun c5 h => ?_)
      · refine gw_sub [] rfl ?_
        exact J4 _ h
      · refine gw_iload_n C dX3_letter_24 2 rfl ?_
        refine gw_bipush (v := (12 : Int32)) C dX3_letter_25 rfl ?_
        refine gw_icmp_lt (tgt := 40) C dX3_letter_27 (by decide) h (fun c6 h => ?_) (fun c6 h => ?_)
        · refine gw_aload_n C dX3_letter_40 0 rfl ?_
          refine gw_get C dX3_letter_41 0 2 0 rfl rfl iX3 (by decide) f12 rfl ?_
          refine gw_get C dX3_letter_44 1 1 0 rfl rfl iX1 (by decide) f123 rfl ?_
          refine gw_iload_n C dX3_letter_47 1 rfl ?_
          refine gw_bind h (fun q7 hq7 h => ?_)
          refine gw_sub_call (st2 := [.long q7]) (ws' := wQ cI cJ aP bT bR aS t) C [9, 10, 11] [0, 1, 2, 3, 4, 5, 6, 7, 8, 12, 13, 14, 15, 16, 17, 18, 19, 20, 21, 22] [0, 1, 2, 3, 4, 5, 6, 7, 8, 20, 21, 22, 9, 10, 11, 12, 13, 14, 15, 16, 17, 18, 19] rfl rfl rfl rfl (by decide) rfl rfl (run_V (rest := []) C (c_X0_textAt l D cI cJ cO (bT 8) (bT 9) (bT 10) (tN (qT t)) p1 hq7) w_X0_textAt 0 0 rfl rfl rfl rfl rfl (Nat.le_of_ble_eq_true rfl) dX3_letter_48 ⟨Nat.zero_le _, Nat.zero_le _⟩) rfl ?_
          refine gw_iload_n C dX3_letter_51 2 rfl ?_
          refine gw_none (st2 := [.int (fX_letterAt q7 p2)]) C (run_S (rest := []) C (c_X2_letterAt l D cI cJ cO q7 p2 rfl) w_X2_letterAt rfl rfl (Nat.le_of_ble_eq_true rfl) dX3_letter_52 ⟨Nat.zero_le _, Nat.zero_le _⟩) rfl ?_
          refine gw_lt h (fun v8 ev8 h => ?_)
          rw [ev8]
          refine gw_istore_n C dX3_letter_55 [(3, .int v8), (0, .ref aP), (1, .int p1), (2, .int p2)] rfl (by decide) rfl ?_
          refine gw_iload_n C dX3_letter_56 0 rfl ?_
          refine gw_if_ne (tgt := 64) C dX3_letter_57 (by decide) h (fun c9 h => ?_) (fun c9 h => ?_)
          · refine gw_iconst (v := (-1 : Int32)) C dX3_letter_60 rfl ?_
            refine gw_goto (tgt := 65) C dX3_letter_61 (by decide) ?_
            have h := gw_some h
            cases h
          · refine gw_iload_n C dX3_letter_64 0 rfl ?_
            have h := gw_some h
            cases h
        · refine gw_sub [] rfl ?_
          exact J4 _ h
    · refine gw_sub [] rfl ?_
      exact J1 _ h
set_option maxHeartbeats 4000000 in
set_option maxRecDepth 100000 in
theorem c_X3_count_T (l : Launch) (D : va_G) (cI cJ cO : ClassId) (aP : Nat) (bT bR : Nat → Nat) (aS : Nat) (t : QS) (p1 : Int32) {o : Nat} (h : fP_count p1 t = some (.inl o)) : CtT l D (tysA cI cJ cO) yX3_count wsX3_count (rmOfX 6 95) [.ref aP, .int p1] (wQ cI cJ aP bT bR aS t) (gw_xn o) (wQ cI cJ aP bT bR aS t) := by
  refine CtT_of (own := RX3) cX3_count 2 (some .int) (by decide +kernel) rfl rfl (Nat.le_of_ble_eq_true rfl) ?_
  intro p e s m args below meth c A C XF hnm
  have iX1 : ∀ w ∈ u_ws RX1 TX1 9, w ∈ wsX3_count := fun w h => List.mem_cons_of_mem _ (List.mem_append_left _ (List.mem_append_left _ (List.mem_append_right _ h)))
  have iX3 : ∀ w ∈ u_ws RX3 TX3 6, w ∈ wsX3_count := fun w h => List.mem_cons_of_mem _ (List.mem_append_left _ (List.mem_append_left _ (List.mem_append_left _ (List.mem_append_right _ h))))
  have f12 : Cond.fieldLink RX3 12 (TX3 0).1 (TX3 0).2.1 (TX3 0).2.2.1 ∈ wsX3_count := List.mem_of_getElem? (i := 3) rfl
  have f23 : Cond.fieldLink RX3 23 (TX3 3).1 (TX3 3).2.1 (TX3 3).2.2.1 ∈ wsX3_count := List.mem_of_getElem? (i := 7) rfl
  have f31 : Cond.fieldLink RX3 31 (TX3 5).1 (TX3 5).2.1 (TX3 5).2.2.1 ∈ wsX3_count := List.mem_of_getElem? (i := 6) rfl
  have f123 : Cond.fieldLink RX3 123 (TX1 0).1 (TX1 0).2.1 (TX1 0).2.2.1 ∈ wsX3_count := List.mem_of_getElem? (i := 4) rfl
  have f152 : Cond.fieldLink RX3 152 (TX1 8).1 (TX1 8).2.1 (TX1 8).2.2.1 ∈ wsX3_count := List.mem_of_getElem? (i := 5) rfl
  have th1a : Cond.classLink RX3 34 (gw_xn 1) ∈ wsX3_count := List.mem_of_getElem? (i := 1) rfl
  have th1b : Cond.initialized (gw_xn 1) ∈ wsX3_count := List.mem_of_getElem? (i := 2) rfl
  have th1c : ∀ w ∈ (vx_atS RX3 38 (gw_xn 1) gw_ns).filter goodWord, w ∈ wsX3_count := fun w h => List.mem_cons_of_mem _ (List.mem_append_right _ h)
  have sx161 := gw_str (tx := "what is 0 to 9") XF 161 (List.mem_of_getElem? (i := 13) rfl)
  have w_X0_kept := cwV (R := (rmOfX 6 95)) (rm := rmOf 0 0) (s := s) (args := args) 0 C.1.2.2.2.2 gX3_count_X0_kept rfl rfl rfl hd_X0_kept ⟨Nat.le_of_ble_eq_true rfl, Nat.le_of_ble_eq_true rfl⟩
  have w_X0_letters := cwV (R := (rmOfX 6 95)) (rm := rmOf 3 66) (s := s) (args := args) 0 C.1.2.2.2.2 gX3_count_X0_letters rfl rfl rfl hd_X0_letters ⟨Nat.le_of_ble_eq_true rfl, Nat.le_of_ble_eq_true rfl⟩
  have w_X1_greatestUsed := cwV (R := (rmOfX 6 95)) (rm := rmOf 0 0) (s := s) (args := args) 0 C.1.2.2.2.2 gX3_count_X1_greatestUsed rfl rfl rfl hd_X1_greatestUsed ⟨Nat.le_of_ble_eq_true rfl, Nat.le_of_ble_eq_true rfl⟩
  have w_X1_innerCells := cwV (R := (rmOfX 6 95)) (rm := rmOf 0 0) (s := s) (args := args) 0 C.1.2.2.2.2 gX3_count_X1_innerCells rfl rfl rfl hd_X1_innerCells ⟨Nat.le_of_ble_eq_true rfl, Nat.le_of_ble_eq_true rfl⟩
  have w_X1_lettersOfWords := cwV (R := (rmOfX 6 95)) (rm := rmOf 3 66) (s := s) (args := args) 0 C.1.2.2.2.2 gX3_count_X1_lettersOfWords rfl rfl rfl hd_X1_lettersOfWords ⟨Nat.le_of_ble_eq_true rfl, Nat.le_of_ble_eq_true rfl⟩
  have w_X1_usedCells := cwV (R := (rmOfX 6 95)) (rm := rmOf 0 0) (s := s) (args := args) 0 C.1.2.2.2.2 gX3_count_X1_usedCells rfl rfl rfl hd_X1_usedCells ⟨Nat.le_of_ble_eq_true rfl, Nat.le_of_ble_eq_true rfl⟩
  have w_X1_words := cwV (R := (rmOfX 6 95)) (rm := rmOf 1 21) (s := s) (args := args) 0 C.1.2.2.2.2 gX3_count_X1_words rfl rfl rfl hd_X1_words ⟨Nat.le_of_ble_eq_true rfl, Nat.le_of_ble_eq_true rfl⟩
  have h := gw_top h
  unfold fP_count at h
  show gw_G p l e (rmOfX 6 95) s m args below meth c D A (CtMT D below (gw_xn o) (wQ cI cJ aP bT bR aS t) A args s) 2 0 0 (wQ cI cJ aP bT bR aS t) [(0, .ref aP), (1, .int p1)] 0 []
  refine gw_iload_n C dX3_count_0 1 rfl ?_
  refine gw_if h (fun c1 h => ?_) (fun c1 h => ?_)
  · refine gw_tabIn (k := (0 : Int32)) (off := 55) (tgt := 56) C dX3_count_1 c1 (by decide) (by decide) rfl (by decide) ?_
    refine gw_aload_n C dX3_count_56 0 rfl ?_
    refine gw_get C dX3_count_57 0 2 0 rfl rfl iX3 (by decide) f12 rfl ?_
    refine gw_sub_call (st2 := [.int (fT_words (qT t))]) (ws' := wQ cI cJ aP bT bR aS t) C [1, 2, 3, 4, 5, 6, 7, 8, 9, 10, 11] [0, 12, 13, 14, 15, 16, 17, 18, 19, 20, 21, 22] [0, 12, 13, 14, 15, 16, 17, 18, 19, 20, 21, 22, 1, 2, 3, 4, 5, 6, 7, 8, 9, 10, 11] rfl rfl rfl rfl (by decide) rfl rfl (run_V (rest := []) C (c_X1_words l D cI cJ cO bT (qT t) rfl) w_X1_words 0 1 rfl rfl rfl rfl rfl (Nat.le_of_ble_eq_true rfl) dX3_count_60 ⟨Nat.zero_le _, Nat.zero_le _⟩) rfl ?_
    have h := gw_some h
    cases h
  refine gw_if h (fun c2 h => ?_) (fun c2 h => ?_)
  · refine gw_tabIn (k := (1 : Int32)) (off := 63) (tgt := 64) C dX3_count_1 c2 (by decide) (by decide) rfl (by decide) ?_
    refine gw_aload_n C dX3_count_64 0 rfl ?_
    refine gw_get C dX3_count_65 0 2 0 rfl rfl iX3 (by decide) f12 rfl ?_
    refine gw_bind h (fun q3 hq3 h => ?_)
    refine gw_sub_call (st2 := [.int q3]) (ws' := wQ cI cJ aP bT bR aS t) C [1, 2, 3, 4, 5, 6, 7, 8, 9, 10, 11] [0, 12, 13, 14, 15, 16, 17, 18, 19, 20, 21, 22] [0, 12, 13, 14, 15, 16, 17, 18, 19, 20, 21, 22, 1, 2, 3, 4, 5, 6, 7, 8, 9, 10, 11] rfl rfl rfl rfl (by decide) rfl rfl (run_V (rest := []) C (c_X1_usedCells l D cI cJ cO bT (qT t) hq3) w_X1_usedCells 0 1 rfl rfl rfl rfl rfl (Nat.le_of_ble_eq_true rfl) dX3_count_68 ⟨Nat.zero_le _, Nat.zero_le _⟩) rfl ?_
    have h := gw_some h
    cases h
  refine gw_if h (fun c4 h => ?_) (fun c4 h => ?_)
  · refine gw_tabIn (k := (2 : Int32)) (off := 71) (tgt := 72) C dX3_count_1 c4 (by decide) (by decide) rfl (by decide) ?_
    refine gw_aload_n C dX3_count_72 0 rfl ?_
    refine gw_get C dX3_count_73 0 2 0 rfl rfl iX3 (by decide) f12 rfl ?_
    refine gw_bind h (fun q5 hq5 h => ?_)
    refine gw_sub_call (st2 := [.int q5]) (ws' := wQ cI cJ aP bT bR aS t) C [1, 2, 3, 4, 5, 6, 7, 8, 9, 10, 11] [0, 12, 13, 14, 15, 16, 17, 18, 19, 20, 21, 22] [0, 12, 13, 14, 15, 16, 17, 18, 19, 20, 21, 22, 1, 2, 3, 4, 5, 6, 7, 8, 9, 10, 11] rfl rfl rfl rfl (by decide) rfl rfl (run_V (rest := []) C (c_X1_innerCells l D cI cJ cO bT (qT t) hq5) w_X1_innerCells 0 1 rfl rfl rfl rfl rfl (Nat.le_of_ble_eq_true rfl) dX3_count_76 ⟨Nat.zero_le _, Nat.zero_le _⟩) rfl ?_
    have h := gw_some h
    cases h
  refine gw_if h (fun c6 h => ?_) (fun c6 h => ?_)
  · refine gw_tabIn (k := (3 : Int32)) (off := 79) (tgt := 80) C dX3_count_1 c6 (by decide) (by decide) rfl (by decide) ?_
    refine gw_aload_n C dX3_count_80 0 rfl ?_
    refine gw_get C dX3_count_81 0 2 0 rfl rfl iX3 (by decide) f12 rfl ?_
    refine gw_get C dX3_count_84 1 1 0 rfl rfl iX1 (by decide) f123 rfl ?_
    refine gw_bind h (fun q7 hq7 h => ?_)
    refine gw_sub_call (st2 := [.int q7]) (ws' := wQ cI cJ aP bT bR aS t) C [9, 10, 11] [0, 1, 2, 3, 4, 5, 6, 7, 8, 12, 13, 14, 15, 16, 17, 18, 19, 20, 21, 22] [0, 1, 2, 3, 4, 5, 6, 7, 8, 20, 21, 22, 9, 10, 11, 12, 13, 14, 15, 16, 17, 18, 19] rfl rfl rfl rfl (by decide) rfl rfl (run_V (rest := []) C (c_X0_kept l D cI cJ cO (bT 8) (bT 9) (bT 10) (tN (qT t)) hq7) w_X0_kept 0 0 rfl rfl rfl rfl rfl (Nat.le_of_ble_eq_true rfl) dX3_count_87 ⟨Nat.zero_le _, Nat.zero_le _⟩) rfl ?_
    have h := gw_some h
    cases h
  refine gw_if h (fun c8 h => ?_) (fun c8 h => ?_)
  · refine gw_tabIn (k := (4 : Int32)) (off := 90) (tgt := 91) C dX3_count_1 c8 (by decide) (by decide) rfl (by decide) ?_
    refine gw_aload_n C dX3_count_91 0 rfl ?_
    refine gw_get C dX3_count_92 0 2 0 rfl rfl iX3 (by decide) f12 rfl ?_
    refine gw_get C dX3_count_95 1 1 0 rfl rfl iX1 (by decide) f123 rfl ?_
    refine gw_bind h (fun q9 hq9 h => ?_)
    refine gw_sub_call (st2 := [.int q9]) (ws' := wQ cI cJ aP bT bR aS t) C [9, 10, 11] [0, 1, 2, 3, 4, 5, 6, 7, 8, 12, 13, 14, 15, 16, 17, 18, 19, 20, 21, 22] [0, 1, 2, 3, 4, 5, 6, 7, 8, 20, 21, 22, 9, 10, 11, 12, 13, 14, 15, 16, 17, 18, 19] rfl rfl rfl rfl (by decide) rfl rfl (run_V (rest := []) C (c_X0_letters l D cI cJ cO (bT 8) (bT 9) (bT 10) (tN (qT t)) hq9) w_X0_letters 0 0 rfl rfl rfl rfl rfl (Nat.le_of_ble_eq_true rfl) dX3_count_98 ⟨Nat.zero_le _, Nat.zero_le _⟩) rfl ?_
    have h := gw_some h
    cases h
  refine gw_if h (fun c10 h => ?_) (fun c10 h => ?_)
  · refine gw_tabIn (k := (5 : Int32)) (off := 101) (tgt := 102) C dX3_count_1 c10 (by decide) (by decide) rfl (by decide) ?_
    refine gw_aload_n C dX3_count_102 0 rfl ?_
    refine gw_get C dX3_count_103 0 2 0 rfl rfl iX3 (by decide) f12 rfl ?_
    refine gw_get C dX3_count_106 1 1 8 rfl rfl iX1 (by decide) f152 rfl ?_
    have h := gw_some h
    cases h
  refine gw_if h (fun c11 h => ?_) (fun c11 h => ?_)
  · refine gw_tabIn (k := (6 : Int32)) (off := 109) (tgt := 110) C dX3_count_1 c11 (by decide) (by decide) rfl (by decide) ?_
    refine gw_aload_n C dX3_count_110 0 rfl ?_
    refine gw_get C dX3_count_111 0 2 0 rfl rfl iX3 (by decide) f12 rfl ?_
    refine gw_bind h (fun q12 hq12 h => ?_)
    refine gw_sub_call (st2 := [.int q12]) (ws' := wQ cI cJ aP bT bR aS t) C [1, 2, 3, 4, 5, 6, 7, 8, 9, 10, 11] [0, 12, 13, 14, 15, 16, 17, 18, 19, 20, 21, 22] [0, 12, 13, 14, 15, 16, 17, 18, 19, 20, 21, 22, 1, 2, 3, 4, 5, 6, 7, 8, 9, 10, 11] rfl rfl rfl rfl (by decide) rfl rfl (run_V (rest := []) C (c_X1_greatestUsed l D cI cJ cO bT (qT t) hq12) w_X1_greatestUsed 0 1 rfl rfl rfl rfl rfl (Nat.le_of_ble_eq_true rfl) dX3_count_114 ⟨Nat.zero_le _, Nat.zero_le _⟩) rfl ?_
    have h := gw_some h
    cases h
  refine gw_if h (fun c13 h => ?_) (fun c13 h => ?_)
  · refine gw_tabIn (k := (7 : Int32)) (off := 117) (tgt := 118) C dX3_count_1 c13 (by decide) (by decide) rfl (by decide) ?_
    refine gw_aload_n C dX3_count_118 0 rfl ?_
    refine gw_get C dX3_count_119 0 2 0 rfl rfl iX3 (by decide) f12 rfl ?_
    refine gw_bind h (fun q14 hq14 h => ?_)
    refine gw_sub_call (st2 := [.int q14]) (ws' := wQ cI cJ aP bT bR aS t) C [1, 2, 3, 4, 5, 6, 7, 8, 9, 10, 11] [0, 12, 13, 14, 15, 16, 17, 18, 19, 20, 21, 22] [0, 12, 13, 14, 15, 16, 17, 18, 19, 20, 21, 22, 1, 2, 3, 4, 5, 6, 7, 8, 9, 10, 11] rfl rfl rfl rfl (by decide) rfl rfl (run_V (rest := []) C (c_X1_lettersOfWords l D cI cJ cO bT (qT t) hq14) w_X1_lettersOfWords 0 1 rfl rfl rfl rfl rfl (Nat.le_of_ble_eq_true rfl) dX3_count_122 ⟨Nat.zero_le _, Nat.zero_le _⟩) rfl ?_
    have h := gw_some h
    cases h
  refine gw_if h (fun c15 h => ?_) (fun c15 h => ?_)
  · refine gw_tabIn (k := (8 : Int32)) (off := 125) (tgt := 126) C dX3_count_1 c15 (by decide) (by decide) rfl (by decide) ?_
    refine gw_aload_n C dX3_count_126 0 rfl ?_
    refine gw_get C dX3_count_127 0 2 5 rfl rfl iX3 (by decide) f31 rfl ?_
    have h := gw_some h
    cases h
  refine gw_if h (fun c16 h => ?_) (fun c16 h => ?_)
  · refine gw_tabIn (k := (9 : Int32)) (off := 130) (tgt := 131) C dX3_count_1 c16 (by decide) (by decide) rfl (by decide) ?_
    refine gw_aload_n C dX3_count_131 0 rfl ?_
    refine gw_get C dX3_count_132 0 2 3 rfl rfl iX3 (by decide) f23 rfl ?_
    have h := gw_some h
    cases h
  refine gw_tabOut (tgt := 136) C dX3_count_1 (gw_out10 (lo := 0) c1 c2 c4 c6 c8 c10 c11 c13 c15 c16) (by decide) ?_
  have h := gw_some h
  have ho := Sum.inl.inj (Option.some.inj h)
  subst ho
  exact gw_throw (E := gw_xn 1) C XF dX3_count_136 dX3_count_139 dX3_count_140 dX3_count_142 dX3_count_145 (by decide) th1a th1b (sx161) th1c xW_1
set_option maxHeartbeats 4000000 in
set_option maxRecDepth 100000 in
theorem c_X3_word_T (l : Launch) (D : va_G) (cI cJ cO : ClassId) (aP : Nat) (bT bR : Nat → Nat) (aS : Nat) (t : QS) (p1 : Int32) (p2 : Int32) {o : Nat} (h : fP_word p1 p2 t = some (.inl o)) : CtT l D (tysA cI cJ cO) yX3_word wsX3_word (rmOfX 6 96) [.ref aP, .int p1, .int p2] (wQ cI cJ aP bT bR aS t) (gw_xn o) (wQ cI cJ aP bT bR aS t) := by
  refine CtT_of (own := RX3) cX3_word 5 (some .int) (by decide +kernel) rfl rfl (Nat.le_of_ble_eq_true rfl) ?_
  intro p e s m args below meth c A C XF hnm
  have iX3 : ∀ w ∈ u_ws RX3 TX3 6, w ∈ wsX3_word := fun w h => List.mem_cons_of_mem _ (List.mem_append_left _ (List.mem_append_left _ (List.mem_append_left _ (List.mem_append_right _ h))))
  have f12 : Cond.fieldLink RX3 12 (TX3 0).1 (TX3 0).2.1 (TX3 0).2.2.1 ∈ wsX3_word := List.mem_of_getElem? (i := 3) rfl
  have th1a : Cond.classLink RX3 34 (gw_xn 1) ∈ wsX3_word := List.mem_of_getElem? (i := 1) rfl
  have th1b : Cond.initialized (gw_xn 1) ∈ wsX3_word := List.mem_of_getElem? (i := 2) rfl
  have th1c : ∀ w ∈ (vx_atS RX3 38 (gw_xn 1) gw_ns).filter goodWord, w ∈ wsX3_word := fun w h => List.mem_cons_of_mem _ (List.mem_append_right _ h)
  have sx168 := gw_str (tx := "at is 0 to 12") XF 168 (List.mem_of_getElem? (i := 15) rfl)
  have sx166 := gw_str (tx := "a rank is 0 or more") XF 166 (List.mem_of_getElem? (i := 14) rfl)
  have w_X1_wordAt := cwV (R := (rmOfX 6 96)) (rm := rmOf 3 69) (s := s) (args := args) 1 C.1.2.2.2.2 gX3_word_X1_wordAt rfl rfl rfl hd_X1_wordAt ⟨Nat.le_of_ble_eq_true rfl, Nat.le_of_ble_eq_true rfl⟩
  have w_X2_lengthOf := va_cwS (R := (rmOfX 6 96)) (rm := rmOf 2 43) (s := s) (args := args) 1 C.1.2.2.2.2 gX3_word_X2_lengthOf rfl rfl rfl hd_X2_lengthOf.2 ⟨Nat.le_of_ble_eq_true rfl, Nat.le_of_ble_eq_true rfl⟩
  have w_X2_letterAt := va_cwS (R := (rmOfX 6 96)) (rm := rmOf 1 21) (s := s) (args := args) 2 C.1.2.2.2.2 gX3_word_X2_letterAt rfl rfl rfl hd_X2_letterAt.2 ⟨Nat.le_of_ble_eq_true rfl, Nat.le_of_ble_eq_true rfl⟩
  have h := gw_top h
  unfold fP_word at h
  show gw_G p l e (rmOfX 6 96) s m args below meth c D A (CtMT D below (gw_xn o) (wQ cI cJ aP bT bR aS t) A args s) 5 0 0 (wQ cI cJ aP bT bR aS t) [(0, .ref aP), (1, .int p1), (2, .int p2)] 0 []
  refine gw_iload_n C dX3_word_0 1 rfl ?_
  refine gw_if_ge (tgt := 14) C dX3_word_1 (by decide) h (fun c1 h => ?_) (fun c1 h => ?_)
  · refine gw_iload_n C dX3_word_14 2 rfl ?_
    refine gw_lt h (fun j2 ej2 h => ?_)
    have J2 : ∀ v2 : Unit, Rs some (.inl o) (j2 v2) → gw_G p l e (rmOfX 6 96) s m args below meth c D A (CtMT D below (gw_xn o) (wQ cI cJ aP bT bR aS t) A args s) 5 0 0 (wQ cI cJ aP bT bR aS t) [] 24 [] := by
      intro v2 h
      have h := gw_app ej2 h
      have h := gw_some h
      have ho := Sum.inl.inj (Option.some.inj h)
      subst ho
      exact gw_throw (E := gw_xn 1) C XF dX3_word_24 dX3_word_27 dX3_word_28 dX3_word_30 dX3_word_33 (by decide) th1a th1b (sx168) th1c xW_1
    refine gw_if_lt (tgt := 24) C dX3_word_15 (by decide) h (fun c3 h => ?_) (fun c3 h => ?_)
    · refine gw_sub [] rfl ?_
      exact J2 _ h
    · refine gw_iload_n C dX3_word_18 2 rfl ?_
      refine gw_bipush (v := (12 : Int32)) C dX3_word_19 rfl ?_
      refine gw_icmp_le (tgt := 34) C dX3_word_21 (by decide) h (fun c4 h => ?_) (fun c4 h => ?_)
      · refine gw_aload_n C dX3_word_34 0 rfl ?_
        refine gw_get C dX3_word_35 0 2 0 rfl rfl iX3 (by decide) f12 rfl ?_
        refine gw_iload_n C dX3_word_38 1 rfl ?_
        refine gw_bind h (fun q5 hq5 h => ?_)
        refine gw_sub_call (st2 := [.long q5]) (ws' := wQ cI cJ aP bT bR aS t) C [1, 2, 3, 4, 5, 6, 7, 8, 9, 10, 11] [0, 12, 13, 14, 15, 16, 17, 18, 19, 20, 21, 22] [0, 12, 13, 14, 15, 16, 17, 18, 19, 20, 21, 22, 1, 2, 3, 4, 5, 6, 7, 8, 9, 10, 11] rfl rfl rfl rfl (by decide) rfl rfl (run_V (rest := []) C (c_X1_wordAt l D cI cJ cO bT (qT t) p1 hq5) w_X1_wordAt 0 1 rfl rfl rfl rfl rfl (Nat.le_of_ble_eq_true rfl) dX3_word_39 ⟨Nat.zero_le _, Nat.zero_le _⟩) rfl ?_
        refine gw_lstore_n C dX3_word_42 [(3, .long q5), (0, .ref aP), (1, .int p1), (2, .int p2)] rfl (by decide) rfl ?_
        refine gw_lload_n C dX3_word_43 0 rfl ?_
        refine gw_lconst (v := (0 : Int64)) C dX3_word_44 rfl ?_
        refine gw_lcmp_eq (tgt := 57) C dX3_word_45 dX3_word_46 (by decide) h (fun c6 h => ?_) (fun c6 h => ?_)
        · refine gw_iconst (v := (-1 : Int32)) C dX3_word_57 rfl ?_
          have h := gw_some h
          cases h
        · refine gw_iload_n C dX3_word_49 3 rfl ?_
          refine gw_lload_n C dX3_word_50 0 rfl ?_
          refine gw_bind h (fun q7 hq7 h => ?_)
          refine gw_none (st2 := [.int q7, .int p2]) C (run_S (rest := [.int p2]) C (c_X2_lengthOf l D cI cJ cO q5 hq7) w_X2_lengthOf rfl rfl (Nat.le_of_ble_eq_true rfl) dX3_word_51 ⟨Nat.zero_le _, Nat.zero_le _⟩) rfl ?_
          refine gw_icmp_le (tgt := 59) C dX3_word_54 (by decide) h (fun c8 h => ?_) (fun c8 h => ?_)
          · refine gw_lload_n C dX3_word_59 0 rfl ?_
            refine gw_iload_n C dX3_word_60 3 rfl ?_
            refine gw_none (st2 := [.int (fX_letterAt q5 p2)]) C (run_S (rest := []) C (c_X2_letterAt l D cI cJ cO q5 p2 rfl) w_X2_letterAt rfl rfl (Nat.le_of_ble_eq_true rfl) dX3_word_61 ⟨Nat.zero_le _, Nat.zero_le _⟩) rfl ?_
            have h := gw_some h
            cases h
          · refine gw_iconst (v := (-1 : Int32)) C dX3_word_57 rfl ?_
            have h := gw_some h
            cases h
      · refine gw_sub [] rfl ?_
        exact J2 _ h
  · have h := gw_some h
    have ho := Sum.inl.inj (Option.some.inj h)
    subst ho
    exact gw_throw (E := gw_xn 1) C XF dX3_word_4 dX3_word_7 dX3_word_8 dX3_word_10 dX3_word_13 (by decide) th1a th1b (sx166) th1c xW_1
set_option maxHeartbeats 4000000 in
set_option maxRecDepth 100000 in
theorem c_X3_ifAdded_T (l : Launch) (D : va_G) (cI cJ cO : ClassId) (aP : Nat) (bT bR : Nat → Nat) (aS : Nat) (t : QS) (p1 : Int32) {o : Nat × QS} (h : fP_ifAdded p1 t = some (.inl o)) : CtT l D (tysA cI cJ cO) yX3_ifAdded wsX3_ifAdded (rmOfX 6 155) [.ref aP, .int p1] (wQ cI cJ aP bT bR aS t) (gw_xn o.1) (wQ cI cJ aP bT bR aS o.2) := by
  refine CtT_of (own := RX3) cX3_ifAdded 2 (some .int) (by decide +kernel) rfl rfl (Nat.le_of_ble_eq_true rfl) ?_
  intro p e s m args below meth c A C XF hnm
  have th1a : Cond.classLink RX3 34 (gw_xn 1) ∈ wsX3_ifAdded := List.mem_of_getElem? (i := 1) rfl
  have th1b : Cond.initialized (gw_xn 1) ∈ wsX3_ifAdded := List.mem_of_getElem? (i := 2) rfl
  have th1c : ∀ w ∈ (vx_atS RX3 38 (gw_xn 1) gw_ns).filter goodWord, w ∈ wsX3_ifAdded := fun w h => List.mem_cons_of_mem _ (List.mem_append_right _ h)
  have sx170 := gw_str (tx := "what is 0 to 3") XF 170 (List.mem_of_getElem? (i := 16) rfl)
  have w_X3_costOfTrial := cwV (R := (rmOfX 6 155)) (rm := rmOf 1 22) (s := s) (args := args) 2 C.1.2.2.2.2 gX3_ifAdded_X3_costOfTrial rfl rfl rfl hd_X3_costOfTrial ⟨Nat.le_of_ble_eq_true rfl, Nat.le_of_ble_eq_true rfl⟩
  have w_X3_tryToAdd := cwV (R := (rmOfX 6 155)) (rm := rmOf 5 135) (s := s) (args := args) 0 C.1.2.2.2.2 gX3_ifAdded_X3_tryToAdd rfl rfl rfl hd_X3_tryToAdd ⟨Nat.le_of_ble_eq_true rfl, Nat.le_of_ble_eq_true rfl⟩
  have h := gw_top h
  unfold fP_ifAdded at h
  show gw_G p l e (rmOfX 6 155) s m args below meth c D A (CtMT D below (gw_xn o.1) (wQ cI cJ aP bT bR aS o.2) A args s) 2 0 0 (wQ cI cJ aP bT bR aS t) [(0, .ref aP), (1, .int p1)] 0 []
  refine gw_iload_n C dX3_ifAdded_0 1 rfl ?_
  refine gw_lt h (fun j1 ej1 h => ?_)
  have J1 : ∀ v1 : Unit, Rs some (.inl o) (j1 v1) → gw_G p l e (rmOfX 6 155) s m args below meth c D A (CtMT D below (gw_xn o.1) (wQ cI cJ aP bT bR aS o.2) A args s) 2 0 0 (wQ cI cJ aP bT bR aS t) [] 9 [] := by
    intro v1 h
    have h := gw_app ej1 h
    have h := gw_some h
    have ho := Sum.inl.inj (Option.some.inj h)
    subst ho
    exact gw_throw (E := gw_xn 1) C XF dX3_ifAdded_9 dX3_ifAdded_12 dX3_ifAdded_13 dX3_ifAdded_15 dX3_ifAdded_18 (by decide) th1a th1b (sx170) th1c xW_1
  refine gw_if_lt (tgt := 9) C dX3_ifAdded_1 (by decide) h (fun c2 h => ?_) (fun c2 h => ?_)
  · refine gw_sub [] rfl ?_
    exact J1 _ h
  · refine gw_iload_n C dX3_ifAdded_4 1 rfl ?_
    refine gw_iconst (v := (3 : Int32)) C dX3_ifAdded_5 rfl ?_
    refine gw_icmp_le (tgt := 19) C dX3_ifAdded_6 (by decide) h (fun c3 h => ?_) (fun c3 h => ?_)
    · refine gw_aload_n C dX3_ifAdded_19 0 rfl ?_
      refine gw_aload_n C dX3_ifAdded_20 0 rfl ?_
      refine gw_bind h (fun q4 hq4 h => ?_)
      refine gw_whole (st2 := [.int q4.1, .ref aP]) C (run_V (rest := [.ref aP]) C (c_X3_tryToAdd l D cI cJ cO aP bT bR aS t hq4) w_X3_tryToAdd 0 2 rfl rfl rfl rfl rfl (Nat.le_of_ble_eq_true rfl) dX3_ifAdded_21 ⟨Nat.zero_le _, Nat.zero_le _⟩) rfl ?_
      refine gw_iload_n C dX3_ifAdded_24 1 rfl ?_
      refine gw_bind h (fun q5 hq5 h => ?_)
      refine gw_whole (st2 := [.int q5]) C (run_V (rest := []) C (c_X3_costOfTrial l D cI cJ cO aP bT bR aS q4.2 q4.1 p1 hq5) w_X3_costOfTrial 0 2 rfl rfl rfl rfl rfl (Nat.le_of_ble_eq_true rfl) dX3_ifAdded_25 ⟨Nat.zero_le _, Nat.zero_le _⟩) rfl ?_
      have h := gw_some h
      cases h
    · refine gw_sub [] rfl ?_
      exact J1 _ h
