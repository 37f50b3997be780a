theorem hd_X3_at : yX3_at.cls = RX3 ∧ yX3_at.cls ≠ "java/lang/invoke/MethodHandle" ∧ yX3_at.cls ≠ "java/lang/invoke/VarHandle" ∧ (parseMethodDescriptor yX3_at.desc).map (fun d => d.parameters.length) = some 2 := by decide +kernel
theorem hd_X3_put : yX3_put.cls = RX3 ∧ yX3_put.cls ≠ "java/lang/invoke/MethodHandle" ∧ yX3_put.cls ≠ "java/lang/invoke/VarHandle" ∧ (parseMethodDescriptor yX3_put.desc).map (fun d => d.parameters.length) = some 3 := by decide +kernel
/-! what a state is: for the ends, a table, the model -/
abbrev ES : Type := (Nat → Int32) × (Nat → Int64)
abbrev eU (t : ES) : Nat → Int32 := t.1
abbrev eX (t : ES) : Nat → Int64 := t.2
abbrev sEU (t : ES) (f : Nat → Int32) : ES := (f, t.2)
abbrev sEX (t : ES) (f : Nat → Int64) : ES := (t.1, f)
def tysA (cI cJ cO : ClassId) : List (ClassId × FieldType) := [(cI, .int), (cJ, .long), (cO, .object "PackedWords$Table")]
def wE (cI cJ : ClassId) (e0 e1 e2 : Nat) (t : ES) : va_W := [(e0, .inr (0, [.ref e1, .ref e2])), (e1, .inl (cI, 40, .inl (eU t))), (e2, .inl (cJ, 40, .inr (.inl (eX t))))]
abbrev nn64 (r : UInt64) : Prop := r &&& 0x7fffffffffffffff ≤ 0x7ff0000000000000
def J_at (n : Nat) (f : Nat → Int32) (i : Int32) : Int32 := if inb i n then f i.toNatClampNeg else (-1)
def J_put (n : Nat) (f : Nat → Int32) (i v : Int32) : Nat → Int32 := if inb i n then upd f i.toNatClampNeg v else f
theorem inb_of {i : Int32} {n : Nat} (hn : n < 2 ^ 31) (h1 : ¬ i < 0) (h2 : ¬ nI n ≤ i) : inb i n := by
  refine vp_in_iff.mpr ⟨?_, ?_⟩
  · rw [Int32.lt_iff_toInt_lt, Int32.toInt_zero] at h1; omega
  · rw [Int32.le_iff_toInt_le, nI_toInt hn] at h2; omega
theorem ninb_1 {i : Int32} {n : Nat} (h : i < 0) : ¬ inb i n := fun q => q (Or.inl h)
theorem ninb_2 {i : Int32} {n : Nat} (hn : n < 2 ^ 31) (h : nI n ≤ i) : ¬ inb i n := fun q => by
  have := (vp_in_iff.mp q).2
  rw [Int32.le_iff_toInt_le, nI_toInt hn] at h
  omega
theorem inb_vp {i : Int32} {n : Nat} : inb i n ↔ vp_in i n := Iff.rfl
set_option maxHeartbeats 4000000 in
set_option maxRecDepth 100000 in
theorem c_X3_at (l : Launch) (D : va_G) (cI cJ cO : ClassId) (a n : Nat) (f : Nat → Int32) (i : Int32) (hn : n < 2 ^ 31) : Ct l D (tysA cI cJ cO) yX3_at wsX3_at (rmOf 0 0) [.ref a, .int i] [(a, .inl (cI, n, .inl f))] (some (.int (J_at n f i))) [(a, .inl (cI, n, .inl f))] := by
  refine Ct_of (own := RX3) cX3_at 2 (some .int) (by decide +kernel) rfl rfl (Nat.le_of_ble_eq_true rfl) ?_
  intro p e s m args below meth c A C hnm
  show gw_G p l e (rmOf 0 0) s m args below meth c D A (CtM D below (some (.int (J_at n f i))) [(a, .inl (cI, n, .inl f))] A args s) 2 0 0 [(a, .inl (cI, n, .inl f))] [(0, .ref a), (1, .int i)] 0 []
  refine gw_iload_n C dX3_at_0 1 rfl ?_
  refine gw_if_lt (Φ := fun _ : Unit => True) (X := ()) (Y := ()) (tgt := 16) C dX3_at_1 (by decide) trivial (fun c1 _ => ?_) (fun c1 _ => ?_)
  · refine gw_iconst (v := (-1 : Int32)) C dX3_at_16 rfl ?_
    rw [show J_at n f i = -1 from if_neg (ninb_1 c1)]
    exact gw_iret C dX3_at_17
  · refine gw_iload_n C dX3_at_4 1 rfl ?_
    refine gw_aload_n C dX3_at_5 0 rfl ?_
    refine gw_alen (v := nI n) C dX3_at_6 0 0 rfl rfl rfl ?_
    refine gw_icmp_ge (Φ := fun _ : Unit => True) (X := ()) (Y := ()) (tgt := 16) C dX3_at_7 (by decide) trivial (fun c2 _ => ?_) (fun c2 _ => ?_)
    · refine gw_iconst (v := (-1 : Int32)) C dX3_at_16 rfl ?_
      rw [show J_at n f i = -1 from if_neg (ninb_2 hn c2)]
      exact gw_iret C dX3_at_17
    · have hi : inb i n := inb_of hn c1 c2
      refine gw_aload_n C dX3_at_10 0 rfl ?_
      refine gw_iload_n C dX3_at_11 1 rfl ?_
      refine gw_iald C dX3_at_12 0 0 rfl rfl hi ?_
      refine gw_goto (tgt := 17) C dX3_at_13 (by decide) ?_
      rw [show J_at n f i = f i.toNatClampNeg from if_pos hi]
      exact gw_iret C dX3_at_17
set_option maxHeartbeats 4000000 in
set_option maxRecDepth 100000 in
theorem c_X3_put (l : Launch) (D : va_G) (cI cJ cO : ClassId) (a n : Nat) (f : Nat → Int32) (i v : Int32) (hn : n < 2 ^ 31) : Ct l D (tysA cI cJ cO) yX3_put wsX3_put (rmOf 0 0) [.ref a, .int i, .int v] [(a, .inl (cI, n, .inl f))] none [(a, .inl (cI, n, .inl (J_put n f i v)))] := by
  refine Ct_of (own := RX3) cX3_put 3 none (by decide +kernel) rfl rfl (Nat.le_of_ble_eq_true rfl) ?_
  intro p e s m args below meth c A C hnm
  show gw_G p l e (rmOf 0 0) s m args below meth c D A (CtM D below none [(a, .inl (cI, n, .inl (J_put n f i v)))] A args s) 3 0 0 [(a, .inl (cI, n, .inl f))] [(0, .ref a), (1, .int i), (2, .int v)] 0 []
  refine gw_iload_n C dX3_put_0 1 rfl ?_
  refine gw_if_lt (Φ := fun _ : Unit => True) (X := ()) (Y := ()) (tgt := 14) C dX3_put_1 (by decide) trivial (fun c1 _ => ?_) (fun c1 _ => ?_)
  · rw [show J_put n f i v = f from if_neg (ninb_1 c1)]
    exact gw_vret C dX3_put_14
  · refine gw_iload_n C dX3_put_4 1 rfl ?_
    refine gw_aload_n C dX3_put_5 0 rfl ?_
    refine gw_alen (v := nI n) C dX3_put_6 0 0 rfl rfl rfl ?_
    refine gw_icmp_ge (Φ := fun _ : Unit => True) (X := ()) (Y := ()) (tgt := 14) C dX3_put_7 (by decide) trivial (fun c2 _ => ?_) (fun c2 _ => ?_)
    · rw [show J_put n f i v = f from if_neg (ninb_2 hn c2)]
      exact gw_vret C dX3_put_14
    · have hi : inb i n := inb_of hn c1 c2
      refine gw_aload_n C dX3_put_10 0 rfl ?_
      refine gw_iload_n C dX3_put_11 1 rfl ?_
      refine gw_iload_n C dX3_put_12 2 rfl ?_
      refine gw_iast (ws' := [(a, .inl (cI, n, .inl (upd f i.toNatClampNeg v)))]) C dX3_put_13 0 0 rfl rfl hi rfl ?_
      rw [show J_put n f i v = upd f i.toNatClampNeg v from if_pos hi]
      exact gw_vret C dX3_put_14
def fX_firstOf (p1 : Int64) : Int32 :=
 (p1 &&& (15 : Int64)).toInt32
def fX_withoutFirst (p1 : Int64) : Int64 :=
 (p1.toUInt64 >>> ((4 : Int32).toInt64.toUInt64 &&& Int64.toUInt64 63)).toInt64
def fX_letterAt (p1 : Int64) (p2 : Int32) : Int32 :=
 gw_let (fX_firstOf ((p1.toUInt64 >>> (((4 : Int32) * p2).toInt64.toUInt64 &&& Int64.toUInt64 63)).toInt64)) fun q1 =>
 q1
def fX_withLetter (p1 : Int64) (p2 : Int32) (p3 : Int32) : Int64 :=
 (p1 ||| (p3.toInt64 <<< (((4 : Int32) * p2).toInt64 &&& 63)))
def fX_startOf (p1 : Int64) (p2 : Int32) : Int64 :=
 (p1 &&& (((1 : Int64) <<< (((4 : Int32) * p2).toInt64 &&& 63)) - (1 : Int64)))
def fX_lengthOf (p1 : Int64) : Option Int32 :=
 (gw_lp (σ := Int32 × Int32) (ω := Int32) (fun x1 =>
  if (12 : Int32) ≤ x1.2 then
   some (.inl x1.1)
  else
   if (fX_letterAt p1 x1.2) = 0 then
    some (.inr (x1.1, (x1.2 + (1 : Int32))))
   else
    some (.inr ((x1.1 + (1 : Int32)), (x1.2 + (1 : Int32))))
 ) gw_fl ((0 : Int32), (0 : Int32))).bind fun v1 =>
 some v1
def fX_begins (p1 : Int64) (p2 : Int64) : Option Int32 :=
 (fX_lengthOf p2).bind fun q1 =>
 if (fX_startOf p1 q1) = p2 then
  some (1 : Int32)
 else
  some (0 : Int32)
def fX_isAhead (p1 : Int64) (p2 : Int64) : Option Int32 :=
 gw_lp (σ := Int32) (ω := Int32) (fun x1 =>
  if (12 : Int32) ≤ x1 then
   some (.inl (0 : Int32))
  else
   gw_let (fX_letterAt p1 x1) fun v3 =>
   gw_let (fX_letterAt p2 x1) fun v4 =>
   if v3 = v4 then
    some (.inr (x1 + (1 : Int32)))
   else
    if v4 ≤ v3 then
     some (.inl (0 : Int32))
    else
     some (.inl (1 : Int32))
 ) gw_fl (0 : Int32)
def fE_usesOf (p1 : Int32) (t : ES) : Int32 :=
 (J_at 40 (eU t) p1)
def fE_textAt (p1 : Int32) (t : ES) : Option Int64 :=
 gw_let (α := Unit → Option Int64) (fun v1 =>
  some (0 : Int64)
 ) fun j1 =>
 if p1 < 0 then
  j1 ()
 else
  if (40 : Int32) ≤ p1 then
   j1 ()
  else
   if inb p1 40 then
   some (eX t p1.toNatClampNeg)
   else none
def fE_placeFor (p1 : Int64) (t : ES) : Option Int32 :=
 gw_lp (σ := Int32 × Int32) (ω := Int32) (fun x1 =>
  if (40 : Int32) ≤ x1.2 then
   some (.inl x1.1)
  else
   if (40 : Int32) ≤ x1.2 then
    some (.inl x1.1)
   else
    if inb x1.2 40 then
    if (eU t x1.2.toNatClampNeg) ≤ 0 then
     if x1.1 = (-1 : Int32) then
      some (.inr (x1.2, (x1.2 + (1 : Int32))))
     else
      some (.inr (x1.1, (x1.2 + (1 : Int32))))
    else
     if inb x1.2 40 then
     if (eX t x1.2.toNatClampNeg) = p1 then
      some (.inl x1.2)
     else
      some (.inr (x1.1, (x1.2 + (1 : Int32))))
     else none
    else none
 ) gw_fl ((-1 : Int32), (0 : Int32))
def fE_keep (p1 : Int64) (t : ES) : Option (Int32 × ES) :=
 (fE_placeFor p1 t).bind fun q1 =>
 if q1 < 0 then
  some (q1, t)
 else
  if (40 : Int32) ≤ q1 then
   some (q1, t)
  else
   if inb q1 40 then
   gw_let (sEX t (vp_updL (eX t) q1.toNatClampNeg p1)) fun t5 =>
   gw_let (sEU t5 (J_put 40 (eU t5) q1 ((J_at 40 (eU t5) q1) + (1 : Int32)))) fun t6 =>
   some (q1, t6)
   else none
def fE_release (p1 : Int32) (t : ES) : Option ES :=
 gw_let ((J_at 40 (eU t) p1) - (1 : Int32)) fun v1 =>
 gw_let (α := ES → Option ES) (fun v2 =>
  if v1 = 0 then
   if p1 < 0 then
    some v2
   else
    if (40 : Int32) ≤ p1 then
     some v2
    else
     if inb p1 40 then
     gw_let (sEX v2 (vp_updL (eX v2) p1.toNatClampNeg (0 : Int64))) fun t9 =>
     some t9
     else none
  else
   some v2
 ) fun j2 =>
 if v1 < 0 then
  j2 t
 else
  gw_let (sEU t (J_put 40 (eU t) p1 v1)) fun t4 =>
  j2 t4
def fE_kept  (t : ES) : Option Int32 :=
 (gw_lp (σ := Int32 × Int32) (ω := Int32) (fun x1 =>
  if (40 : Int32) ≤ x1.2 then
   some (.inl x1.1)
  else
   if inb x1.2 40 then
   if (eU t x1.2.toNatClampNeg) ≤ 0 then
    some (.inr (x1.1, (x1.2 + (1 : Int32))))
   else
    some (.inr ((x1.1 + (1 : Int32)), (x1.2 + (1 : Int32))))
   else none
 ) gw_fl ((0 : Int32), (0 : Int32))).bind fun v1 =>
 some v1
def fE_letters  (t : ES) : Option Int32 :=
 (gw_lp (σ := Int32 × Int32) (ω := Int32) (fun x1 =>
  if (40 : Int32) ≤ x1.2 then
   some (.inl x1.1)
  else
   if inb x1.2 40 then
   (fX_lengthOf (eX t x1.2.toNatClampNeg)).bind fun q4 =>
   gw_let (x1.1 + q4) fun v5 =>
   some (.inr (v5, (x1.2 + (1 : Int32))))
   else none
 ) gw_fl ((0 : Int32), (0 : Int32))).bind fun v1 =>
 some v1
theorem hd_X2_firstOf : yX2_firstOf.cls = RX2 ∧ yX2_firstOf.cls ≠ "java/lang/invoke/MethodHandle" ∧ yX2_firstOf.cls ≠ "java/lang/invoke/VarHandle" ∧ (parseMethodDescriptor yX2_firstOf.desc).map (fun d => d.parameters.length) = some 1 := by decide +kernel
set_option maxHeartbeats 4000000 in
set_option maxRecDepth 100000 in
theorem c_X2_firstOf (l : Launch) (D : va_G) (cI cJ cO : ClassId) (p1 : Int64) {o : Int32} (h : fX_firstOf p1 = o) : Ct l D (tysA cI cJ cO) yX2_firstOf wsX2_firstOf (rmOf 0 0) [.long p1] ([]) (some (.int o)) ([]) := by
  refine Ct_of (own := RX2) cX2_firstOf 2 (some .int) (by decide +kernel) rfl rfl (Nat.le_of_ble_eq_true rfl) ?_
  intro p e s m args below meth c A C hnm
  have k11 : Cond.constantLong RX2 11 (15 : Int64) ∈ wsX2_firstOf := List.mem_of_getElem? (i := 1) rfl
  have h : Rt o (fX_firstOf p1) := h
  unfold fX_firstOf at h
  show gw_G p l e (rmOf 0 0) s m args below meth c D A (CtM D below (some (.int o)) ([]) A args s) 2 0 0 ([]) [(0, .long p1)] 0 []
  refine gw_lload_n C dX2_firstOf_0 0 rfl ?_
  refine gw_ldc2 C dX2_firstOf_1 k11 ?_
  refine gw_land C dX2_firstOf_4 ?_
  refine gw_l2i C dX2_firstOf_5 ?_
  have ho : _ = o := h
  subst ho
  exact gw_iret C dX2_firstOf_6
theorem hd_X2_withoutFirst : yX2_withoutFirst.cls = RX2 ∧ yX2_withoutFirst.cls ≠ "java/lang/invoke/MethodHandle" ∧ yX2_withoutFirst.cls ≠ "java/lang/invoke/VarHandle" ∧ (parseMethodDescriptor yX2_withoutFirst.desc).map (fun d => d.parameters.length) = some 1 := by decide +kernel
set_option maxHeartbeats 4000000 in
set_option maxRecDepth 100000 in
theorem c_X2_withoutFirst (l : Launch) (D : va_G) (cI cJ cO : ClassId) (p1 : Int64) {o : Int64} (h : fX_withoutFirst p1 = o) : Ct l D (tysA cI cJ cO) yX2_withoutFirst wsX2_withoutFirst (rmOf 0 0) [.long p1] ([]) (some (.long o)) ([]) := by
  refine Ct_of (own := RX2) cX2_withoutFirst 2 (some .long) (by decide +kernel) rfl rfl (Nat.le_of_ble_eq_true rfl) ?_
  intro p e s m args below meth c A C hnm
  have h : Rt o (fX_withoutFirst p1) := h
  unfold fX_withoutFirst at h
  show gw_G p l e (rmOf 0 0) s m args below meth c D A (CtM D below (some (.long o)) ([]) A args s) 2 0 0 ([]) [(0, .long p1)] 0 []
  refine gw_lload_n C dX2_withoutFirst_0 0 rfl ?_
  refine gw_iconst (v := (4 : Int32)) C dX2_withoutFirst_1 rfl ?_
  refine gw_lushr C dX2_withoutFirst_2 ?_
  have ho : _ = o := h
  subst ho
  exact gw_lret C dX2_withoutFirst_3
theorem hd_X2_letterAt : yX2_letterAt.cls = RX2 ∧ yX2_letterAt.cls ≠ "java/lang/invoke/MethodHandle" ∧ yX2_letterAt.cls ≠ "java/lang/invoke/VarHandle" ∧ (parseMethodDescriptor yX2_letterAt.desc).map (fun d => d.parameters.length) = some 2 := by decide +kernel
set_option maxHeartbeats 4000000 in
set_option maxRecDepth 100000 in
theorem c_X2_letterAt (l : Launch) (D : va_G) (cI cJ cO : ClassId) (p1 : Int64) (p2 : Int32) {o : Int32} (h : fX_letterAt p1 p2 = o) : Ct l D (tysA cI cJ cO) yX2_letterAt wsX2_letterAt (rmOf 1 21) [.long p1, .int p2] ([]) (some (.int o)) ([]) := by
  refine Ct_of (own := RX2) cX2_letterAt 3 (some .int) (by decide +kernel) rfl rfl (Nat.le_of_ble_eq_true rfl) ?_
  intro p e s m args below meth c A C hnm
  have w_X2_firstOf := va_cwS (R := (rmOf 1 21)) (rm := rmOf 0 0) (s := s) (args := args) 1 C.1.2.2.2.2 gX2_letterAt_X2_firstOf rfl rfl rfl hd_X2_firstOf.2 ⟨Nat.le_of_ble_eq_true rfl, Nat.le_of_ble_eq_true rfl⟩
  have h : Rt o (fX_letterAt p1 p2) := h
  unfold fX_letterAt at h
  show gw_G p l e (rmOf 1 21) s m args below meth c D A (CtM D below (some (.int o)) ([]) A args s) 3 0 0 ([]) [(0, .long p1), (2, .int p2)] 0 []
  refine gw_lload_n C dX2_letterAt_0 0 rfl ?_
  refine gw_iconst (v := (4 : Int32)) C dX2_letterAt_1 rfl ?_
  refine gw_iload_n C dX2_letterAt_2 1 rfl ?_
  refine gw_imul C dX2_letterAt_3 ?_
  refine gw_lushr C dX2_letterAt_4 ?_
  refine gw_lt h (fun q1 hq1 h => ?_)
  refine gw_none (st2 := [.int q1]) C (run_S (rest := []) C (c_X2_firstOf l D cI cJ cO ((p1.toUInt64 >>> (((4 : Int32) * p2).toInt64.toUInt64 &&& Int64.toUInt64 63)).toInt64) hq1) w_X2_firstOf rfl rfl (Nat.le_of_ble_eq_true rfl) dX2_letterAt_5 ⟨Nat.zero_le _, Nat.zero_le _⟩) rfl ?_
  have ho : _ = o := h
  subst ho
  exact gw_iret C dX2_letterAt_8
theorem hd_X2_withLetter : yX2_withLetter.cls = RX2 ∧ yX2_withLetter.cls ≠ "java/lang/invoke/MethodHandle" ∧ yX2_withLetter.cls ≠ "java/lang/invoke/VarHandle" ∧ (parseMethodDescriptor yX2_withLetter.desc).map (fun d => d.parameters.length) = some 3 := by decide +kernel
set_option maxHeartbeats 4000000 in
set_option maxRecDepth 100000 in
theorem c_X2_withLetter (l : Launch) (D : va_G) (cI cJ cO : ClassId) (p1 : Int64) (p2 : Int32) (p3 : Int32) {o : Int64} (h : fX_withLetter p1 p2 p3 = o) : Ct l D (tysA cI cJ cO) yX2_withLetter wsX2_withLetter (rmOf 0 0) [.long p1, .int p2, .int p3] ([]) (some (.long o)) ([]) := by
  refine Ct_of (own := RX2) cX2_withLetter 4 (some .long) (by decide +kernel) rfl rfl (Nat.le_of_ble_eq_true rfl) ?_
  intro p e s m args below meth c A C hnm
  have h : Rt o (fX_withLetter p1 p2 p3) := h
  unfold fX_withLetter at h
  show gw_G p l e (rmOf 0 0) s m args below meth c D A (CtM D below (some (.long o)) ([]) A args s) 4 0 0 ([]) [(0, .long p1), (2, .int p2), (3, .int p3)] 0 []
  refine gw_lload_n C dX2_withLetter_0 0 rfl ?_
  refine gw_iload_n C dX2_withLetter_1 2 rfl ?_
  refine gw_i2l C dX2_withLetter_2 ?_
  refine gw_iconst (v := (4 : Int32)) C dX2_withLetter_3 rfl ?_
  refine gw_iload_n C dX2_withLetter_4 1 rfl ?_
  refine gw_imul C dX2_withLetter_5 ?_
  refine gw_lshl C dX2_withLetter_6 ?_
  refine gw_lor C dX2_withLetter_7 ?_
  have ho : _ = o := h
  subst ho
  exact gw_lret C dX2_withLetter_8
theorem hd_X2_startOf : yX2_startOf.cls = RX2 ∧ yX2_startOf.cls ≠ "java/lang/invoke/MethodHandle" ∧ yX2_startOf.cls ≠ "java/lang/invoke/VarHandle" ∧ (parseMethodDescriptor yX2_startOf.desc).map (fun d => d.parameters.length) = some 2 := by decide +kernel
set_option maxHeartbeats 4000000 in
set_option maxRecDepth 100000 in
theorem c_X2_startOf (l : Launch) (D : va_G) (cI cJ cO : ClassId) (p1 : Int64) (p2 : Int32) {o : Int64} (h : fX_startOf p1 p2 = o) : Ct l D (tysA cI cJ cO) yX2_startOf wsX2_startOf (rmOf 0 0) [.long p1, .int p2] ([]) (some (.long o)) ([]) := by
  refine Ct_of (own := RX2) cX2_startOf 3 (some .long) (by decide +kernel) rfl rfl (Nat.le_of_ble_eq_true rfl) ?_
  intro p e s m args below meth c A C hnm
  have h : Rt o (fX_startOf p1 p2) := h
  unfold fX_startOf at h
  show gw_G p l e (rmOf 0 0) s m args below meth c D A (CtM D below (some (.long o)) ([]) A args s) 3 0 0 ([]) [(0, .long p1), (2, .int p2)] 0 []
  refine gw_lload_n C dX2_startOf_0 0 rfl ?_
  refine gw_lconst (v := (1 : Int64)) C dX2_startOf_1 rfl ?_
  refine gw_iconst (v := (4 : Int32)) C dX2_startOf_2 rfl ?_
  refine gw_iload_n C dX2_startOf_3 1 rfl ?_
  refine gw_imul C dX2_startOf_4 ?_
  refine gw_lshl C dX2_startOf_5 ?_
  refine gw_lconst (v := (1 : Int64)) C dX2_startOf_6 rfl ?_
  refine gw_lsub C dX2_startOf_7 ?_
  refine gw_land C dX2_startOf_8 ?_
  have ho : _ = o := h
  subst ho
  exact gw_lret C dX2_startOf_9
theorem hd_X2_lengthOf : yX2_lengthOf.cls = RX2 ∧ yX2_lengthOf.cls ≠ "java/lang/invoke/MethodHandle" ∧ yX2_lengthOf.cls ≠ "java/lang/invoke/VarHandle" ∧ (parseMethodDescriptor yX2_lengthOf.desc).map (fun d => d.parameters.length) = some 1 := by decide +kernel
set_option maxHeartbeats 4000000 in
set_option maxRecDepth 100000 in
theorem c_X2_lengthOf (l : Launch) (D : va_G) (cI cJ cO : ClassId) (p1 : Int64) {o : Int32} (h : fX_lengthOf p1 = some o) : Ct l D (tysA cI cJ cO) yX2_lengthOf wsX2_lengthOf (rmOf 2 43) [.long p1] ([]) (some (.int o)) ([]) := by
  refine Ct_of (own := RX2) cX2_lengthOf 4 (some .int) (by decide +kernel) rfl rfl (Nat.le_of_ble_eq_true rfl) ?_
  intro p e s m args below meth c A C hnm
  have w_X2_letterAt := va_cwS (R := (rmOf 2 43)) (rm := rmOf 1 21) (s := s) (args := args) 2 C.1.2.2.2.2 gX2_lengthOf_X2_letterAt rfl rfl rfl hd_X2_letterAt.2 ⟨Nat.le_of_ble_eq_true rfl, Nat.le_of_ble_eq_true rfl⟩
  have h := gw_top h
  unfold fX_lengthOf at h
  show gw_G p l e (rmOf 2 43) s m args below meth c D A (CtM D below (some (.int o)) ([]) A args s) 4 0 0 ([]) [(0, .long p1)] 0 []
  refine gw_iconst (v := (0 : Int32)) C dX2_lengthOf_0 rfl ?_
  refine gw_istore_n C dX2_lengthOf_1 [(2, .int (0 : Int32)), (0, .long p1)] rfl (by decide) rfl ?_
  refine gw_iconst (v := (0 : Int32)) C dX2_lengthOf_2 rfl ?_
  refine gw_istore_n C dX2_lengthOf_3 [(3, .int (0 : Int32)), (2, .int (0 : Int32)), (0, .long p1)] rfl (by decide) rfl ?_
  refine gw_sub [2, 1, 0] rfl ?_
  refine gw_lpb (x0 := ((0 : Int32), (0 : Int32))) (Go := fun x1 : Int32 × Int32 => gw_G p l e (rmOf 2 43) s m args below meth c D A (CtM D below (some (.int o)) ([]) A args s) 4 0 0 ([]) [(0, .long p1), (2, .int x1.1), (3, .int x1.2)] 4 []) (GoX := fun v1 : Int32 => gw_G p l e (rmOf 2 43) s m args below meth c D A (CtM D below (some (.int o)) ([]) A args s) 4 0 0 ([]) [(2, .int v1)] 27 []) h (fun v1 h => ?_) (fun x1 K1 X1 I1 h => ?_)
  · refine gw_iload_n C dX2_lengthOf_27 0 rfl ?_
    have h := gw_some h
    have ho := Option.some.inj h
    subst ho
    exact gw_iret C dX2_lengthOf_28
  · refine gw_iload_n C dX2_lengthOf_4 2 rfl ?_
    refine gw_bipush (v := (12 : Int32)) C dX2_lengthOf_5 rfl ?_
    refine gw_icmp_ge (tgt := 27) C dX2_lengthOf_7 (by decide) h (fun c2 h => ?_) (fun c2 h => ?_)
    · refine gw_sub [1] rfl ?_
      have h := gw_some h
      exact X1 _ h
    · refine gw_lload_n C dX2_lengthOf_10 0 rfl ?_
      refine gw_iload_n C dX2_lengthOf_11 2 rfl ?_
      refine gw_none (st2 := [.int (fX_letterAt p1 x1.2)]) C (run_S (rest := []) C (c_X2_letterAt l D cI cJ cO p1 x1.2 rfl) w_X2_letterAt rfl rfl (Nat.le_of_ble_eq_true rfl) dX2_lengthOf_12 ⟨Nat.zero_le _, Nat.zero_le _⟩) rfl ?_
      refine gw_if_eq (tgt := 21) C dX2_lengthOf_15 (by decide) h (fun c3 h => ?_) (fun c3 h => ?_)
      · refine gw_iinc (v := (x1.2 + (1 : Int32))) C dX2_lengthOf_21 [(3, .int (x1.2 + (1 : Int32))), (0, .long p1), (2, .int x1.1)] 2 rfl rfl (by decide) rfl ?_
        refine gw_goto (tgt := 4) C dX2_lengthOf_24 (by decide) ?_
        refine gw_sub [1, 2, 0] rfl ?_
        have h := gw_some h
        exact I1 _ h
      · refine gw_iinc (v := (x1.1 + (1 : Int32))) C dX2_lengthOf_18 [(2, .int (x1.1 + (1 : Int32))), (0, .long p1), (3, .int x1.2)] 1 rfl rfl (by decide) rfl ?_
        refine gw_iinc (v := (x1.2 + (1 : Int32))) C dX2_lengthOf_21 [(3, .int (x1.2 + (1 : Int32))), (2, .int (x1.1 + (1 : Int32))), (0, .long p1)] 2 rfl rfl (by decide) rfl ?_
        refine gw_goto (tgt := 4) C dX2_lengthOf_24 (by decide) ?_
        refine gw_sub [2, 1, 0] rfl ?_
        have h := gw_some h
        exact I1 _ h
theorem hd_X2_begins : yX2_begins.cls = RX2 ∧ yX2_begins.cls ≠ "java/lang/invoke/MethodHandle" ∧ yX2_begins.cls ≠ "java/lang/invoke/VarHandle" ∧ (parseMethodDescriptor yX2_begins.desc).map (fun d => d.parameters.length) = some 2 := by decide +kernel
set_option maxHeartbeats 4000000 in
set_option maxRecDepth 100000 in
theorem c_X2_begins (l : Launch) (D : va_G) (cI cJ cO : ClassId) (p1 : Int64) (p2 : Int64) {o : Int32} (h : fX_begins p1 p2 = some o) : Ct l D (tysA cI cJ cO) yX2_begins wsX2_begins (rmOf 3 66) [.long p1, .long p2] ([]) (some (.int o)) ([]) := by
  refine Ct_of (own := RX2) cX2_begins 4 (some .boolean) (by decide +kernel) rfl rfl (Nat.le_of_ble_eq_true rfl) ?_
  intro p e s m args below meth c A C hnm
  have w_X2_lengthOf := va_cwS (R := (rmOf 3 66)) (rm := rmOf 2 43) (s := s) (args := args) 1 C.1.2.2.2.2 gX2_begins_X2_lengthOf rfl rfl rfl hd_X2_lengthOf.2 ⟨Nat.le_of_ble_eq_true rfl, Nat.le_of_ble_eq_true rfl⟩
  have w_X2_startOf := va_cwS (R := (rmOf 3 66)) (rm := rmOf 0 0) (s := s) (args := args) 2 C.1.2.2.2.2 gX2_begins_X2_startOf rfl rfl rfl hd_X2_startOf.2 ⟨Nat.le_of_ble_eq_true rfl, Nat.le_of_ble_eq_true rfl⟩
  have h := gw_top h
  unfold fX_begins at h
  show gw_G p l e (rmOf 3 66) s m args below meth c D A (CtM D below (some (.int o)) ([]) A args s) 4 0 0 ([]) [(0, .long p1), (2, .long p2)] 0 []
  refine gw_lload_n C dX2_begins_0 0 rfl ?_
  refine gw_lload_n C dX2_begins_1 1 rfl ?_
  refine gw_bind h (fun q1 hq1 h => ?_)
  refine gw_none (st2 := [.int q1, .long p1]) C (run_S (rest := [.long p1]) C (c_X2_lengthOf l D cI cJ cO p2 hq1) w_X2_lengthOf rfl rfl (Nat.le_of_ble_eq_true rfl) dX2_begins_2 ⟨Nat.zero_le _, Nat.zero_le _⟩) rfl ?_
  refine gw_none (st2 := [.long (fX_startOf p1 q1)]) C (run_S (rest := []) C (c_X2_startOf l D cI cJ cO p1 q1 rfl) w_X2_startOf rfl rfl (Nat.le_of_ble_eq_true rfl) dX2_begins_5 ⟨Nat.zero_le _, Nat.zero_le _⟩) rfl ?_
  refine gw_lload_n C dX2_begins_8 1 rfl ?_
  refine gw_lcmp_ne (tgt := 17) C dX2_begins_9 dX2_begins_10 (by decide) h (fun c2 h => ?_) (fun c2 h => ?_)
  · refine gw_iconst (v := (1 : Int32)) C dX2_begins_13 rfl ?_
    refine gw_goto (tgt := 18) C dX2_begins_14 (by decide) ?_
    have h := gw_some h
    have ho := Option.some.inj h
    subst ho
    exact gw_zret C (Or.inr rfl) dX2_begins_18
  · refine gw_iconst (v := (0 : Int32)) C dX2_begins_17 rfl ?_
    have h := gw_some h
    have ho := Option.some.inj h
    subst ho
    exact gw_zret C (Or.inl rfl) dX2_begins_18
theorem hd_X2_isAhead : yX2_isAhead.cls = RX2 ∧ yX2_isAhead.cls ≠ "java/lang/invoke/MethodHandle" ∧ yX2_isAhead.cls ≠ "java/lang/invoke/VarHandle" ∧ (parseMethodDescriptor yX2_isAhead.desc).map (fun d => d.parameters.length) = some 2 := by decide +kernel
set_option maxHeartbeats 4000000 in
set_option maxRecDepth 100000 in
theorem c_X2_isAhead (l : Launch) (D : va_G) (cI cJ cO : ClassId) (p1 : Int64) (p2 : Int64) {o : Int32} (h : fX_isAhead p1 p2 = some o) : Ct l D (tysA cI cJ cO) yX2_isAhead wsX2_isAhead (rmOf 2 43) [.long p1, .long p2] ([]) (some (.int o)) ([]) := by
  refine Ct_of (own := RX2) cX2_isAhead 7 (some .boolean) (by decide +kernel) rfl rfl (Nat.le_of_ble_eq_true rfl) ?_
  intro p e s m args below meth c A C hnm
  have w_X2_letterAt := va_cwS (R := (rmOf 2 43)) (rm := rmOf 1 21) (s := s) (args := args) 2 C.1.2.2.2.2 gX2_isAhead_X2_letterAt rfl rfl rfl hd_X2_letterAt.2 ⟨Nat.le_of_ble_eq_true rfl, Nat.le_of_ble_eq_true rfl⟩
  have h := gw_top h
  unfold fX_isAhead at h
  show gw_G p l e (rmOf 2 43) s m args below meth c D A (CtM D below (some (.int o)) ([]) A args s) 7 0 0 ([]) [(0, .long p1), (2, .long p2)] 0 []
  refine gw_iconst (v := (0 : Int32)) C dX2_isAhead_0 rfl ?_
  refine gw_istore C dX2_isAhead_1 [(4, .int (0 : Int32)), (0, .long p1), (2, .long p2)] (by decide) rfl ?_
  refine gw_sub [1, 2, 0] rfl ?_
  refine gw_lpt (x0 := (0 : Int32)) (Go := fun x1 : Int32 => gw_G p l e (rmOf 2 43) s m args below meth c D A (CtM D below (some (.int o)) ([]) A args s) 7 0 0 ([]) [(0, .long p1), (2, .long p2), (4, .int x1)] 3 []) h (fun x1 K1 X1 I1 h => ?_)
  refine gw_iload C dX2_isAhead_3 2 rfl ?_
  refine gw_bipush (v := (12 : Int32)) C dX2_isAhead_5 rfl ?_
  refine gw_icmp_ge (tgt := 52) C dX2_isAhead_7 (by decide) h (fun c2 h => ?_) (fun c2 h => ?_)
  · refine gw_iconst (v := (0 : Int32)) C dX2_isAhead_52 rfl ?_
    have h := gw_some h
    have h := X1 _ h
    have ho := Option.some.inj h
    subst ho
    exact gw_zret C (Or.inl rfl) dX2_isAhead_53
  · refine gw_lload_n C dX2_isAhead_10 0 rfl ?_
    refine gw_iload C dX2_isAhead_11 2 rfl ?_
    refine gw_none (st2 := [.int (fX_letterAt p1 x1)]) C (run_S (rest := []) C (c_X2_letterAt l D cI cJ cO p1 x1 rfl) w_X2_letterAt rfl rfl (Nat.le_of_ble_eq_true rfl) dX2_isAhead_13 ⟨Nat.zero_le _, Nat.zero_le _⟩) rfl ?_
    refine gw_lt h (fun v3 ev3 h => ?_)
    rw [ev3]
    refine gw_istore C dX2_isAhead_16 [(5, .int v3), (0, .long p1), (2, .long p2), (4, .int x1)] (by decide) rfl ?_
    refine gw_lload_n C dX2_isAhead_18 2 rfl ?_
    refine gw_iload C dX2_isAhead_19 3 rfl ?_
    refine gw_none (st2 := [.int (fX_letterAt p2 x1)]) C (run_S (rest := []) C (c_X2_letterAt l D cI cJ cO p2 x1 rfl) w_X2_letterAt rfl rfl (Nat.le_of_ble_eq_true rfl) dX2_isAhead_21 ⟨Nat.zero_le _, Nat.zero_le _⟩) rfl ?_
    refine gw_lt h (fun v4 ev4 h => ?_)
    rw [ev4]
    refine gw_istore C dX2_isAhead_24 [(6, .int v4), (5, .int v3), (0, .long p1), (2, .long p2), (4, .int x1)] (by decide) rfl ?_
    refine gw_iload C dX2_isAhead_26 1 rfl ?_
    refine gw_iload C dX2_isAhead_28 0 rfl ?_
    refine gw_icmp_eq (tgt := 46) C dX2_isAhead_30 (by decide) h (fun c5 h => ?_) (fun c5 h => ?_)
    · refine gw_iinc (v := (x1 + (1 : Int32))) C dX2_isAhead_46 [(4, .int (x1 + (1 : Int32))), (6, .int v4), (5, .int v3), (0, .long p1), (2, .long p2)] 4 rfl rfl (by decide) rfl ?_
      refine gw_goto (tgt := 3) C dX2_isAhead_49 (by decide) ?_
      refine gw_sub [3, 4, 0] rfl ?_
      have h := gw_some h
      exact I1 _ h
    · refine gw_iload C dX2_isAhead_33 1 rfl ?_
      refine gw_iload C dX2_isAhead_35 0 rfl ?_
      refine gw_icmp_ge (tgt := 44) C dX2_isAhead_37 (by decide) h (fun c6 h => ?_) (fun c6 h => ?_)
      · refine gw_iconst (v := (0 : Int32)) C dX2_isAhead_44 rfl ?_
        have h := gw_some h
        have h := X1 _ h
        have ho := Option.some.inj h
        subst ho
        exact gw_zret C (Or.inl rfl) dX2_isAhead_45
      · refine gw_iconst (v := (1 : Int32)) C dX2_isAhead_40 rfl ?_
        refine gw_goto (tgt := 45) C dX2_isAhead_41 (by decide) ?_
        have h := gw_some h
        have h := X1 _ h
        have ho := Option.some.inj h
        subst ho
        exact gw_zret C (Or.inr rfl) dX2_isAhead_45
theorem hd_X0_usesOf : yX0_usesOf.cls = RX0 ∧ yX0_usesOf.cls ≠ "java/lang/invoke/MethodHandle" ∧ yX0_usesOf.cls ≠ "java/lang/invoke/VarHandle" ∧ (parseMethodDescriptor yX0_usesOf.desc).map (fun d => d.parameters.length) = some 1 := by decide +kernel
set_option maxHeartbeats 4000000 in
set_option maxRecDepth 100000 in
theorem c_X0_usesOf (l : Launch) (D : va_G) (cI cJ cO : ClassId) (e0 e1 e2 : Nat) (t : ES) (p1 : Int32) {o : Int32} (h : fE_usesOf p1 t = o) : Ct l D (tysA cI cJ cO) yX0_usesOf wsX0_usesOf (rmOf 1 21) [.ref e0, .int p1] (wE cI cJ e0 e1 e2 t) (some (.int o)) (wE cI cJ e0 e1 e2 t) := by
  refine Ct_of (own := RX0) cX0_usesOf 2 (some .int) (by decide +kernel) rfl rfl (Nat.le_of_ble_eq_true rfl) ?_
  intro p e s m args below meth c A C hnm
  have iX0 : ∀ w ∈ u_ws RX0 TX0 2, w ∈ wsX0_usesOf := fun w h => List.mem_cons_of_mem _ (List.mem_append_right _ h)
  have f9 : Cond.fieldLink RX0 9 (TX0 0).1 (TX0 0).2.1 (TX0 0).2.2.1 ∈ wsX0_usesOf := List.mem_of_getElem? (i := 1) rfl
  have n_X3_at := gw_cn (R := (rmOf 1 21)) (rm := rmOf 0 0) (index := 44) (n := 2) C gX0_usesOf_X3_at_n44 rfl rfl rfl (by simp [nestW]) (List.mem_of_getElem? (i := 3) rfl) (List.mem_of_getElem? (i := 2) rfl) hd_X3_at.2 ⟨Nat.le_of_ble_eq_true rfl, Nat.le_of_ble_eq_true rfl⟩
  have h : Rt o (fE_usesOf p1 t) := h
  unfold fE_usesOf at h
  show gw_G p l e (rmOf 1 21) s m args below meth c D A (CtM D below (some (.int o)) (wE cI cJ e0 e1 e2 t) A args s) 2 0 0 (wE cI cJ e0 e1 e2 t) [(0, .ref e0), (1, .int p1)] 0 []
  refine gw_aload_n C dX0_usesOf_0 0 rfl ?_
  refine gw_get C dX0_usesOf_1 0 0 0 rfl rfl iX0 (by decide) f9 rfl ?_
  refine gw_iload_n C dX0_usesOf_4 1 rfl ?_
  refine gw_one (st2 := [.int (J_at 40 (eU t) p1)]) (ws' := wE cI cJ e0 e1 e2 t) C 1 rfl (run_SN (rest := []) C (c_X3_at l D cI cJ cO e1 40 (eU t) p1 (by decide)) n_X3_at rfl rfl (Nat.le_of_ble_eq_true rfl) dX0_usesOf_5 ⟨Nat.zero_le _, Nat.zero_le _⟩) rfl rfl ?_
  have ho : _ = o := h
  subst ho
  exact gw_iret C dX0_usesOf_8
theorem hd_X0_textAt : yX0_textAt.cls = RX0 ∧ yX0_textAt.cls ≠ "java/lang/invoke/MethodHandle" ∧ yX0_textAt.cls ≠ "java/lang/invoke/VarHandle" ∧ (parseMethodDescriptor yX0_textAt.desc).map (fun d => d.parameters.length) = some 1 := by decide +kernel
set_option maxHeartbeats 4000000 in
set_option maxRecDepth 100000 in
theorem c_X0_textAt (l : Launch) (D : va_G) (cI cJ cO : ClassId) (e0 e1 e2 : Nat) (t : ES) (p1 : Int32) {o : Int64} (h : fE_textAt p1 t = some o) : Ct l D (tysA cI cJ cO) yX0_textAt wsX0_textAt (rmOf 0 0) [.ref e0, .int p1] (wE cI cJ e0 e1 e2 t) (some (.long o)) (wE cI cJ e0 e1 e2 t) := by
  refine Ct_of (own := RX0) cX0_textAt 2 (some .long) (by decide +kernel) rfl rfl (Nat.le_of_ble_eq_true rfl) ?_
  intro p e s m args below meth c A C hnm
  have iX0 : ∀ w ∈ u_ws RX0 TX0 2, w ∈ wsX0_textAt := fun w h => List.mem_cons_of_mem _ (List.mem_append_right _ h)
  have f15 : Cond.fieldLink RX0 15 (TX0 1).1 (TX0 1).2.1 (TX0 1).2.2.1 ∈ wsX0_textAt := List.mem_of_getElem? (i := 1) rfl
  have h := gw_top h
  unfold fE_textAt at h
  show gw_G p l e (rmOf 0 0) s m args below meth c D A (CtM D below (some (.long o)) (wE cI cJ e0 e1 e2 t) A args s) 2 0 0 (wE cI cJ e0 e1 e2 t) [(0, .ref e0), (1, .int p1)] 0 []
  refine gw_iload_n C dX0_textAt_0 1 rfl ?_
  refine gw_lt h (fun j1 ej1 h => ?_)
  have J1 : ∀ v1 : Unit, Rs some o (j1 v1) → gw_G p l e (rmOf 0 0) s m args below meth c D A (CtM D below (some (.long o)) (wE cI cJ e0 e1 e2 t) A args s) 2 0 0 (wE cI cJ e0 e1 e2 t) [] 22 [] := by
    intro v1 h
    have h := gw_app ej1 h
    refine gw_lconst (v := (0 : Int64)) C dX0_textAt_22 rfl ?_
    have h := gw_some h
    have ho := Option.some.inj h
    subst ho
    exact gw_lret C dX0_textAt_23
  refine gw_if_lt (tgt := 22) C dX0_textAt_1 (by decide) h (fun c2 h => ?_) (fun c2 h => ?_)
  · refine gw_sub [] rfl ?_
    exact J1 _ h
  · refine gw_iload_n C dX0_textAt_4 1 rfl ?_
    refine gw_aload_n C dX0_textAt_5 0 rfl ?_
    refine gw_get C dX0_textAt_6 0 0 1 rfl rfl iX0 (by decide) f15 rfl ?_
    refine gw_alen (v := (40 : Int32)) C dX0_textAt_9 2 1 rfl rfl rfl ?_
    refine gw_icmp_ge (tgt := 22) C dX0_textAt_10 (by decide) h (fun c3 h => ?_) (fun c3 h => ?_)
    · refine gw_sub [] rfl ?_
      exact J1 _ h
    · refine gw_aload_n C dX0_textAt_13 0 rfl ?_
      refine gw_get C dX0_textAt_14 0 0 1 rfl rfl iX0 (by decide) f15 rfl ?_
      refine gw_iload_n C dX0_textAt_17 1 rfl ?_
      refine gw_chk h (fun b4 h => ?_)
      refine gw_lald C dX0_textAt_18 2 1 rfl rfl b4 ?_
      refine gw_goto (tgt := 23) C dX0_textAt_19 (by decide) ?_
      have h := gw_some h
      have ho := Option.some.inj h
      subst ho
      exact gw_lret C dX0_textAt_23
theorem hd_X0_placeFor : yX0_placeFor.cls = RX0 ∧ yX0_placeFor.cls ≠ "java/lang/invoke/MethodHandle" ∧ yX0_placeFor.cls ≠ "java/lang/invoke/VarHandle" ∧ (parseMethodDescriptor yX0_placeFor.desc).map (fun d => d.parameters.length) = some 1 := by decide +kernel
set_option maxHeartbeats 4000000 in
set_option maxRecDepth 100000 in
theorem c_X0_placeFor (l : Launch) (D : va_G) (cI cJ cO : ClassId) (e0 e1 e2 : Nat) (t : ES) (p1 : Int64) {o : Int32} (h : fE_placeFor p1 t = some o) : Ct l D (tysA cI cJ cO) yX0_placeFor wsX0_placeFor (rmOf 0 0) [.ref e0, .long p1] (wE cI cJ e0 e1 e2 t) (some (.int o)) (wE cI cJ e0 e1 e2 t) := by
  refine Ct_of (own := RX0) cX0_placeFor 5 (some .int) (by decide +kernel) rfl rfl (Nat.le_of_ble_eq_true rfl) ?_
  intro p e s m args below meth c A C hnm
  have iX0 : ∀ w ∈ u_ws RX0 TX0 2, w ∈ wsX0_placeFor := fun w h => List.mem_cons_of_mem _ (List.mem_append_right _ h)
  have f9 : Cond.fieldLink RX0 9 (TX0 0).1 (TX0 0).2.1 (TX0 0).2.2.1 ∈ wsX0_placeFor := List.mem_of_getElem? (i := 1) rfl
  have f15 : Cond.fieldLink RX0 15 (TX0 1).1 (TX0 1).2.1 (TX0 1).2.2.1 ∈ wsX0_placeFor := List.mem_of_getElem? (i := 2) rfl
  have h := gw_top h
  unfold fE_placeFor at h
  show gw_G p l e (rmOf 0 0) s m args below meth c D A (CtM D below (some (.int o)) (wE cI cJ e0 e1 e2 t) A args s) 5 0 0 (wE cI cJ e0 e1 e2 t) [(0, .ref e0), (1, .long p1)] 0 []
  refine gw_iconst (v := (-1 : Int32)) C dX0_placeFor_0 rfl ?_
  refine gw_istore_n C dX0_placeFor_1 [(3, .int (-1 : Int32)), (0, .ref e0), (1, .long p1)] rfl (by decide) rfl ?_
  refine gw_iconst (v := (0 : Int32)) C dX0_placeFor_2 rfl ?_
  refine gw_istore C dX0_placeFor_3 [(4, .int (0 : Int32)), (3, .int (-1 : Int32)), (0, .ref e0), (1, .long p1)] (by decide) rfl ?_
  refine gw_sub [2, 3, 1, 0] rfl ?_
  refine gw_lpt (x0 := ((-1 : Int32), (0 : Int32))) (Go := fun x1 : Int32 × Int32 => gw_G p l e (rmOf 0 0) s m args below meth c D A (CtM D below (some (.int o)) (wE cI cJ e0 e1 e2 t) A args s) 5 0 0 (wE cI cJ e0 e1 e2 t) [(0, .ref e0), (1, .long p1), (3, .int x1.1), (4, .int x1.2)] 5 []) h (fun x1 K1 X1 I1 h => ?_)
  refine gw_iload C dX0_placeFor_5 3 rfl ?_
  refine gw_aload_n C dX0_placeFor_7 0 rfl ?_
  refine gw_get C dX0_placeFor_8 0 0 0 rfl rfl iX0 (by decide) f9 rfl ?_
  refine gw_alen (v := (40 : Int32)) C dX0_placeFor_11 1 0 rfl rfl rfl ?_
  refine gw_icmp_ge (tgt := 64) C dX0_placeFor_12 (by decide) h (fun c2 h => ?_) (fun c2 h => ?_)
  · refine gw_iload_n C dX0_placeFor_64 2 rfl ?_
    have h := gw_some h
    have h := X1 _ h
    have ho := Option.some.inj h
    subst ho
    exact gw_iret C dX0_placeFor_65
  · refine gw_iload C dX0_placeFor_15 3 rfl ?_
    refine gw_aload_n C dX0_placeFor_17 0 rfl ?_
    refine gw_get C dX0_placeFor_18 0 0 1 rfl rfl iX0 (by decide) f15 rfl ?_
    refine gw_alen (v := (40 : Int32)) C dX0_placeFor_21 2 1 rfl rfl rfl ?_
    refine gw_icmp_ge (tgt := 64) C dX0_placeFor_22 (by decide) h (fun c3 h => ?_) (fun c3 h => ?_)
    · refine gw_iload_n C dX0_placeFor_64 2 rfl ?_
      have h := gw_some h
      have h := X1 _ h
      have ho := Option.some.inj h
      subst ho
      exact gw_iret C dX0_placeFor_65
    · refine gw_aload_n C dX0_placeFor_25 0 rfl ?_
      refine gw_get C dX0_placeFor_26 0 0 0 rfl rfl iX0 (by decide) f9 rfl ?_
      refine gw_iload C dX0_placeFor_29 3 rfl ?_
      refine gw_chk h (fun b4 h => ?_)
      refine gw_iald C dX0_placeFor_31 1 0 rfl rfl b4 ?_
      refine gw_if_le (tgt := 50) C dX0_placeFor_32 (by decide) h (fun c5 h => ?_) (fun c5 h => ?_)
      · refine gw_iload_n C dX0_placeFor_50 2 rfl ?_
        refine gw_iconst (v := (-1 : Int32)) C dX0_placeFor_51 rfl ?_
        refine gw_icmp_ne (tgt := 58) C dX0_placeFor_52 (by decide) h (fun c6 h => ?_) (fun c6 h => ?_)
        · refine gw_iload C dX0_placeFor_55 3 rfl ?_
          refine gw_istore_n C dX0_placeFor_57 [(3, .int x1.2), (0, .ref e0), (1, .long p1), (4, .int x1.2)] rfl (by decide) rfl ?_
          refine gw_iinc (v := (x1.2 + (1 : Int32))) C dX0_placeFor_58 [(4, .int (x1.2 + (1 : Int32))), (3, .int x1.2), (0, .ref e0), (1, .long p1)] 3 rfl rfl (by decide) rfl ?_
          refine gw_goto (tgt := 5) C dX0_placeFor_61 (by decide) ?_
          refine gw_sub [2, 3, 1, 0] rfl ?_
          have h := gw_some h
          exact I1 _ h
        · refine gw_iinc (v := (x1.2 + (1 : Int32))) C dX0_placeFor_58 [(4, .int (x1.2 + (1 : Int32))), (0, .ref e0), (1, .long p1), (3, .int x1.1)] 3 rfl rfl (by decide) rfl ?_
          refine gw_goto (tgt := 5) C dX0_placeFor_61 (by decide) ?_
          refine gw_sub [1, 2, 3, 0] rfl ?_
          have h := gw_some h
          exact I1 _ h
      · refine gw_aload_n C dX0_placeFor_35 0 rfl ?_
        refine gw_get C dX0_placeFor_36 0 0 1 rfl rfl iX0 (by decide) f15 rfl ?_
        refine gw_iload C dX0_placeFor_39 3 rfl ?_
        refine gw_chk h (fun b7 h => ?_)
        refine gw_lald C dX0_placeFor_41 2 1 rfl rfl b7 ?_
        refine gw_lload_n C dX0_placeFor_42 1 rfl ?_
        refine gw_lcmp_ne (tgt := 58) C dX0_placeFor_43 dX0_placeFor_44 (by decide) h (fun c8 h => ?_) (fun c8 h => ?_)
        · refine gw_iload C dX0_placeFor_47 3 rfl ?_
          have h := gw_some h
          have h := X1 _ h
          have ho := Option.some.inj h
          subst ho
          exact gw_iret C dX0_placeFor_49
        · refine gw_iinc (v := (x1.2 + (1 : Int32))) C dX0_placeFor_58 [(4, .int (x1.2 + (1 : Int32))), (0, .ref e0), (1, .long p1), (3, .int x1.1)] 3 rfl rfl (by decide) rfl ?_
          refine gw_goto (tgt := 5) C dX0_placeFor_61 (by decide) ?_
          refine gw_sub [1, 2, 3, 0] rfl ?_
          have h := gw_some h
          exact I1 _ h
theorem hd_X0_keep : yX0_keep.cls = RX0 ∧ yX0_keep.cls ≠ "java/lang/invoke/MethodHandle" ∧ yX0_keep.cls ≠ "java/lang/invoke/VarHandle" ∧ (parseMethodDescriptor yX0_keep.desc).map (fun d => d.parameters.length) = some 1 := by decide +kernel
set_option maxHeartbeats 4000000 in
set_option maxRecDepth 100000 in
theorem c_X0_keep (l : Launch) (D : va_G) (cI cJ cO : ClassId) (e0 e1 e2 : Nat) (t : ES) (p1 : Int64) {o : Int32 × ES} (h : fE_keep p1 t = some o) : Ct l D (tysA cI cJ cO) yX0_keep wsX0_keep (rmOf 1 24) [.ref e0, .long p1] (wE cI cJ e0 e1 e2 t) (some (.int o.1)) (wE cI cJ e0 e1 e2 o.2) := by
  refine Ct_of (own := RX0) cX0_keep 4 (some .int) (by decide +kernel) rfl rfl (Nat.le_of_ble_eq_true rfl) ?_
  intro p e s m args below meth c A C hnm
  have iX0 : ∀ w ∈ u_ws RX0 TX0 2, w ∈ wsX0_keep := fun w h => List.mem_cons_of_mem _ (List.mem_append_right _ h)
  have f9 : Cond.fieldLink RX0 9 (TX0 0).1 (TX0 0).2.1 (TX0 0).2.2.1 ∈ wsX0_keep := List.mem_of_getElem? (i := 2) rfl
  have f15 : Cond.fieldLink RX0 15 (TX0 1).1 (TX0 1).2.1 (TX0 1).2.2.1 ∈ wsX0_keep := List.mem_of_getElem? (i := 1) rfl
  have w_X0_placeFor := cwV (R := (rmOf 1 24)) (rm := rmOf 0 0) (s := s) (args := args) 1 C.1.2.2.2.2 gX0_keep_X0_placeFor rfl rfl rfl hd_X0_placeFor ⟨Nat.le_of_ble_eq_true rfl, Nat.le_of_ble_eq_true rfl⟩
  have n_X3_at := gw_cn (R := (rmOf 1 24)) (rm := rmOf 0 0) (index := 44) (n := 2) C gX0_keep_X3_at_n44 rfl rfl rfl (by simp [nestW]) (List.mem_of_getElem? (i := 9) rfl) (List.mem_of_getElem? (i := 8) rfl) hd_X3_at.2 ⟨Nat.le_of_ble_eq_true rfl, Nat.le_of_ble_eq_true rfl⟩
  have n_X3_put := gw_cn (R := (rmOf 1 24)) (rm := rmOf 0 0) (index := 52) (n := 3) C gX0_keep_X3_put_n52 rfl rfl rfl (by simp [nestW]) (List.mem_of_getElem? (i := 9) rfl) (List.mem_of_getElem? (i := 11) rfl) hd_X3_put.2 ⟨Nat.le_of_ble_eq_true rfl, Nat.le_of_ble_eq_true rfl⟩
  have h := gw_top h
  unfold fE_keep at h
  show gw_G p l e (rmOf 1 24) s m args below meth c D A (CtM D below (some (.int o.1)) (wE cI cJ e0 e1 e2 o.2) A args s) 4 0 0 (wE cI cJ e0 e1 e2 t) [(0, .ref e0), (1, .long p1)] 0 []
  refine gw_aload_n C dX0_keep_0 0 rfl ?_
  refine gw_lload_n C dX0_keep_1 1 rfl ?_
  refine gw_bind h (fun q1 hq1 h => ?_)
  refine gw_whole (st2 := [.int q1]) C (run_V (rest := []) C (c_X0_placeFor l D cI cJ cO e0 e1 e2 t p1 hq1) w_X0_placeFor 0 0 rfl rfl rfl rfl rfl (Nat.le_of_ble_eq_true rfl) dX0_keep_2 ⟨Nat.zero_le _, Nat.zero_le _⟩) rfl ?_
  refine gw_istore_n C dX0_keep_5 [(3, .int q1), (0, .ref e0), (1, .long p1)] rfl (by decide) rfl ?_
  refine gw_iload_n C dX0_keep_6 0 rfl ?_
  refine gw_if_lt (tgt := 44) C dX0_keep_7 (by decide) h (fun c2 h => ?_) (fun c2 h => ?_)
  · refine gw_iload_n C dX0_keep_44 0 rfl ?_
    have h := gw_some h
    have ho := Option.some.inj h
    subst ho
    exact gw_iret C dX0_keep_45
  · refine gw_iload_n C dX0_keep_10 0 rfl ?_
    refine gw_aload_n C dX0_keep_11 1 rfl ?_
    refine gw_get C dX0_keep_12 0 0 1 rfl rfl iX0 (by decide) f15 rfl ?_
    refine gw_alen (v := (40 : Int32)) C dX0_keep_15 2 1 rfl rfl rfl ?_
    refine gw_icmp_ge (tgt := 44) C dX0_keep_16 (by decide) h (fun c3 h => ?_) (fun c3 h => ?_)
    · refine gw_iload_n C dX0_keep_44 0 rfl ?_
      have h := gw_some h
      have ho := Option.some.inj h
      subst ho
      exact gw_iret C dX0_keep_45
    · refine gw_aload_n C dX0_keep_19 1 rfl ?_
      refine gw_get C dX0_keep_20 0 0 1 rfl rfl iX0 (by decide) f15 rfl ?_
      refine gw_iload_n C dX0_keep_23 0 rfl ?_
      refine gw_lload_n C dX0_keep_24 2 rfl ?_
      refine gw_chk h (fun b4 h => ?_)
      refine gw_lt h (fun t5 et5 h => ?_)
      refine gw_last (ws' := wE cI cJ e0 e1 e2 t5) C dX0_keep_25 2 1 rfl rfl b4 (by subst et5; rfl) ?_
      refine gw_aload_n C dX0_keep_26 1 rfl ?_
      refine gw_get C dX0_keep_27 0 0 0 rfl rfl iX0 (by decide) f9 rfl ?_
      refine gw_iload_n C dX0_keep_30 0 rfl ?_
      refine gw_aload_n C dX0_keep_31 1 rfl ?_
      refine gw_get C dX0_keep_32 0 0 0 rfl rfl iX0 (by decide) f9 rfl ?_
      refine gw_iload_n C dX0_keep_35 0 rfl ?_
      refine gw_one (st2 := [.int (J_at 40 (eU t5) q1), .int q1, .ref e1]) (ws' := wE cI cJ e0 e1 e2 t5) C 1 rfl (run_SN (rest := [.int q1, .ref e1]) C (c_X3_at l D cI cJ cO e1 40 (eU t5) q1 (by decide)) n_X3_at rfl rfl (Nat.le_of_ble_eq_true rfl) dX0_keep_36 ⟨Nat.zero_le _, Nat.zero_le _⟩) rfl rfl ?_
      refine gw_iconst (v := (1 : Int32)) C dX0_keep_39 rfl ?_
      refine gw_iadd C dX0_keep_40 ?_
      refine gw_lt h (fun t6 et6 h => ?_)
      refine gw_one (st2 := []) (ws' := wE cI cJ e0 e1 e2 t6) C 1 rfl (run_SN (rest := []) C (c_X3_put l D cI cJ cO e1 40 (eU t5) q1 ((J_at 40 (eU t5) q1) + (1 : Int32)) (by decide)) n_X3_put rfl rfl (Nat.le_of_ble_eq_true rfl) dX0_keep_41 ⟨Nat.zero_le _, Nat.zero_le _⟩) (by subst et6; rfl) rfl ?_
      refine gw_iload_n C dX0_keep_44 0 rfl ?_
      have h := gw_some h
      have ho := Option.some.inj h
      subst ho
      exact gw_iret C dX0_keep_45
theorem hd_X0_release : yX0_release.cls = RX0 ∧ yX0_release.cls ≠ "java/lang/invoke/MethodHandle" ∧ yX0_release.cls ≠ "java/lang/invoke/VarHandle" ∧ (parseMethodDescriptor yX0_release.desc).map (fun d => d.parameters.length) = some 1 := by decide +kernel
set_option maxHeartbeats 4000000 in
set_option maxRecDepth 100000 in
theorem c_X0_release (l : Launch) (D : va_G) (cI cJ cO : ClassId) (e0 e1 e2 : Nat) (t : ES) (p1 : Int32) {o : ES} (h : fE_release p1 t = some o) : Ct l D (tysA cI cJ cO) yX0_release wsX0_release (rmOf 1 22) [.ref e0, .int p1] (wE cI cJ e0 e1 e2 t) none (wE cI cJ e0 e1 e2 o) := by
  refine Ct_of (own := RX0) cX0_release 3 none (by decide +kernel) rfl rfl (Nat.le_of_ble_eq_true rfl) ?_
  intro p e s m args below meth c A C hnm
  have iX0 : ∀ w ∈ u_ws RX0 TX0 2, w ∈ wsX0_release := fun w h => List.mem_cons_of_mem _ (List.mem_append_right _ h)
  have f9 : Cond.fieldLink RX0 9 (TX0 0).1 (TX0 0).2.1 (TX0 0).2.2.1 ∈ wsX0_release := List.mem_of_getElem? (i := 1) rfl
  have f15 : Cond.fieldLink RX0 15 (TX0 1).1 (TX0 1).2.1 (TX0 1).2.2.1 ∈ wsX0_release := List.mem_of_getElem? (i := 2) rfl
  have n_X3_at := gw_cn (R := (rmOf 1 22)) (rm := rmOf 0 0) (index := 44) (n := 2) C gX0_release_X3_at_n44 rfl rfl rfl (by simp [nestW]) (List.mem_of_getElem? (i := 4) rfl) (List.mem_of_getElem? (i := 3) rfl) hd_X3_at.2 ⟨Nat.le_of_ble_eq_true rfl, Nat.le_of_ble_eq_true rfl⟩
  have n_X3_put := gw_cn (R := (rmOf 1 22)) (rm := rmOf 0 0) (index := 52) (n := 3) C gX0_release_X3_put_n52 rfl rfl rfl (by simp [nestW]) (List.mem_of_getElem? (i := 4) rfl) (List.mem_of_getElem? (i := 6) rfl) hd_X3_put.2 ⟨Nat.le_of_ble_eq_true rfl, Nat.le_of_ble_eq_true rfl⟩
  have h := gw_top h
  unfold fE_release at h
  show gw_G p l e (rmOf 1 22) s m args below meth c D A (CtM D below none (wE cI cJ e0 e1 e2 o) A args s) 3 0 0 (wE cI cJ e0 e1 e2 t) [(0, .ref e0), (1, .int p1)] 0 []
  refine gw_aload_n C dX0_release_0 0 rfl ?_
  refine gw_get C dX0_release_1 0 0 0 rfl rfl iX0 (by decide) f9 rfl ?_
  refine gw_iload_n C dX0_release_4 1 rfl ?_
  refine gw_one (st2 := [.int (J_at 40 (eU t) p1)]) (ws' := wE cI cJ e0 e1 e2 t) C 1 rfl (run_SN (rest := []) C (c_X3_at l D cI cJ cO e1 40 (eU t) p1 (by decide)) n_X3_at rfl rfl (Nat.le_of_ble_eq_true rfl) dX0_release_5 ⟨Nat.zero_le _, Nat.zero_le _⟩) rfl rfl ?_
  refine gw_iconst (v := (1 : Int32)) C dX0_release_8 rfl ?_
  refine gw_isub C dX0_release_9 ?_
  refine gw_lt h (fun v1 ev1 h => ?_)
  rw [ev1]
  refine gw_istore_n C dX0_release_10 [(2, .int v1), (0, .ref e0), (1, .int p1)] rfl (by decide) rfl ?_
  refine gw_iload_n C dX0_release_11 0 rfl ?_
  refine gw_lt h (fun j2 ej2 h => ?_)
  have J2 : ∀ v2 : ES, Rs some o (j2 v2) → gw_G p l e (rmOf 1 22) s m args below meth c D A (CtM D below none (wE cI cJ e0 e1 e2 o) A args s) 3 0 0 (wE cI cJ e0 e1 e2 v2) [(0, .ref e0), (1, .int p1), (2, .int v1)] 24 [] := by
    intro v2 h
    have h := gw_app ej2 h
    refine gw_iload_n C dX0_release_24 2 rfl ?_
    refine gw_if_ne (tgt := 48) C dX0_release_25 (by decide) h (fun c5 h => ?_) (fun c5 h => ?_)
    · refine gw_iload_n C dX0_release_28 1 rfl ?_
      refine gw_if_lt (tgt := 48) C dX0_release_29 (by decide) h (fun c6 h => ?_) (fun c6 h => ?_)
      · have h := gw_some h
        have ho := Option.some.inj h
        subst ho
        exact gw_vret C dX0_release_48
      · refine gw_iload_n C dX0_release_32 1 rfl ?_
        refine gw_aload_n C dX0_release_33 0 rfl ?_
        refine gw_get C dX0_release_34 0 0 1 rfl rfl iX0 (by decide) f15 rfl ?_
        refine gw_alen (v := (40 : Int32)) C dX0_release_37 2 1 rfl rfl rfl ?_
        refine gw_icmp_ge (tgt := 48) C dX0_release_38 (by decide) h (fun c7 h => ?_) (fun c7 h => ?_)
        · have h := gw_some h
          have ho := Option.some.inj h
          subst ho
          exact gw_vret C dX0_release_48
        · refine gw_aload_n C dX0_release_41 0 rfl ?_
          refine gw_get C dX0_release_42 0 0 1 rfl rfl iX0 (by decide) f15 rfl ?_
          refine gw_iload_n C dX0_release_45 1 rfl ?_
          refine gw_lconst (v := (0 : Int64)) C dX0_release_46 rfl ?_
          refine gw_chk h (fun b8 h => ?_)
          refine gw_lt h (fun t9 et9 h => ?_)
          refine gw_last (ws' := wE cI cJ e0 e1 e2 t9) C dX0_release_47 2 1 rfl rfl b8 (by subst et9; rfl) ?_
          have h := gw_some h
          have ho := Option.some.inj h
          subst ho
          exact gw_vret C dX0_release_48
    · have h := gw_some h
      have ho := Option.some.inj h
      subst ho
      exact gw_vret C dX0_release_48
  refine gw_if_lt (tgt := 24) C dX0_release_12 (by decide) h (fun c3 h => ?_) (fun c3 h => ?_)
  · refine gw_sub [1, 2, 0] rfl ?_
    exact J2 _ h
  · refine gw_aload_n C dX0_release_15 1 rfl ?_
    refine gw_get C dX0_release_16 0 0 0 rfl rfl iX0 (by decide) f9 rfl ?_
    refine gw_iload_n C dX0_release_19 2 rfl ?_
    refine gw_iload_n C dX0_release_20 0 rfl ?_
    refine gw_lt h (fun t4 et4 h => ?_)
    refine gw_one (st2 := []) (ws' := wE cI cJ e0 e1 e2 t4) C 1 rfl (run_SN (rest := []) C (c_X3_put l D cI cJ cO e1 40 (eU t) p1 v1 (by decide)) n_X3_put rfl rfl (Nat.le_of_ble_eq_true rfl) dX0_release_21 ⟨Nat.zero_le _, Nat.zero_le _⟩) (by subst et4; rfl) rfl ?_
    refine gw_sub [1, 2, 0] rfl ?_
    exact J2 _ h
theorem hd_X0_kept : yX0_kept.cls = RX0 ∧ yX0_kept.cls ≠ "java/lang/invoke/MethodHandle" ∧ yX0_kept.cls ≠ "java/lang/invoke/VarHandle" ∧ (parseMethodDescriptor yX0_kept.desc).map (fun d => d.parameters.length) = some 0 := by decide +kernel
set_option maxHeartbeats 4000000 in
set_option maxRecDepth 100000 in
theorem c_X0_kept (l : Launch) (D : va_G) (cI cJ cO : ClassId) (e0 e1 e2 : Nat) (t : ES)  {o : Int32} (h : fE_kept t = some o) : Ct l D (tysA cI cJ cO) yX0_kept wsX0_kept (rmOf 0 0) [.ref e0] (wE cI cJ e0 e1 e2 t) (some (.int o)) (wE cI cJ e0 e1 e2 t) := by
  refine Ct_of (own := RX0) cX0_kept 3 (some .int) (by decide +kernel) rfl rfl (Nat.le_of_ble_eq_true rfl) ?_
  intro p e s m args below meth c A C hnm
  have iX0 : ∀ w ∈ u_ws RX0 TX0 2, w ∈ wsX0_kept := fun w h => List.mem_cons_of_mem _ (List.mem_append_right _ h)
  have f9 : Cond.fieldLink RX0 9 (TX0 0).1 (TX0 0).2.1 (TX0 0).2.2.1 ∈ wsX0_kept := List.mem_of_getElem? (i := 1) rfl
  have h := gw_top h
  unfold fE_kept at h
  show gw_G p l e (rmOf 0 0) s m args below meth c D A (CtM D below (some (.int o)) (wE cI cJ e0 e1 e2 t) A args s) 3 0 0 (wE cI cJ e0 e1 e2 t) [(0, .ref e0)] 0 []
  refine gw_iconst (v := (0 : Int32)) C dX0_kept_0 rfl ?_
  refine gw_istore_n C dX0_kept_1 [(1, .int (0 : Int32)), (0, .ref e0)] rfl (by decide) rfl ?_
  refine gw_iconst (v := (0 : Int32)) C dX0_kept_2 rfl ?_
  refine gw_istore_n C dX0_kept_3 [(2, .int (0 : Int32)), (1, .int (0 : Int32)), (0, .ref e0)] rfl (by decide) rfl ?_
  refine gw_sub [2, 1, 0] rfl ?_
  refine gw_lpb (x0 := ((0 : Int32), (0 : Int32))) (Go := fun x1 : Int32 × Int32 => gw_G p l e (rmOf 0 0) s m args below meth c D A (CtM D below (some (.int o)) (wE cI cJ e0 e1 e2 t) A args s) 3 0 0 (wE cI cJ e0 e1 e2 t) [(0, .ref e0), (1, .int x1.1), (2, .int x1.2)] 4 []) (GoX := fun v1 : Int32 => gw_G p l e (rmOf 0 0) s m args below meth c D A (CtM D below (some (.int o)) (wE cI cJ e0 e1 e2 t) A args s) 3 0 0 (wE cI cJ e0 e1 e2 t) [(1, .int v1)] 31 []) h (fun v1 h => ?_) (fun x1 K1 X1 I1 h => ?_)
  · refine gw_iload_n C dX0_kept_31 0 rfl ?_
    have h := gw_some h
    have ho := Option.some.inj h
    subst ho
    exact gw_iret C dX0_kept_32
  · refine gw_iload_n C dX0_kept_4 2 rfl ?_
    refine gw_aload_n C dX0_kept_5 0 rfl ?_
    refine gw_get C dX0_kept_6 0 0 0 rfl rfl iX0 (by decide) f9 rfl ?_
    refine gw_alen (v := (40 : Int32)) C dX0_kept_9 1 0 rfl rfl rfl ?_
    refine gw_icmp_ge (tgt := 31) C dX0_kept_10 (by decide) h (fun c2 h => ?_) (fun c2 h => ?_)
    · refine gw_sub [1] rfl ?_
      have h := gw_some h
      exact X1 _ h
    · refine gw_aload_n C dX0_kept_13 0 rfl ?_
      refine gw_get C dX0_kept_14 0 0 0 rfl rfl iX0 (by decide) f9 rfl ?_
      refine gw_iload_n C dX0_kept_17 2 rfl ?_
      refine gw_chk h (fun b3 h => ?_)
      refine gw_iald C dX0_kept_18 1 0 rfl rfl b3 ?_
      refine gw_if_le (tgt := 25) C dX0_kept_19 (by decide) h (fun c4 h => ?_) (fun c4 h => ?_)
      · refine gw_iinc (v := (x1.2 + (1 : Int32))) C dX0_kept_25 [(2, .int (x1.2 + (1 : Int32))), (0, .ref e0), (1, .int x1.1)] 2 rfl rfl (by decide) rfl ?_
        refine gw_goto (tgt := 4) C dX0_kept_28 (by decide) ?_
        refine gw_sub [1, 2, 0] rfl ?_
        have h := gw_some h
        exact I1 _ h
      · refine gw_iinc (v := (x1.1 + (1 : Int32))) C dX0_kept_22 [(1, .int (x1.1 + (1 : Int32))), (0, .ref e0), (2, .int x1.2)] 1 rfl rfl (by decide) rfl ?_
        refine gw_iinc (v := (x1.2 + (1 : Int32))) C dX0_kept_25 [(2, .int (x1.2 + (1 : Int32))), (1, .int (x1.1 + (1 : Int32))), (0, .ref e0)] 2 rfl rfl (by decide) rfl ?_
        refine gw_goto (tgt := 4) C dX0_kept_28 (by decide) ?_
        refine gw_sub [2, 1, 0] rfl ?_
        have h := gw_some h
        exact I1 _ h
theorem hd_X0_letters : yX0_letters.cls = RX0 ∧ yX0_letters.cls ≠ "java/lang/invoke/MethodHandle" ∧ yX0_letters.cls ≠ "java/lang/invoke/VarHandle" ∧ (parseMethodDescriptor yX0_letters.desc).map (fun d => d.parameters.length) = some 0 := by decide +kernel
set_option maxHeartbeats 4000000 in
set_option maxRecDepth 100000 in
theorem c_X0_letters (l : Launch) (D : va_G) (cI cJ cO : ClassId) (e0 e1 e2 : Nat) (t : ES)  {o : Int32} (h : fE_letters t = some o) : Ct l D (tysA cI cJ cO) yX0_letters wsX0_letters (rmOf 3 66) [.ref e0] (wE cI cJ e0 e1 e2 t) (some (.int o)) (wE cI cJ e0 e1 e2 t) := by
  refine Ct_of (own := RX0) cX0_letters 3 (some .int) (by decide +kernel) rfl rfl (Nat.le_of_ble_eq_true rfl) ?_
  intro p e s m args below meth c A C hnm
  have iX0 : ∀ w ∈ u_ws RX0 TX0 2, w ∈ wsX0_letters := fun w h => List.mem_cons_of_mem _ (List.mem_append_right _ h)
  have f15 : Cond.fieldLink RX0 15 (TX0 1).1 (TX0 1).2.1 (TX0 1).2.2.1 ∈ wsX0_letters := List.mem_of_getElem? (i := 1) rfl
  have w_X2_lengthOf := va_cwS (R := (rmOf 3 66)) (rm := rmOf 2 43) (s := s) (args := args) 1 C.1.2.2.2.2 gX0_letters_X2_lengthOf rfl rfl rfl hd_X2_lengthOf.2 ⟨Nat.le_of_ble_eq_true rfl, Nat.le_of_ble_eq_true rfl⟩
  have h := gw_top h
  unfold fE_letters at h
  show gw_G p l e (rmOf 3 66) s m args below meth c D A (CtM D below (some (.int o)) (wE cI cJ e0 e1 e2 t) A args s) 3 0 0 (wE cI cJ e0 e1 e2 t) [(0, .ref e0)] 0 []
  refine gw_iconst (v := (0 : Int32)) C dX0_letters_0 rfl ?_
  refine gw_istore_n C dX0_letters_1 [(1, .int (0 : Int32)), (0, .ref e0)] rfl (by decide) rfl ?_
  refine gw_iconst (v := (0 : Int32)) C dX0_letters_2 rfl ?_
  refine gw_istore_n C dX0_letters_3 [(2, .int (0 : Int32)), (1, .int (0 : Int32)), (0, .ref e0)] rfl (by decide) rfl ?_
  refine gw_sub [2, 1, 0] rfl ?_
  refine gw_lpb (x0 := ((0 : Int32), (0 : Int32))) (Go := fun x1 : Int32 × Int32 => gw_G p l e (rmOf 3 66) s m args below meth c D A (CtM D below (some (.int o)) (wE cI cJ e0 e1 e2 t) A args s) 3 0 0 (wE cI cJ e0 e1 e2 t) [(0, .ref e0), (1, .int x1.1), (2, .int x1.2)] 4 []) (GoX := fun v1 : Int32 => gw_G p l e (rmOf 3 66) s m args below meth c D A (CtM D below (some (.int o)) (wE cI cJ e0 e1 e2 t) A args s) 3 0 0 (wE cI cJ e0 e1 e2 t) [(1, .int v1)] 31 []) h (fun v1 h => ?_) (fun x1 K1 X1 I1 h => ?_)
  · refine gw_iload_n C dX0_letters_31 0 rfl ?_
    have h := gw_some h
    have ho := Option.some.inj h
    subst ho
    exact gw_iret C dX0_letters_32
  · refine gw_iload_n C dX0_letters_4 2 rfl ?_
    refine gw_aload_n C dX0_letters_5 0 rfl ?_
    refine gw_get C dX0_letters_6 0 0 1 rfl rfl iX0 (by decide) f15 rfl ?_
    refine gw_alen (v := (40 : Int32)) C dX0_letters_9 2 1 rfl rfl rfl ?_
    refine gw_icmp_ge (tgt := 31) C dX0_letters_10 (by decide) h (fun c2 h => ?_) (fun c2 h => ?_)
    · refine gw_sub [1] rfl ?_
      have h := gw_some h
      exact X1 _ h
    · refine gw_iload_n C dX0_letters_13 1 rfl ?_
      refine gw_aload_n C dX0_letters_14 0 rfl ?_
      refine gw_get C dX0_letters_15 0 0 1 rfl rfl iX0 (by decide) f15 rfl ?_
      refine gw_iload_n C dX0_letters_18 2 rfl ?_
      refine gw_chk h (fun b3 h => ?_)
      refine gw_lald C dX0_letters_19 2 1 rfl rfl b3 ?_
      refine gw_bind h (fun q4 hq4 h => ?_)
      refine gw_none (st2 := [.int q4, .int x1.1]) C (run_S (rest := [.int x1.1]) C (c_X2_lengthOf l D cI cJ cO (eX t x1.2.toNatClampNeg) hq4) w_X2_lengthOf rfl rfl (Nat.le_of_ble_eq_true rfl) dX0_letters_20 ⟨Nat.zero_le _, Nat.zero_le _⟩) rfl ?_
      refine gw_iadd C dX0_letters_23 ?_
      refine gw_lt h (fun v5 ev5 h => ?_)
      rw [ev5]
      refine gw_istore_n C dX0_letters_24 [(1, .int v5), (0, .ref e0), (2, .int x1.2)] rfl (by decide) rfl ?_
      refine gw_iinc (v := (x1.2 + (1 : Int32))) C dX0_letters_25 [(2, .int (x1.2 + (1 : Int32))), (1, .int v5), (0, .ref e0)] 2 rfl rfl (by decide) rfl ?_
      refine gw_goto (tgt := 4) C dX0_letters_28 (by decide) ?_
      refine gw_sub [2, 1, 0] rfl ?_
      have h := gw_some h
      exact I1 _ h
