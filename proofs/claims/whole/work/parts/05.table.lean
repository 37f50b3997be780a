theorem dJ6_bitCount_0f7a4_0 : decode cJ6_bitCount_0f7a4 0 = .ok (.iload_n 0, 1) := by decide +kernel
theorem dJ6_bitCount_0f7a4_1 : decode cJ6_bitCount_0f7a4 1 = .ok (.iload_n 0, 1) := by decide +kernel
theorem dJ6_bitCount_0f7a4_2 : decode cJ6_bitCount_0f7a4 2 = .ok (.iconst 1, 1) := by decide +kernel
theorem dJ6_bitCount_0f7a4_3 : decode cJ6_bitCount_0f7a4 3 = .ok (.iushr, 1) := by decide +kernel
theorem dJ6_bitCount_0f7a4_4 : decode cJ6_bitCount_0f7a4 4 = .ok (.ldc_w 265, 3) := by decide +kernel
theorem dJ6_bitCount_0f7a4_7 : decode cJ6_bitCount_0f7a4 7 = .ok (.iand, 1) := by decide +kernel
theorem dJ6_bitCount_0f7a4_8 : decode cJ6_bitCount_0f7a4 8 = .ok (.isub, 1) := by decide +kernel
theorem dJ6_bitCount_0f7a4_9 : decode cJ6_bitCount_0f7a4 9 = .ok (.istore_n 0, 1) := by decide +kernel
theorem dJ6_bitCount_0f7a4_10 : decode cJ6_bitCount_0f7a4 10 = .ok (.iload_n 0, 1) := by decide +kernel
theorem dJ6_bitCount_0f7a4_11 : decode cJ6_bitCount_0f7a4 11 = .ok (.ldc_w 266, 3) := by decide +kernel
theorem dJ6_bitCount_0f7a4_14 : decode cJ6_bitCount_0f7a4 14 = .ok (.iand, 1) := by decide +kernel
theorem dJ6_bitCount_0f7a4_15 : decode cJ6_bitCount_0f7a4 15 = .ok (.iload_n 0, 1) := by decide +kernel
theorem dJ6_bitCount_0f7a4_16 : decode cJ6_bitCount_0f7a4 16 = .ok (.iconst 2, 1) := by decide +kernel
theorem dJ6_bitCount_0f7a4_17 : decode cJ6_bitCount_0f7a4 17 = .ok (.iushr, 1) := by decide +kernel
theorem dJ6_bitCount_0f7a4_18 : decode cJ6_bitCount_0f7a4 18 = .ok (.ldc_w 266, 3) := by decide +kernel
theorem dJ6_bitCount_0f7a4_21 : decode cJ6_bitCount_0f7a4 21 = .ok (.iand, 1) := by decide +kernel
theorem dJ6_bitCount_0f7a4_22 : decode cJ6_bitCount_0f7a4 22 = .ok (.iadd, 1) := by decide +kernel
theorem dJ6_bitCount_0f7a4_23 : decode cJ6_bitCount_0f7a4 23 = .ok (.istore_n 0, 1) := by decide +kernel
theorem dJ6_bitCount_0f7a4_24 : decode cJ6_bitCount_0f7a4 24 = .ok (.iload_n 0, 1) := by decide +kernel
theorem dJ6_bitCount_0f7a4_25 : decode cJ6_bitCount_0f7a4 25 = .ok (.iload_n 0, 1) := by decide +kernel
theorem dJ6_bitCount_0f7a4_26 : decode cJ6_bitCount_0f7a4 26 = .ok (.iconst 4, 1) := by decide +kernel
theorem dJ6_bitCount_0f7a4_27 : decode cJ6_bitCount_0f7a4 27 = .ok (.iushr, 1) := by decide +kernel
theorem dJ6_bitCount_0f7a4_28 : decode cJ6_bitCount_0f7a4 28 = .ok (.iadd, 1) := by decide +kernel
theorem dJ6_bitCount_0f7a4_29 : decode cJ6_bitCount_0f7a4 29 = .ok (.ldc_w 267, 3) := by decide +kernel
theorem dJ6_bitCount_0f7a4_32 : decode cJ6_bitCount_0f7a4 32 = .ok (.iand, 1) := by decide +kernel
theorem dJ6_bitCount_0f7a4_33 : decode cJ6_bitCount_0f7a4 33 = .ok (.istore_n 0, 1) := by decide +kernel
theorem dJ6_bitCount_0f7a4_34 : decode cJ6_bitCount_0f7a4 34 = .ok (.iload_n 0, 1) := by decide +kernel
theorem dJ6_bitCount_0f7a4_35 : decode cJ6_bitCount_0f7a4 35 = .ok (.iload_n 0, 1) := by decide +kernel
theorem dJ6_bitCount_0f7a4_36 : decode cJ6_bitCount_0f7a4 36 = .ok (.bipush 8, 2) := by decide +kernel
theorem dJ6_bitCount_0f7a4_38 : decode cJ6_bitCount_0f7a4 38 = .ok (.iushr, 1) := by decide +kernel
theorem dJ6_bitCount_0f7a4_39 : decode cJ6_bitCount_0f7a4 39 = .ok (.iadd, 1) := by decide +kernel
theorem dJ6_bitCount_0f7a4_40 : decode cJ6_bitCount_0f7a4 40 = .ok (.istore_n 0, 1) := by decide +kernel
theorem dJ6_bitCount_0f7a4_41 : decode cJ6_bitCount_0f7a4 41 = .ok (.iload_n 0, 1) := by decide +kernel
theorem dJ6_bitCount_0f7a4_42 : decode cJ6_bitCount_0f7a4 42 = .ok (.iload_n 0, 1) := by decide +kernel
theorem dJ6_bitCount_0f7a4_43 : decode cJ6_bitCount_0f7a4 43 = .ok (.bipush 16, 2) := by decide +kernel
theorem dJ6_bitCount_0f7a4_45 : decode cJ6_bitCount_0f7a4 45 = .ok (.iushr, 1) := by decide +kernel
theorem dJ6_bitCount_0f7a4_46 : decode cJ6_bitCount_0f7a4 46 = .ok (.iadd, 1) := by decide +kernel
theorem dJ6_bitCount_0f7a4_47 : decode cJ6_bitCount_0f7a4 47 = .ok (.istore_n 0, 1) := by decide +kernel
theorem dJ6_bitCount_0f7a4_48 : decode cJ6_bitCount_0f7a4 48 = .ok (.iload_n 0, 1) := by decide +kernel
theorem dJ6_bitCount_0f7a4_49 : decode cJ6_bitCount_0f7a4 49 = .ok (.bipush 63, 2) := by decide +kernel
theorem dJ6_bitCount_0f7a4_51 : decode cJ6_bitCount_0f7a4 51 = .ok (.iand, 1) := by decide +kernel
theorem dJ6_bitCount_0f7a4_52 : decode cJ6_bitCount_0f7a4 52 = .ok (.ireturn, 1) := by decide +kernel
/-! a table -/
abbrev TS : Type := (Nat → Int32) × (Nat → Int32) × (Nat → Int32) × (Nat → Int32) × (Nat → Int32) × (Nat → Int32) × (Nat → Int32) × Int32 × ES
abbrev tK (t : TS) : Nat → Int32 := t.1
abbrev tP (t : TS) : Nat → Int32 := t.2.1
abbrev tB (t : TS) : Nat → Int32 := t.2.2.1
abbrev tO (t : TS) : Nat → Int32 := t.2.2.2.1
abbrev tE (t : TS) : Nat → Int32 := t.2.2.2.2.1
abbrev tC (t : TS) : Nat → Int32 := t.2.2.2.2.2.1
abbrev tW (t : TS) : Nat → Int32 := t.2.2.2.2.2.2.1
abbrev tM (t : TS) : Int32 := t.2.2.2.2.2.2.2.1
abbrev tN (t : TS) : ES := t.2.2.2.2.2.2.2.2
abbrev sTK (t : TS) (f : Nat → Int32) : TS := (f, t.2)
abbrev sTP (t : TS) (f : Nat → Int32) : TS := (t.1, f, t.2.2)
abbrev sTB (t : TS) (f : Nat → Int32) : TS := (t.1, t.2.1, f, t.2.2.2)
abbrev sTO (t : TS) (f : Nat → Int32) : TS := (t.1, t.2.1, t.2.2.1, f, t.2.2.2.2)
abbrev sTE (t : TS) (f : Nat → Int32) : TS := (t.1, t.2.1, t.2.2.1, t.2.2.2.1, f, t.2.2.2.2.2)
abbrev sTC (t : TS) (f : Nat → Int32) : TS := (t.1, t.2.1, t.2.2.1, t.2.2.2.1, t.2.2.2.2.1, f, t.2.2.2.2.2.2)
abbrev sTW (t : TS) (f : Nat → Int32) : TS := (t.1, t.2.1, t.2.2.1, t.2.2.2.1, t.2.2.2.2.1, t.2.2.2.2.2.1, f, t.2.2.2.2.2.2.2)
abbrev sTM (t : TS) (x : Int32) : TS := (t.1, t.2.1, t.2.2.1, t.2.2.2.1, t.2.2.2.2.1, t.2.2.2.2.2.1, t.2.2.2.2.2.2.1, x, t.2.2.2.2.2.2.2.2)
abbrev sTN (t : TS) (x : ES) : TS := (t.1, t.2.1, t.2.2.1, t.2.2.2.1, t.2.2.2.2.1, t.2.2.2.2.2.1, t.2.2.2.2.2.2.1, t.2.2.2.2.2.2.2.1, x)
def wT (cI cJ : ClassId) (b : Nat → Nat) (t : TS) : va_W := [(b 0, .inr (1, [.ref (b 8), .ref (b 1), .ref (b 2), .ref (b 3), .ref (b 4), .ref (b 5), .ref (b 6), .ref (b 7), .int (tM t)])), (b 1, .inl (cI, 160, .inl (tK t))), (b 2, .inl (cI, 160, .inl (tP t))), (b 3, .inl (cI, 160, .inl (tB t))), (b 4, .inl (cI, 160, .inl (tO t))), (b 5, .inl (cI, 160, .inl (tE t))), (b 6, .inl (cI, 160, .inl (tC t))), (b 7, .inl (cI, 160, .inl (tW t)))] ++ wE cI cJ (b 8) (b 9) (b 10) (tN t)
def fJ_bitCount (p1 : Int32) : Int32 :=
 gw_let (p1 - (((p1.toUInt32 >>> ((1 : Int32).toUInt32 &&& Int32.toUInt32 31)).toInt32) &&& (1431655765 : Int32))) fun v1 =>
 gw_let ((v1 &&& (858993459 : Int32)) + (((v1.toUInt32 >>> ((2 : Int32).toUInt32 &&& Int32.toUInt32 31)).toInt32) &&& (858993459 : Int32))) fun v2 =>
 gw_let ((v2 + ((v2.toUInt32 >>> ((4 : Int32).toUInt32 &&& Int32.toUInt32 31)).toInt32)) &&& (252645135 : Int32)) fun v3 =>
 gw_let (v3 + ((v3.toUInt32 >>> ((8 : Int32).toUInt32 &&& Int32.toUInt32 31)).toInt32)) fun v4 =>
 gw_let (v4 + ((v4.toUInt32 >>> ((16 : Int32).toUInt32 &&& Int32.toUInt32 31)).toInt32)) fun v5 =>
 (v5 &&& (63 : Int32))
def fT_clearCell (p1 : Int32) (t : TS) : TS :=
 gw_let (sTK t (J_put 160 (tK t) p1 (0 : Int32))) fun t1 =>
 gw_let (sTP t1 (J_put 160 (tP t1) p1 (-1 : Int32))) fun t2 =>
 gw_let (sTB t2 (J_put 160 (tB t2) p1 (-1 : Int32))) fun t3 =>
 gw_let (sTO t3 (J_put 160 (tO t3) p1 (0 : Int32))) fun t4 =>
 gw_let (sTE t4 (J_put 160 (tE t4) p1 (-1 : Int32))) fun t5 =>
 gw_let (sTC t5 (J_put 160 (tC t5) p1 (0 : Int32))) fun t6 =>
 gw_let (sTW t6 (J_put 160 (tW t6) p1 (0 : Int32))) fun t7 =>
 t7
def fT_words  (t : TS) : Int32 :=
 (J_at 160 (tW t) (0 : Int32))
def fT_endOf (p1 : Int32) (t : TS) : Option Int64 :=
 (fE_textAt (J_at 160 (tE t) p1) (tN t)).bind fun q1 =>
 some q1
def fT_childOf (p1 : Int32) (p2 : Int32) (t : TS) : Int32 :=
 if (((J_at 160 (tC t) p1) >>> (p2 &&& 31)) &&& (1 : Int32)) = 0 then
  (-1 : Int32)
 else
  ((J_at 160 (tO t) p1) + p2)
def fT_childrenOf (p1 : Int32) (t : TS) : Int32 :=
 (fJ_bitCount (J_at 160 (tC t) p1))
def fT_propertyOf (p1 : Int32) (p2 : Int32) (t : TS) : Int32 :=
 if p2 = 0 then
  (J_at 160 (tK t) p1)
 else if p2 = 1 then
  (J_at 160 (tP t) p1)
 else if p2 = 2 then
  (J_at 160 (tB t) p1)
 else if p2 = 3 then
  (J_at 160 (tO t) p1)
 else if p2 = 4 then
  (J_at 160 (tE t) p1)
 else if p2 = 5 then
  (fT_childrenOf p1 t)
 else
  (J_at 160 (tW t) p1)
def fT_usedCells  (t : TS) : Option Int32 :=
 (gw_lp (σ := Int32 × Int32) (ω := Int32) (fun x1 =>
  if (160 : Int32) ≤ x1.2 then
   some (.inl x1.1)
  else
   if inb x1.2 160 then
   if (tK t x1.2.toNatClampNeg) = 0 then
    some (.inr (x1.1, (x1.2 + (1 : Int32))))
   else
    some (.inr ((x1.1 + (1 : Int32)), (x1.2 + (1 : Int32))))
   else none
 ) gw_fl ((0 : Int32), (0 : Int32))).bind fun v1 =>
 some v1
def fT_innerCells  (t : TS) : Option Int32 :=
 (gw_lp (σ := Int32 × Int32) (ω := Int32) (fun x1 =>
  if (160 : Int32) ≤ x1.2 then
   some (.inl x1.1)
  else
   if inb x1.2 160 then
   if (tK t x1.2.toNatClampNeg) = (1 : Int32) then
    some (.inr ((x1.1 + (1 : Int32)), (x1.2 + (1 : Int32))))
   else
    some (.inr (x1.1, (x1.2 + (1 : Int32))))
   else none
 ) gw_fl ((0 : Int32), (0 : Int32))).bind fun v1 =>
 some v1
def fT_greatestUsed  (t : TS) : Option Int32 :=
 (gw_lp (σ := Int32 × Int32) (ω := Int32) (fun x1 =>
  if (160 : Int32) ≤ x1.2 then
   some (.inl x1.1)
  else
   if inb x1.2 160 then
   if (tK t x1.2.toNatClampNeg) = 0 then
    some (.inr (x1.1, (x1.2 + (1 : Int32))))
   else
    some (.inr (x1.2, (x1.2 + (1 : Int32))))
   else none
 ) gw_fl ((0 : Int32), (0 : Int32))).bind fun v1 =>
 some v1
def fT_lettersOfWords  (t : TS) : Option Int32 :=
 (gw_lp (σ := Int32 × Int32) (ω := Int32) (fun x1 =>
  if (160 : Int32) ≤ x1.2 then
   some (.inl x1.1)
  else
   gw_let (α := Int32 → Option (Int32 ⊕ Int32 × Int32)) (fun v3 =>
    if (J_at 160 (tK t) x1.2) = (2 : Int32) then
     (fT_endOf x1.2 t).bind fun q7 =>
     (fX_lengthOf q7).bind fun q8 =>
     gw_let (v3 + q8) fun v9 =>
     some (.inr (v9, (x1.2 + (1 : Int32))))
    else
     some (.inr (v3, (x1.2 + (1 : Int32))))
   ) fun j3 =>
   if (J_at 160 (tB t) x1.2) ≤ 0 then
    j3 x1.1
   else
    gw_let (x1.1 + (J_at 160 (tW t) x1.2)) fun v5 =>
    j3 v5
 ) gw_fl ((0 : Int32), (0 : Int32))).bind fun v1 =>
 some v1
def fT_leafOf (p1 : Int64) (t : TS) : Option Int32 :=
 gw_lp (σ := Int32 × Int64 × Int32) (ω := Int32) (fun x1 =>
  if (12 : Int32) < x1.2.2 then
   some (.inl (-1 : Int32))
  else
   if x1.1 = (-1 : Int32) then
    some (.inl (-1 : Int32))
   else
    if (J_at 160 (tK t) x1.1) = (2 : Int32) then
     (fT_endOf x1.1 t).bind fun q5 =>
     if q5 = x1.2.1 then
      some (.inl x1.1)
     else
      some (.inl (-1 : Int32))
    else
     gw_let (fT_childOf x1.1 (fX_firstOf x1.2.1) t) fun v7 =>
     gw_let (fX_withoutFirst x1.2.1) fun v8 =>
     some (.inr (v7, v8, (x1.2.2 + (1 : Int32))))
 ) gw_fl ((0 : Int32), p1, (0 : Int32))
def fT_letterOfRank (p1 : Int32) (p2 : Int32) (t : TS) : Option Int32 :=
 gw_lp (σ := Int32 × Int32) (ω := Int32) (fun x1 =>
  if (8 : Int32) ≤ x1.2 then
   some (.inl (8 : Int32))
  else
   gw_let (fT_childOf p1 x1.2 t) fun v3 =>
   gw_let (α := Int32 → Option (Int32 ⊕ Int32 × Int32)) (fun v4 =>
    if v4 ≤ x1.1 then
     gw_let (x1.1 - v4) fun v7 =>
     some (.inr (v7, (x1.2 + (1 : Int32))))
    else
     some (.inl x1.2)
   ) fun j4 =>
   if v3 = (-1 : Int32) then
    j4 (0 : Int32)
   else
    j4 (J_at 160 (tW t) v3)
 ) gw_fl (p2, (0 : Int32))
def fT_wordsBefore (p1 : Int32) (p2 : Int32) (t : TS) : Option Int32 :=
 (gw_lp (σ := Int32 × Int32) (ω := Int32) (fun x1 =>
  if p2 ≤ x1.2 then
   some (.inl x1.1)
  else
   gw_let (fT_childOf p1 x1.2 t) fun v3 =>
   if v3 = (-1 : Int32) then
    some (.inr (x1.1, (x1.2 + (1 : Int32))))
   else
    gw_let (x1.1 + (J_at 160 (tW t) v3)) fun v5 =>
    some (.inr (v5, (x1.2 + (1 : Int32))))
 ) gw_fl ((0 : Int32), (0 : Int32))).bind fun v1 =>
 some v1
def fT_wordAt (p1 : Int32) (t : TS) : Option Int64 :=
 gw_let (α := Unit → Option Int64) (fun v1 =>
  some (0 : Int64)
 ) fun j1 =>
 if p1 < 0 then
  j1 ()
 else
  if p1 < (fT_words t) then
   gw_lp (σ := Int32 × Int32 × Int64 × Int32) (ω := Int64) (fun x4 =>
    if (12 : Int32) < x4.2.2.2 then
     some (.inl (0 : Int64))
    else
     if (J_at 160 (tK t) x4.1) = (2 : Int32) then
      (fT_endOf x4.1 t).bind fun q7 =>
      some (.inl (x4.2.2.1 ||| (q7 <<< (((4 : Int32) * x4.2.2.2).toInt64 &&& 63))))
     else
      (fT_letterOfRank x4.1 x4.2.1 t).bind fun q8 =>
      (fT_wordsBefore x4.1 q8 t).bind fun q9 =>
      gw_let (x4.2.1 - q9) fun v10 =>
      gw_let (fX_withLetter x4.2.2.1 x4.2.2.2 q8) fun v11 =>
      gw_let (fT_childOf x4.1 q8 t) fun v12 =>
      some (.inr (v12, v10, v11, (x4.2.2.2 + (1 : Int32))))
   ) gw_fl ((0 : Int32), p1, (0 : Int64), (0 : Int32))
  else
   j1 ()
def fT_longestAtStartOf (p1 : Int64) (t : TS) : Option Int32 :=
 gw_lp (σ := Int32 × Int32 × Int64 × Int32) (ω := Int32) (fun x1 =>
  if (12 : Int32) < x1.2.2.2 then
   some (.inl x1.1)
  else
   if x1.2.1 = (-1 : Int32) then
    some (.inl x1.1)
   else
    if (J_at 160 (tK t) x1.2.1) = (2 : Int32) then
     (fT_endOf x1.2.1 t).bind fun q5 =>
     (fX_begins x1.2.2.1 q5).bind fun q6 =>
     if q6 = 0 then
      some (.inl x1.1)
     else
      (fT_endOf x1.2.1 t).bind fun q8 =>
      (fX_lengthOf q8).bind fun q9 =>
      some (.inl (x1.2.2.2 + q9))
    else
     gw_let (α := Int32 → Option (Int32 ⊕ Int32 × Int32 × Int64 × Int32)) (fun v10 =>
      gw_let (α := Int32 → Option (Int32 ⊕ Int32 × Int32 × Int64 × Int32)) (fun v12 =>
       gw_let (fX_withoutFirst x1.2.2.1) fun v14 =>
       some (.inr (v10, v12, v14, (x1.2.2.2 + (1 : Int32))))
      ) fun j12 =>
      if x1.2.2.1 = (0 : Int64) then
       j12 (-1 : Int32)
      else
       j12 (fT_childOf x1.2.1 (fX_firstOf x1.2.2.1) t)
     ) fun j10 =>
     if (fT_childOf x1.2.1 (0 : Int32) t) = (-1 : Int32) then
      j10 x1.1
     else
      j10 x1.2.2.2
 ) gw_fl ((-1 : Int32), (0 : Int32), p1, (0 : Int32))
def fT_wordsWith (p1 : Int64) (t : TS) : Option Int32 :=
 gw_lp (σ := Int32 × Int64 × Int32) (ω := Int32) (fun x1 =>
  if (12 : Int32) < x1.2.2 then
   some (.inl (0 : Int32))
  else
   if x1.1 = (-1 : Int32) then
    some (.inl (0 : Int32))
   else
    if (J_at 160 (tK t) x1.1) = (2 : Int32) then
     (fT_endOf x1.1 t).bind fun q5 =>
     (fX_begins q5 x1.2.1).bind fun q6 =>
     if q6 = 0 then
      some (.inl (0 : Int32))
     else
      some (.inl (1 : Int32))
    else
     if x1.2.1 = (0 : Int64) then
      some (.inl (J_at 160 (tW t) x1.1))
     else
      gw_let (fT_childOf x1.1 (fX_firstOf x1.2.1) t) fun v9 =>
      gw_let (fX_withoutFirst x1.2.1) fun v10 =>
      some (.inr (v9, v10, (x1.2.2 + (1 : Int32))))
 ) gw_fl ((0 : Int32), p1, (0 : Int32))
def fT_wordsAhead (p1 : Int64) (t : TS) : Option Int32 :=
 gw_lp (σ := Int32 × Int32 × Int64 × Int32) (ω := Int32) (fun x1 =>
  if (12 : Int32) < x1.2.2.2 then
   some (.inl x1.1)
  else
   if x1.2.1 = (-1 : Int32) then
    some (.inl x1.1)
   else
    if x1.2.2.1 = (0 : Int64) then
     some (.inl x1.1)
    else
     if (J_at 160 (tK t) x1.2.1) = (2 : Int32) then
      (fT_endOf x1.2.1 t).bind fun q6 =>
      (fX_isAhead q6 x1.2.2.1).bind fun q7 =>
      if q7 = 0 then
       some (.inl x1.1)
      else
       some (.inl (x1.1 + (1 : Int32)))
     else
      (fT_wordsBefore x1.2.1 (fX_firstOf x1.2.2.1) t).bind fun q9 =>
      gw_let (x1.1 + q9) fun v10 =>
      gw_let (fT_childOf x1.2.1 (fX_firstOf x1.2.2.1) t) fun v11 =>
      gw_let (fX_withoutFirst x1.2.2.1) fun v12 =>
      some (.inr (v10, v11, v12, (x1.2.2.2 + (1 : Int32))))
 ) gw_fl ((0 : Int32), (0 : Int32), p1, (0 : Int32))
def fT_addBelow (p1 : Int32) (p2 : Int32) (t : TS) : Option TS :=
 (gw_lp (σ := Int32 × Int32 × TS) (ω := TS) (fun x1 =>
  if (12 : Int32) < x1.2.1 then
   some (.inl x1.2.2)
  else
   if x1.1 = (-1 : Int32) then
    some (.inl x1.2.2)
   else
    gw_let (sTW x1.2.2 (J_put 160 (tW x1.2.2) x1.1 ((J_at 160 (tW x1.2.2) x1.1) + p2))) fun t4 =>
    gw_let (J_at 160 (tP t4) x1.1) fun v5 =>
    some (.inr (v5, (x1.2.1 + (1 : Int32)), t4))
 ) gw_fl (p1, (0 : Int32), t)).bind fun v1 =>
 some v1
def fT_loseChild (p1 : Int32) (p2 : Int32) (t : TS) : TS :=
 gw_let ((J_at 160 (tC t) p1) &&& (((1 : Int32) <<< (p2 &&& 31)) ^^^ (-1 : Int32))) fun v1 =>
 gw_let (sTC t (J_put 160 (tC t) p1 v1)) fun t2 =>
 if v1 = 0 then
  gw_let (sTO t2 (J_put 160 (tO t2) p1 (0 : Int32))) fun t4 =>
  t4
 else
  t2
def fT_freeLeaf (p1 : Int32) (t : TS) : Option (Int32 × TS) :=
 (fE_release (J_at 160 (tE t) p1) (tN t)).bind fun q1 =>
 gw_let (sTN t q1) fun t2 =>
 (fT_addBelow (J_at 160 (tP t2) p1) (-1 : Int32) t2).bind fun q3 =>
 (gw_lp (σ := Int32 × Int32 × Int32 × TS) (ω := Int32 × TS) (fun x4 =>
  if (12 : Int32) < x4.2.2.1 then
   some (.inl (x4.1, x4.2.2.2))
  else
   if x4.2.1 ≤ 0 then
    some (.inl (x4.1, x4.2.2.2))
   else
    if (J_at 160 (tC x4.2.2.2) x4.2.1) = 0 then
     gw_let (J_at 160 (tP x4.2.2.2) x4.2.1) fun v8 =>
     gw_let (fT_loseChild v8 (J_at 160 (tB x4.2.2.2) x4.2.1) x4.2.2.2) fun q9 =>
     gw_let (fT_clearCell x4.2.1 q9) fun q10 =>
     some (.inr ((x4.1 + (1 : Int32)), v8, (x4.2.2.1 + (1 : Int32)), q10))
    else
     some (.inl (x4.1, x4.2.2.2))
 ) gw_fl ((0 : Int32), p1, (0 : Int32), q3)).bind fun v4 =>
 some (v4.1, v4.2)
def fT_leastOffset (p1 : Int32) (t : TS) : Option Int32 :=
 gw_lp (σ := Int32) (ω := Int32) (fun x1 =>
  if (160 : Int32) ≤ x1 then
   some (.inl (0 : Int32))
  else
   (gw_lp (σ := Int32 × Int32) (ω := Int32) (fun x3 =>
    if (8 : Int32) < x3.2 then
     some (.inl x3.1)
    else
     if x3.1 = 0 then
      some (.inl x3.1)
     else
      gw_let (x1 + x3.2) fun v6 =>
      gw_let (α := Int32 → Option (Int32 ⊕ Int32 × Int32)) (fun v8 =>
       some (.inr (v8, (x3.2 + (1 : Int32))))
      ) fun j8 =>
      gw_let (α := Unit → Option (Int32 ⊕ Int32 × Int32)) (fun v7 =>
       j8 (1 : Int32)
      ) fun j7 =>
      if ((p1 >>> (x3.2 &&& 31)) &&& (1 : Int32)) = 0 then
       j7 ()
      else
       gw_let (α := Unit → Option (Int32 ⊕ Int32 × Int32)) (fun v10 =>
        j8 (0 : Int32)
       ) fun j10 =>
       if (160 : Int32) ≤ v6 then
        j10 ()
       else
        if inb v6 160 then
        if (tK t v6.toNatClampNeg) = 0 then
         j7 ()
        else
         j10 ()
        else none
   ) gw_fl ((1 : Int32), (0 : Int32))).bind fun v3 =>
   if v3 = 0 then
    some (.inr (x1 + (1 : Int32)))
   else
    some (.inl x1)
 ) gw_fl (1 : Int32)
def fT_placeFirst (p1 : Int32) (p2 : Int32) (t : TS) : Option (Int32 × TS) :=
 (fT_leastOffset p2 t).bind fun q1 =>
 gw_let (sTO t (J_put 160 (tO t) p1 q1)) fun t2 =>
 if q1 ≤ 0 then
  some ((0 : Int32), t2)
 else
  some ((1 : Int32), t2)
def fT_putChild (p1 : Int32) (p2 : Int32) (p3 : Int32) (p4 : Int32) (t : TS) : Int32 × TS :=
 gw_let ((J_at 160 (tO t) p1) + p2) fun v1 =>
 gw_let (sTK t (J_put 160 (tK t) v1 p3)) fun t2 =>
 gw_let (sTP t2 (J_put 160 (tP t2) v1 p1)) fun t3 =>
 gw_let (sTB t3 (J_put 160 (tB t3) v1 p2)) fun t4 =>
 gw_let (sTE t4 (J_put 160 (tE t4) v1 p4)) fun t5 =>
 gw_let (sTW t5 (J_put 160 (tW t5) v1 (1 : Int32))) fun t6 =>
 gw_let (sTC t6 (J_put 160 (tC t6) p1 ((J_at 160 (tC t6) p1) ||| ((1 : Int32) <<< (p2 &&& 31))))) fun t7 =>
 (v1, t7)
def fT_handChildrenOver (p1 : Int32) (p2 : Int32) (t : TS) : Option TS :=
 (gw_lp (σ := Int32 × TS) (ω := TS) (fun x1 =>
  if (8 : Int32) < x1.1 then
   some (.inl x1.2)
  else
   gw_let ((J_at 160 (tO x1.2) p1) + x1.1) fun v3 =>
   if (J_at 160 (tP x1.2) v3) = p1 then
    gw_let (sTP x1.2 (J_put 160 (tP x1.2) v3 p2)) fun t5 =>
    some (.inr ((x1.1 + (1 : Int32)), t5))
   else
    some (.inr ((x1.1 + (1 : Int32)), x1.2))
 ) gw_fl ((0 : Int32), t)).bind fun v1 =>
 some v1
def fT_copyCell (p1 : Int32) (p2 : Int32) (t : TS) : TS :=
 gw_let (sTK t (J_put 160 (tK t) p2 (J_at 160 (tK t) p1))) fun t1 =>
 gw_let (sTP t1 (J_put 160 (tP t1) p2 (J_at 160 (tP t1) p1))) fun t2 =>
 gw_let (sTB t2 (J_put 160 (tB t2) p2 (J_at 160 (tB t2) p1))) fun t3 =>
 gw_let (sTO t3 (J_put 160 (tO t3) p2 (J_at 160 (tO t3) p1))) fun t4 =>
 gw_let (sTE t4 (J_put 160 (tE t4) p2 (J_at 160 (tE t4) p1))) fun t5 =>
 gw_let (sTC t5 (J_put 160 (tC t5) p2 (J_at 160 (tC t5) p1))) fun t6 =>
 gw_let (sTW t6 (J_put 160 (tW t6) p2 (J_at 160 (tW t6) p1))) fun t7 =>
 t7
def fT_moveChildren (p1 : Int32) (p2 : Int32) (t : TS) : Option (Int32 × TS) :=
 gw_let (J_at 160 (tC t) p1) fun v1 =>
 gw_let (J_at 160 (tO t) p1) fun v2 =>
 (fT_leastOffset (v1 ||| p2) t).bind fun q3 =>
 if q3 = 0 then
  some ((0 : Int32), t)
 else
  (gw_lp (σ := Int32 × TS) (ω := TS) (fun x5 =>
   if (8 : Int32) < x5.1 then
    some (.inl x5.2)
   else
    if ((v1 >>> (x5.1 &&& 31)) &&& (1 : Int32)) = 0 then
     some (.inr ((x5.1 + (1 : Int32)), x5.2))
    else
     (fT_handChildrenOver (v2 + x5.1) (q3 + x5.1) x5.2).bind fun q8 =>
     gw_let (fT_copyCell (v2 + x5.1) (q3 + x5.1) q8) fun q9 =>
     gw_let (fT_clearCell (v2 + x5.1) q9) fun q10 =>
     gw_let (sTM q10 ((tM q10) + (1 : Int32))) fun t11 =>
     some (.inr ((x5.1 + (1 : Int32)), t11))
  ) gw_fl ((0 : Int32), t)).bind fun v5 =>
  gw_let (sTO v5 (J_put 160 (tO v5) p1 q3)) fun t12 =>
  some ((1 : Int32), t12)
def fT_makeRoom (p1 : Int32) (p2 : Int32) (t : TS) : Option (Int32 × TS) :=
 if (J_at 160 (tC t) p1) = 0 then
  (fT_placeFirst p1 ((1 : Int32) <<< (p2 &&& 31)) t).bind fun q2 =>
  if q2.1 = 0 then
   some ((-1 : Int32), q2.2)
  else
   some (p1, q2.2)
 else
  gw_let ((J_at 160 (tO t) p1) + p2) fun v4 =>
  if (J_at 160 (tK t) v4) = 0 then
   some (p1, t)
  else
   gw_let (J_at 160 (tP t) v4) fun v6 =>
   gw_let (α := Unit → Option (Int32 × TS)) (fun v7 =>
    (fT_moveChildren p1 ((1 : Int32) <<< (p2 &&& 31)) t).bind fun q16 =>
    if q16.1 = 0 then
     some ((-1 : Int32), q16.2)
    else
     some (p1, q16.2)
   ) fun j7 =>
   if v6 = (-1 : Int32) then
    j7 ()
   else
    if (fT_childrenOf v6 t) < ((fT_childrenOf p1 t) + (1 : Int32)) then
     gw_let (α := Int32 → Option (Int32 × TS)) (fun v10 =>
      gw_let (J_at 160 (tB t) p1) fun v12 =>
      (fT_moveChildren v6 (0 : Int32) t).bind fun q13 =>
      if q13.1 = 0 then
       some ((-1 : Int32), q13.2)
      else
       if v10 = 0 then
        some (p1, q13.2)
       else
        some (((J_at 160 (tO q13.2) v6) + v12), q13.2)
     ) fun j10 =>
     if (J_at 160 (tP t) p1) = v6 then
      j10 (1 : Int32)
     else
      j10 (0 : Int32)
    else
     j7 ()
def fT_hangLeaf (p1 : Int32) (p2 : Int32) (p3 : Int64) (t : TS) : Option (Int32 × TS) :=
 if p1 = (-1 : Int32) then
  some ((-1 : Int32), t)
 else
  (fE_keep p3 (tN t)).bind fun q2 =>
  gw_let (sTN t q2.2) fun t3 =>
  if q2.1 = (-1 : Int32) then
   some ((-1 : Int32), t3)
  else
   (fT_addBelow p1 (1 : Int32) t3).bind fun q5 =>
   gw_let (fT_putChild p1 p2 (2 : Int32) q2.1 q5) fun q6 =>
   some (q6.1, q6.2)
def fT_fork (p1 : Int32) (p2 : Int64) (p3 : Int64) (t : TS) : Option (Int32 × TS) :=
 gw_let (fX_firstOf p2) fun v1 =>
 gw_let (fX_firstOf p3) fun v2 =>
 (fT_placeFirst p1 (((1 : Int32) <<< (v1 &&& 31)) ||| ((1 : Int32) <<< (v2 &&& 31))) t).bind fun q3 =>
 if q3.1 = 0 then
  some ((-1 : Int32), q3.2)
 else
  (fE_keep (fX_withoutFirst p2) (tN q3.2)).bind fun q5 =>
  gw_let (sTN q3.2 q5.2) fun t6 =>
  (fE_keep (fX_withoutFirst p3) (tN t6)).bind fun q7 =>
  gw_let (sTN t6 q7.2) fun t8 =>
  if q5.1 = (-1 : Int32) then
   some ((-1 : Int32), t8)
  else
   if q7.1 = (-1 : Int32) then
    some ((-1 : Int32), t8)
   else
    (fT_addBelow p1 (1 : Int32) t8).bind fun q11 =>
    gw_let (fT_putChild p1 v1 (2 : Int32) q5.1 q11) fun q12 =>
    gw_let (fT_putChild p1 v2 (2 : Int32) q7.1 q12.2) fun q13 =>
    some (q13.1, q13.2)
def fT_splitLeaf (p1 : Int32) (p2 : Int64) (t : TS) : Option (Int32 × TS) :=
 (fE_textAt (J_at 160 (tE t) p1) (tN t)).bind fun q1 =>
 (fE_release (J_at 160 (tE t) p1) (tN t)).bind fun q2 =>
 gw_let (sTN t q2) fun t3 =>
 gw_let (sTK t3 (J_put 160 (tK t3) p1 (1 : Int32))) fun t4 =>
 gw_let (sTE t4 (J_put 160 (tE t4) p1 (-1 : Int32))) fun t5 =>
 gw_lp (σ := Int64 × Int64 × Int32 × Int32 × TS) (ω := (Int32 × TS)) (fun x6 =>
  gw_let (α := Unit → Option (Int32 × TS ⊕ Int64 × Int64 × Int32 × Int32 × TS)) (fun v7 =>
   (fT_fork x6.2.2.1 x6.1 x6.2.1 x6.2.2.2.2).bind fun q16 =>
   some (.inl (q16.1, q16.2))
  ) fun j7 =>
  if (12 : Int32) ≤ x6.2.2.2.1 then
   j7 ()
  else
   if (fX_firstOf x6.1) = (fX_firstOf x6.2.1) then
    gw_let (fX_firstOf x6.1) fun v10 =>
    (fT_placeFirst x6.2.2.1 ((1 : Int32) <<< (v10 &&& 31)) x6.2.2.2.2).bind fun q11 =>
    if q11.1 = 0 then
     some (.inl ((-1 : Int32), q11.2))
    else
     gw_let (fT_putChild x6.2.2.1 v10 (1 : Int32) (-1 : Int32) q11.2) fun q13 =>
     gw_let (fX_withoutFirst x6.1) fun v14 =>
     gw_let (fX_withoutFirst x6.2.1) fun v15 =>
     some (.inr (v14, v15, q13.1, (x6.2.2.2.1 + (1 : Int32)), q13.2))
   else
    j7 ()
 ) gw_fl (q1, p2, p1, (0 : Int32), t5)
def fT_insert (p1 : Int64) (t : TS) : Option (Int32 × TS) :=
 gw_lp (σ := Int32 × Int64 × Int32) (ω := (Int32 × TS)) (fun x1 =>
  if (12 : Int32) < x1.2.2 then
   some (.inl ((-1 : Int32), t))
  else
   if (J_at 160 (tK t) x1.1) = (2 : Int32) then
    (fT_splitLeaf x1.1 x1.2.1 t).bind fun q4 =>
    some (.inl (q4.1, q4.2))
   else
    gw_let (fX_firstOf x1.2.1) fun v5 =>
    gw_let (fX_withoutFirst x1.2.1) fun v6 =>
    gw_let (fT_childOf x1.1 v5 t) fun v7 =>
    if v7 = (-1 : Int32) then
     (fT_makeRoom x1.1 v5 t).bind fun q9 =>
     (fT_hangLeaf q9.1 v5 v6 q9.2).bind fun q10 =>
     some (.inl (q10.1, q10.2))
    else
     some (.inr (v7, v6, (x1.2.2 + (1 : Int32))))
 ) gw_fl ((0 : Int32), p1, (0 : Int32))
theorem hd_J6_bitCount_0f7a4 : yJ6_bitCount_0f7a4.cls = RJ6 ∧ yJ6_bitCount_0f7a4.cls ≠ "java/lang/invoke/MethodHandle" ∧ yJ6_bitCount_0f7a4.cls ≠ "java/lang/invoke/VarHandle" ∧ (parseMethodDescriptor yJ6_bitCount_0f7a4.desc).map (fun d => d.parameters.length) = some 1 := by decide +kernel
set_option maxHeartbeats 4000000 in
set_option maxRecDepth 100000 in
theorem c_J6_bitCount_0f7a4 (l : Launch) (D : va_G) (cI cJ cO : ClassId) (p1 : Int32) {o : Int32} (h : fJ_bitCount p1 = o) : Ct l D (tysA cI cJ cO) yJ6_bitCount_0f7a4 wsJ6_bitCount_0f7a4 (rmOf 0 0) [.int p1] ([]) (some (.int o)) ([]) := by
  refine Ct_of (own := RJ6) cJ6_bitCount_0f7a4 1 (some .int) (by decide +kernel) rfl rfl (Nat.le_of_ble_eq_true rfl) ?_
  intro p e s m args below meth c A C hnm
  have k265 : Cond.constant RJ6 265 (1431655765 : Int32) ∈ wsJ6_bitCount_0f7a4 := List.mem_of_getElem? (i := 1) rfl
  have k266 : Cond.constant RJ6 266 (858993459 : Int32) ∈ wsJ6_bitCount_0f7a4 := List.mem_of_getElem? (i := 2) rfl
  have k267 : Cond.constant RJ6 267 (252645135 : Int32) ∈ wsJ6_bitCount_0f7a4 := List.mem_of_getElem? (i := 3) rfl
  have h : Rt o (fJ_bitCount p1) := h
  unfold fJ_bitCount at h
  show gw_G p l e (rmOf 0 0) s m args below meth c D A (CtM D below (some (.int o)) ([]) A args s) 1 0 0 ([]) [(0, .int p1)] 0 []
  refine gw_iload_n C dJ6_bitCount_0f7a4_0 0 rfl ?_
  refine gw_iload_n C dJ6_bitCount_0f7a4_1 0 rfl ?_
  refine gw_iconst (v := (1 : Int32)) C dJ6_bitCount_0f7a4_2 rfl ?_
  refine gw_iushr C dJ6_bitCount_0f7a4_3 ?_
  refine gw_ldcw C dJ6_bitCount_0f7a4_4 k265 ?_
  refine gw_iand C dJ6_bitCount_0f7a4_7 ?_
  refine gw_isub C dJ6_bitCount_0f7a4_8 ?_
  refine gw_lt h (fun v1 ev1 h => ?_)
  rw [ev1]
  refine gw_istore_n C dJ6_bitCount_0f7a4_9 [(0, .int v1)] rfl (by decide) rfl ?_
  refine gw_iload_n C dJ6_bitCount_0f7a4_10 0 rfl ?_
  refine gw_ldcw C dJ6_bitCount_0f7a4_11 k266 ?_
  refine gw_iand C dJ6_bitCount_0f7a4_14 ?_
  refine gw_iload_n C dJ6_bitCount_0f7a4_15 0 rfl ?_
  refine gw_iconst (v := (2 : Int32)) C dJ6_bitCount_0f7a4_16 rfl ?_
  refine gw_iushr C dJ6_bitCount_0f7a4_17 ?_
  refine gw_ldcw C dJ6_bitCount_0f7a4_18 k266 ?_
  refine gw_iand C dJ6_bitCount_0f7a4_21 ?_
  refine gw_iadd C dJ6_bitCount_0f7a4_22 ?_
  refine gw_lt h (fun v2 ev2 h => ?_)
  rw [ev2]
  refine gw_istore_n C dJ6_bitCount_0f7a4_23 [(0, .int v2)] rfl (by decide) rfl ?_
  refine gw_iload_n C dJ6_bitCount_0f7a4_24 0 rfl ?_
  refine gw_iload_n C dJ6_bitCount_0f7a4_25 0 rfl ?_
  refine gw_iconst (v := (4 : Int32)) C dJ6_bitCount_0f7a4_26 rfl ?_
  refine gw_iushr C dJ6_bitCount_0f7a4_27 ?_
  refine gw_iadd C dJ6_bitCount_0f7a4_28 ?_
  refine gw_ldcw C dJ6_bitCount_0f7a4_29 k267 ?_
  refine gw_iand C dJ6_bitCount_0f7a4_32 ?_
  refine gw_lt h (fun v3 ev3 h => ?_)
  rw [ev3]
  refine gw_istore_n C dJ6_bitCount_0f7a4_33 [(0, .int v3)] rfl (by decide) rfl ?_
  refine gw_iload_n C dJ6_bitCount_0f7a4_34 0 rfl ?_
  refine gw_iload_n C dJ6_bitCount_0f7a4_35 0 rfl ?_
  refine gw_bipush (v := (8 : Int32)) C dJ6_bitCount_0f7a4_36 rfl ?_
  refine gw_iushr C dJ6_bitCount_0f7a4_38 ?_
  refine gw_iadd C dJ6_bitCount_0f7a4_39 ?_
  refine gw_lt h (fun v4 ev4 h => ?_)
  rw [ev4]
  refine gw_istore_n C dJ6_bitCount_0f7a4_40 [(0, .int v4)] rfl (by decide) rfl ?_
  refine gw_iload_n C dJ6_bitCount_0f7a4_41 0 rfl ?_
  refine gw_iload_n C dJ6_bitCount_0f7a4_42 0 rfl ?_
  refine gw_bipush (v := (16 : Int32)) C dJ6_bitCount_0f7a4_43 rfl ?_
  refine gw_iushr C dJ6_bitCount_0f7a4_45 ?_
  refine gw_iadd C dJ6_bitCount_0f7a4_46 ?_
  refine gw_lt h (fun v5 ev5 h => ?_)
  rw [ev5]
  refine gw_istore_n C dJ6_bitCount_0f7a4_47 [(0, .int v5)] rfl (by decide) rfl ?_
  refine gw_iload_n C dJ6_bitCount_0f7a4_48 0 rfl ?_
  refine gw_bipush (v := (63 : Int32)) C dJ6_bitCount_0f7a4_49 rfl ?_
  refine gw_iand C dJ6_bitCount_0f7a4_51 ?_
  have ho : _ = o := h
  subst ho
  exact gw_iret C dJ6_bitCount_0f7a4_52
theorem hd_X1_clearCell : yX1_clearCell.cls = RX1 ∧ yX1_clearCell.cls ≠ "java/lang/invoke/MethodHandle" ∧ yX1_clearCell.cls ≠ "java/lang/invoke/VarHandle" ∧ (parseMethodDescriptor yX1_clearCell.desc).map (fun d => d.parameters.length) = some 1 := by decide +kernel
set_option maxHeartbeats 4000000 in
set_option maxRecDepth 100000 in
theorem c_X1_clearCell (l : Launch) (D : va_G) (cI cJ cO : ClassId) (b : Nat → Nat) (t : TS) (p1 : Int32) {o : TS} (h : fT_clearCell p1 t = o) : Ct l D (tysA cI cJ cO) yX1_clearCell wsX1_clearCell (rmOf 1 22) [.ref (b 0), .int p1] (wT cI cJ b t) none (wT cI cJ b o) := by
  refine Ct_of (own := RX1) cX1_clearCell 2 none (by decide +kernel) rfl rfl (Nat.le_of_ble_eq_true rfl) ?_
  intro p e s m args below meth c A C hnm
  have iX1 : ∀ w ∈ u_ws RX1 TX1 9, w ∈ wsX1_clearCell := fun w h => List.mem_cons_of_mem _ (List.mem_append_right _ h)
  have f18 : Cond.fieldLink RX1 18 (TX1 1).1 (TX1 1).2.1 (TX1 1).2.2.1 ∈ wsX1_clearCell := List.mem_of_getElem? (i := 1) rfl
  have f22 : Cond.fieldLink RX1 22 (TX1 2).1 (TX1 2).2.1 (TX1 2).2.2.1 ∈ wsX1_clearCell := List.mem_of_getElem? (i := 2) rfl
  have f25 : Cond.fieldLink RX1 25 (TX1 3).1 (TX1 3).2.1 (TX1 3).2.2.1 ∈ wsX1_clearCell := List.mem_of_getElem? (i := 3) rfl
  have f28 : Cond.fieldLink RX1 28 (TX1 4).1 (TX1 4).2.1 (TX1 4).2.2.1 ∈ wsX1_clearCell := List.mem_of_getElem? (i := 4) rfl
  have f31 : Cond.fieldLink RX1 31 (TX1 5).1 (TX1 5).2.1 (TX1 5).2.2.1 ∈ wsX1_clearCell := List.mem_of_getElem? (i := 5) rfl
  have f34 : Cond.fieldLink RX1 34 (TX1 6).1 (TX1 6).2.1 (TX1 6).2.2.1 ∈ wsX1_clearCell := List.mem_of_getElem? (i := 6) rfl
  have f37 : Cond.fieldLink RX1 37 (TX1 7).1 (TX1 7).2.1 (TX1 7).2.2.1 ∈ wsX1_clearCell := List.mem_of_getElem? (i := 7) rfl
  have n_X3_put := gw_cn (R := (rmOf 1 22)) (rm := rmOf 0 0) (index := 50) (n := 3) C gX1_clearCell_X3_put_n50 rfl rfl rfl (by simp [nestW]) (List.mem_of_getElem? (i := 9) rfl) (List.mem_of_getElem? (i := 8) rfl) hd_X3_put.2 ⟨Nat.le_of_ble_eq_true rfl, Nat.le_of_ble_eq_true rfl⟩
  have h : Rt o (fT_clearCell p1 t) := h
  unfold fT_clearCell at h
  show gw_G p l e (rmOf 1 22) s m args below meth c D A (CtM D below none (wT cI cJ b o) A args s) 2 0 0 (wT cI cJ b t) [(0, .ref (b 0)), (1, .int p1)] 0 []
  refine gw_aload_n C dX1_clearCell_0 0 rfl ?_
  refine gw_get C dX1_clearCell_1 0 1 1 rfl rfl iX1 (by decide) f18 rfl ?_
  refine gw_iload_n C dX1_clearCell_4 1 rfl ?_
  refine gw_iconst (v := (0 : Int32)) C dX1_clearCell_5 rfl ?_
  refine gw_lt h (fun t1 et1 h => ?_)
  refine gw_one (st2 := []) (ws' := wT cI cJ b t1) C 1 rfl (run_SN (rest := []) C (c_X3_put l D cI cJ cO (b 1) 160 (tK t) p1 (0 : Int32) (by decide)) n_X3_put rfl rfl (Nat.le_of_ble_eq_true rfl) dX1_clearCell_6 ⟨Nat.zero_le _, Nat.zero_le _⟩) (by subst et1; rfl) rfl ?_
  refine gw_aload_n C dX1_clearCell_9 0 rfl ?_
  refine gw_get C dX1_clearCell_10 0 1 2 rfl rfl iX1 (by decide) f22 rfl ?_
  refine gw_iload_n C dX1_clearCell_13 1 rfl ?_
  refine gw_iconst (v := (-1 : Int32)) C dX1_clearCell_14 rfl ?_
  refine gw_lt h (fun t2 et2 h => ?_)
  refine gw_one (st2 := []) (ws' := wT cI cJ b t2) C 2 rfl (run_SN (rest := []) C (c_X3_put l D cI cJ cO (b 2) 160 (tP t1) p1 (-1 : Int32) (by decide)) n_X3_put rfl rfl (Nat.le_of_ble_eq_true rfl) dX1_clearCell_15 ⟨Nat.zero_le _, Nat.zero_le _⟩) (by subst et2; rfl) rfl ?_
  refine gw_aload_n C dX1_clearCell_18 0 rfl ?_
  refine gw_get C dX1_clearCell_19 0 1 3 rfl rfl iX1 (by decide) f25 rfl ?_
  refine gw_iload_n C dX1_clearCell_22 1 rfl ?_
  refine gw_iconst (v := (-1 : Int32)) C dX1_clearCell_23 rfl ?_
  refine gw_lt h (fun t3 et3 h => ?_)
  refine gw_one (st2 := []) (ws' := wT cI cJ b t3) C 3 rfl (run_SN (rest := []) C (c_X3_put l D cI cJ cO (b 3) 160 (tB t2) p1 (-1 : Int32) (by decide)) n_X3_put rfl rfl (Nat.le_of_ble_eq_true rfl) dX1_clearCell_24 ⟨Nat.zero_le _, Nat.zero_le _⟩) (by subst et3; rfl) rfl ?_
  refine gw_aload_n C dX1_clearCell_27 0 rfl ?_
  refine gw_get C dX1_clearCell_28 0 1 4 rfl rfl iX1 (by decide) f28 rfl ?_
  refine gw_iload_n C dX1_clearCell_31 1 rfl ?_
  refine gw_iconst (v := (0 : Int32)) C dX1_clearCell_32 rfl ?_
  refine gw_lt h (fun t4 et4 h => ?_)
  refine gw_one (st2 := []) (ws' := wT cI cJ b t4) C 4 rfl (run_SN (rest := []) C (c_X3_put l D cI cJ cO (b 4) 160 (tO t3) p1 (0 : Int32) (by decide)) n_X3_put rfl rfl (Nat.le_of_ble_eq_true rfl) dX1_clearCell_33 ⟨Nat.zero_le _, Nat.zero_le _⟩) (by subst et4; rfl) rfl ?_
  refine gw_aload_n C dX1_clearCell_36 0 rfl ?_
  refine gw_get C dX1_clearCell_37 0 1 5 rfl rfl iX1 (by decide) f31 rfl ?_
  refine gw_iload_n C dX1_clearCell_40 1 rfl ?_
  refine gw_iconst (v := (-1 : Int32)) C dX1_clearCell_41 rfl ?_
  refine gw_lt h (fun t5 et5 h => ?_)
  refine gw_one (st2 := []) (ws' := wT cI cJ b t5) C 5 rfl (run_SN (rest := []) C (c_X3_put l D cI cJ cO (b 5) 160 (tE t4) p1 (-1 : Int32) (by decide)) n_X3_put rfl rfl (Nat.le_of_ble_eq_true rfl) dX1_clearCell_42 ⟨Nat.zero_le _, Nat.zero_le _⟩) (by subst et5; rfl) rfl ?_
  refine gw_aload_n C dX1_clearCell_45 0 rfl ?_
  refine gw_get C dX1_clearCell_46 0 1 6 rfl rfl iX1 (by decide) f34 rfl ?_
  refine gw_iload_n C dX1_clearCell_49 1 rfl ?_
  refine gw_iconst (v := (0 : Int32)) C dX1_clearCell_50 rfl ?_
  refine gw_lt h (fun t6 et6 h => ?_)
  refine gw_one (st2 := []) (ws' := wT cI cJ b t6) C 6 rfl (run_SN (rest := []) C (c_X3_put l D cI cJ cO (b 6) 160 (tC t5) p1 (0 : Int32) (by decide)) n_X3_put rfl rfl (Nat.le_of_ble_eq_true rfl) dX1_clearCell_51 ⟨Nat.zero_le _, Nat.zero_le _⟩) (by subst et6; rfl) rfl ?_
  refine gw_aload_n C dX1_clearCell_54 0 rfl ?_
  refine gw_get C dX1_clearCell_55 0 1 7 rfl rfl iX1 (by decide) f37 rfl ?_
  refine gw_iload_n C dX1_clearCell_58 1 rfl ?_
  refine gw_iconst (v := (0 : Int32)) C dX1_clearCell_59 rfl ?_
  refine gw_lt h (fun t7 et7 h => ?_)
  refine gw_one (st2 := []) (ws' := wT cI cJ b t7) C 7 rfl (run_SN (rest := []) C (c_X3_put l D cI cJ cO (b 7) 160 (tW t6) p1 (0 : Int32) (by decide)) n_X3_put rfl rfl (Nat.le_of_ble_eq_true rfl) dX1_clearCell_60 ⟨Nat.zero_le _, Nat.zero_le _⟩) (by subst et7; rfl) rfl ?_
  have ho : _ = o := h
  subst ho
  exact gw_vret C dX1_clearCell_63
theorem hd_X1_words : yX1_words.cls = RX1 ∧ yX1_words.cls ≠ "java/lang/invoke/MethodHandle" ∧ yX1_words.cls ≠ "java/lang/invoke/VarHandle" ∧ (parseMethodDescriptor yX1_words.desc).map (fun d => d.parameters.length) = some 0 := by decide +kernel
set_option maxHeartbeats 4000000 in
set_option maxRecDepth 100000 in
theorem c_X1_words (l : Launch) (D : va_G) (cI cJ cO : ClassId) (b : Nat → Nat) (t : TS)  {o : Int32} (h : fT_words t = o) : Ct l D (tysA cI cJ cO) yX1_words wsX1_words (rmOf 1 21) [.ref (b 0)] (wT cI cJ b t) (some (.int o)) (wT cI cJ b t) := by
  refine Ct_of (own := RX1) cX1_words 1 (some .int) (by decide +kernel) rfl rfl (Nat.le_of_ble_eq_true rfl) ?_
  intro p e s m args below meth c A C hnm
  have iX1 : ∀ w ∈ u_ws RX1 TX1 9, w ∈ wsX1_words := fun w h => List.mem_cons_of_mem _ (List.mem_append_right _ h)
  have f37 : Cond.fieldLink RX1 37 (TX1 7).1 (TX1 7).2.1 (TX1 7).2.2.1 ∈ wsX1_words := List.mem_of_getElem? (i := 1) rfl
  have n_X3_at := gw_cn (R := (rmOf 1 21)) (rm := rmOf 0 0) (index := 85) (n := 2) C gX1_words_X3_at_n85 rfl rfl rfl (by simp [nestW]) (List.mem_of_getElem? (i := 3) rfl) (List.mem_of_getElem? (i := 2) rfl) hd_X3_at.2 ⟨Nat.le_of_ble_eq_true rfl, Nat.le_of_ble_eq_true rfl⟩
  have h : Rt o (fT_words t) := h
  unfold fT_words at h
  show gw_G p l e (rmOf 1 21) s m args below meth c D A (CtM D below (some (.int o)) (wT cI cJ b t) A args s) 1 0 0 (wT cI cJ b t) [(0, .ref (b 0))] 0 []
  refine gw_aload_n C dX1_words_0 0 rfl ?_
  refine gw_get C dX1_words_1 0 1 7 rfl rfl iX1 (by decide) f37 rfl ?_
  refine gw_iconst (v := (0 : Int32)) C dX1_words_4 rfl ?_
  refine gw_one (st2 := [.int (J_at 160 (tW t) (0 : Int32))]) (ws' := wT cI cJ b t) C 7 rfl (run_SN (rest := []) C (c_X3_at l D cI cJ cO (b 7) 160 (tW t) (0 : Int32) (by decide)) n_X3_at rfl rfl (Nat.le_of_ble_eq_true rfl) dX1_words_5 ⟨Nat.zero_le _, Nat.zero_le _⟩) rfl rfl ?_
  have ho : _ = o := h
  subst ho
  exact gw_iret C dX1_words_8
theorem hd_X1_endOf : yX1_endOf.cls = RX1 ∧ yX1_endOf.cls ≠ "java/lang/invoke/MethodHandle" ∧ yX1_endOf.cls ≠ "java/lang/invoke/VarHandle" ∧ (parseMethodDescriptor yX1_endOf.desc).map (fun d => d.parameters.length) = some 1 := by decide +kernel
set_option maxHeartbeats 4000000 in
set_option maxRecDepth 100000 in
theorem c_X1_endOf (l : Launch) (D : va_G) (cI cJ cO : ClassId) (b : Nat → Nat) (t : TS) (p1 : Int32) {o : Int64} (h : fT_endOf p1 t = some o) : Ct l D (tysA cI cJ cO) yX1_endOf wsX1_endOf (rmOf 1 21) [.ref (b 0), .int p1] (wT cI cJ b t) (some (.long o)) (wT cI cJ b t) := by
  refine Ct_of (own := RX1) cX1_endOf 2 (some .long) (by decide +kernel) rfl rfl (Nat.le_of_ble_eq_true rfl) ?_
  intro p e s m args below meth c A C hnm
  have iX1 : ∀ w ∈ u_ws RX1 TX1 9, w ∈ wsX1_endOf := fun w h => List.mem_cons_of_mem _ (List.mem_append_left _ (List.mem_append_right _ h))
  have f12 : Cond.fieldLink RX1 12 (TX1 0).1 (TX1 0).2.1 (TX1 0).2.2.1 ∈ wsX1_endOf := List.mem_of_getElem? (i := 1) rfl
  have f31 : Cond.fieldLink RX1 31 (TX1 5).1 (TX1 5).2.1 (TX1 5).2.2.1 ∈ wsX1_endOf := List.mem_of_getElem? (i := 2) rfl
  have w_X0_textAt := cwV (R := (rmOf 1 21)) (rm := rmOf 0 0) (s := s) (args := args) 1 C.1.2.2.2.2 gX1_endOf_X0_textAt rfl rfl rfl hd_X0_textAt ⟨Nat.le_of_ble_eq_true rfl, Nat.le_of_ble_eq_true rfl⟩
  have n_X3_at := gw_cn (R := (rmOf 1 21)) (rm := rmOf 0 0) (index := 85) (n := 2) C gX1_endOf_X3_at_n85 rfl rfl rfl (by simp [nestW]) (List.mem_of_getElem? (i := 4) rfl) (List.mem_of_getElem? (i := 3) rfl) hd_X3_at.2 ⟨Nat.le_of_ble_eq_true rfl, Nat.le_of_ble_eq_true rfl⟩
  have h := gw_top h
  unfold fT_endOf at h
  show gw_G p l e (rmOf 1 21) s m args below meth c D A (CtM D below (some (.long o)) (wT cI cJ b t) A args s) 2 0 0 (wT cI cJ b t) [(0, .ref (b 0)), (1, .int p1)] 0 []
  refine gw_aload_n C dX1_endOf_0 0 rfl ?_
  refine gw_get C dX1_endOf_1 0 1 0 rfl rfl iX1 (by decide) f12 rfl ?_
  refine gw_aload_n C dX1_endOf_4 0 rfl ?_
  refine gw_get C dX1_endOf_5 0 1 5 rfl rfl iX1 (by decide) f31 rfl ?_
  refine gw_iload_n C dX1_endOf_8 1 rfl ?_
  refine gw_one (st2 := [.int (J_at 160 (tE t) p1), .ref (b 8)]) (ws' := wT cI cJ b t) C 5 rfl (run_SN (rest := [.ref (b 8)]) C (c_X3_at l D cI cJ cO (b 5) 160 (tE t) p1 (by decide)) n_X3_at rfl rfl (Nat.le_of_ble_eq_true rfl) dX1_endOf_9 ⟨Nat.zero_le _, Nat.zero_le _⟩) rfl rfl ?_
  refine gw_bind h (fun q1 hq1 h => ?_)
  refine gw_sub_call (st2 := [.long q1]) (ws' := wT cI cJ b t) C [8, 9, 10] [0, 1, 2, 3, 4, 5, 6, 7] [0, 1, 2, 3, 4, 5, 6, 7, 8, 9, 10] rfl rfl rfl rfl (by decide) rfl rfl (run_V (rest := []) C (c_X0_textAt l D cI cJ cO (b 8) (b 9) (b 10) (tN t) (J_at 160 (tE t) p1) hq1) w_X0_textAt 0 0 rfl rfl rfl rfl rfl (Nat.le_of_ble_eq_true rfl) dX1_endOf_12 ⟨Nat.zero_le _, Nat.zero_le _⟩) rfl ?_
  have h := gw_some h
  have ho := Option.some.inj h
  subst ho
  exact gw_lret C dX1_endOf_15
theorem hd_X1_childOf : yX1_childOf.cls = RX1 ∧ yX1_childOf.cls ≠ "java/lang/invoke/MethodHandle" ∧ yX1_childOf.cls ≠ "java/lang/invoke/VarHandle" ∧ (parseMethodDescriptor yX1_childOf.desc).map (fun d => d.parameters.length) = some 2 := by decide +kernel
set_option maxHeartbeats 4000000 in
set_option maxRecDepth 100000 in
theorem c_X1_childOf (l : Launch) (D : va_G) (cI cJ cO : ClassId) (b : Nat → Nat) (t : TS) (p1 : Int32) (p2 : Int32) {o : Int32} (h : fT_childOf p1 p2 t = o) : Ct l D (tysA cI cJ cO) yX1_childOf wsX1_childOf (rmOf 1 21) [.ref (b 0), .int p1, .int p2] (wT cI cJ b t) (some (.int o)) (wT cI cJ b t) := by
  refine Ct_of (own := RX1) cX1_childOf 3 (some .int) (by decide +kernel) rfl rfl (Nat.le_of_ble_eq_true rfl) ?_
  intro p e s m args below meth c A C hnm
  have iX1 : ∀ w ∈ u_ws RX1 TX1 9, w ∈ wsX1_childOf := fun w h => List.mem_cons_of_mem _ (List.mem_append_right _ h)
  have f28 : Cond.fieldLink RX1 28 (TX1 4).1 (TX1 4).2.1 (TX1 4).2.2.1 ∈ wsX1_childOf := List.mem_of_getElem? (i := 2) rfl
  have f34 : Cond.fieldLink RX1 34 (TX1 6).1 (TX1 6).2.1 (TX1 6).2.2.1 ∈ wsX1_childOf := List.mem_of_getElem? (i := 1) rfl
  have n_X3_at := gw_cn (R := (rmOf 1 21)) (rm := rmOf 0 0) (index := 85) (n := 2) C gX1_childOf_X3_at_n85 rfl rfl rfl (by simp [nestW]) (List.mem_of_getElem? (i := 4) rfl) (List.mem_of_getElem? (i := 3) rfl) hd_X3_at.2 ⟨Nat.le_of_ble_eq_true rfl, Nat.le_of_ble_eq_true rfl⟩
  have h : Rt o (fT_childOf p1 p2 t) := h
  unfold fT_childOf at h
  show gw_G p l e (rmOf 1 21) s m args below meth c D A (CtM D below (some (.int o)) (wT cI cJ b t) A args s) 3 0 0 (wT cI cJ b t) [(0, .ref (b 0)), (1, .int p1), (2, .int p2)] 0 []
  refine gw_aload_n C dX1_childOf_0 0 rfl ?_
  refine gw_get C dX1_childOf_1 0 1 6 rfl rfl iX1 (by decide) f34 rfl ?_
  refine gw_iload_n C dX1_childOf_4 1 rfl ?_
  refine gw_one (st2 := [.int (J_at 160 (tC t) p1)]) (ws' := wT cI cJ b t) C 6 rfl (run_SN (rest := []) C (c_X3_at l D cI cJ cO (b 6) 160 (tC t) p1 (by decide)) n_X3_at rfl rfl (Nat.le_of_ble_eq_true rfl) dX1_childOf_5 ⟨Nat.zero_le _, Nat.zero_le _⟩) rfl rfl ?_
  refine gw_iload_n C dX1_childOf_8 2 rfl ?_
  refine gw_ishr C dX1_childOf_9 ?_
  refine gw_iconst (v := (1 : Int32)) C dX1_childOf_10 rfl ?_
  refine gw_iand C dX1_childOf_11 ?_
  refine gw_if_ne (tgt := 19) C dX1_childOf_12 (by decide) h (fun c1 h => ?_) (fun c1 h => ?_)
  · refine gw_iconst (v := (-1 : Int32)) C dX1_childOf_15 rfl ?_
    refine gw_goto (tgt := 29) C dX1_childOf_16 (by decide) ?_
    have ho : _ = o := h
    subst ho
    exact gw_iret C dX1_childOf_29
  · refine gw_aload_n C dX1_childOf_19 0 rfl ?_
    refine gw_get C dX1_childOf_20 0 1 4 rfl rfl iX1 (by decide) f28 rfl ?_
    refine gw_iload_n C dX1_childOf_23 1 rfl ?_
    refine gw_one (st2 := [.int (J_at 160 (tO t) p1)]) (ws' := wT cI cJ b t) C 4 rfl (run_SN (rest := []) C (c_X3_at l D cI cJ cO (b 4) 160 (tO t) p1 (by decide)) n_X3_at rfl rfl (Nat.le_of_ble_eq_true rfl) dX1_childOf_24 ⟨Nat.zero_le _, Nat.zero_le _⟩) rfl rfl ?_
    refine gw_iload_n C dX1_childOf_27 2 rfl ?_
    refine gw_iadd C dX1_childOf_28 ?_
    have ho : _ = o := h
    subst ho
    exact gw_iret C dX1_childOf_29
theorem hd_X1_childrenOf : yX1_childrenOf.cls = RX1 ∧ yX1_childrenOf.cls ≠ "java/lang/invoke/MethodHandle" ∧ yX1_childrenOf.cls ≠ "java/lang/invoke/VarHandle" ∧ (parseMethodDescriptor yX1_childrenOf.desc).map (fun d => d.parameters.length) = some 1 := by decide +kernel
set_option maxHeartbeats 4000000 in
set_option maxRecDepth 100000 in
theorem c_X1_childrenOf (l : Launch) (D : va_G) (cI cJ cO : ClassId) (b : Nat → Nat) (t : TS) (p1 : Int32) {o : Int32} (h : fT_childrenOf p1 t = o) : Ct l D (tysA cI cJ cO) yX1_childrenOf wsX1_childrenOf (rmOf 1 21) [.ref (b 0), .int p1] (wT cI cJ b t) (some (.int o)) (wT cI cJ b t) := by
  refine Ct_of (own := RX1) cX1_childrenOf 2 (some .int) (by decide +kernel) rfl rfl (Nat.le_of_ble_eq_true rfl) ?_
  intro p e s m args below meth c A C hnm
  have iX1 : ∀ w ∈ u_ws RX1 TX1 9, w ∈ wsX1_childrenOf := fun w h => List.mem_cons_of_mem _ (List.mem_append_right _ h)
  have f34 : Cond.fieldLink RX1 34 (TX1 6).1 (TX1 6).2.1 (TX1 6).2.2.1 ∈ wsX1_childrenOf := List.mem_of_getElem? (i := 1) rfl
  have w_J6_bitCount_0f7a4 := va_cwS (R := (rmOf 1 21)) (rm := rmOf 0 0) (s := s) (args := args) 1 C.1.2.2.2.2 gX1_childrenOf_J6_bitCount_0f7a4 rfl rfl rfl hd_J6_bitCount_0f7a4.2 ⟨Nat.le_of_ble_eq_true rfl, Nat.le_of_ble_eq_true rfl⟩
  have n_X3_at := gw_cn (R := (rmOf 1 21)) (rm := rmOf 0 0) (index := 85) (n := 2) C gX1_childrenOf_X3_at_n85 rfl rfl rfl (by simp [nestW]) (List.mem_of_getElem? (i := 3) rfl) (List.mem_of_getElem? (i := 2) rfl) hd_X3_at.2 ⟨Nat.le_of_ble_eq_true rfl, Nat.le_of_ble_eq_true rfl⟩
  have h : Rt o (fT_childrenOf p1 t) := h
  unfold fT_childrenOf at h
  show gw_G p l e (rmOf 1 21) s m args below meth c D A (CtM D below (some (.int o)) (wT cI cJ b t) A args s) 2 0 0 (wT cI cJ b t) [(0, .ref (b 0)), (1, .int p1)] 0 []
  refine gw_aload_n C dX1_childrenOf_0 0 rfl ?_
  refine gw_get C dX1_childrenOf_1 0 1 6 rfl rfl iX1 (by decide) f34 rfl ?_
  refine gw_iload_n C dX1_childrenOf_4 1 rfl ?_
  refine gw_one (st2 := [.int (J_at 160 (tC t) p1)]) (ws' := wT cI cJ b t) C 6 rfl (run_SN (rest := []) C (c_X3_at l D cI cJ cO (b 6) 160 (tC t) p1 (by decide)) n_X3_at rfl rfl (Nat.le_of_ble_eq_true rfl) dX1_childrenOf_5 ⟨Nat.zero_le _, Nat.zero_le _⟩) rfl rfl ?_
  refine gw_none (st2 := [.int (fJ_bitCount (J_at 160 (tC t) p1))]) C (run_S (rest := []) C (c_J6_bitCount_0f7a4 l D cI cJ cO (J_at 160 (tC t) p1) rfl) w_J6_bitCount_0f7a4 rfl rfl (Nat.le_of_ble_eq_true rfl) dX1_childrenOf_8 ⟨Nat.zero_le _, Nat.zero_le _⟩) rfl ?_
  have ho : _ = o := h
  subst ho
  exact gw_iret C dX1_childrenOf_11
theorem hd_X1_propertyOf : yX1_propertyOf.cls = RX1 ∧ yX1_propertyOf.cls ≠ "java/lang/invoke/MethodHandle" ∧ yX1_propertyOf.cls ≠ "java/lang/invoke/VarHandle" ∧ (parseMethodDescriptor yX1_propertyOf.desc).map (fun d => d.parameters.length) = some 2 := by decide +kernel
set_option maxHeartbeats 4000000 in
set_option maxRecDepth 100000 in
theorem c_X1_propertyOf (l : Launch) (D : va_G) (cI cJ cO : ClassId) (b : Nat → Nat) (t : TS) (p1 : Int32) (p2 : Int32) {o : Int32} (h : fT_propertyOf p1 p2 t = o) : Ct l D (tysA cI cJ cO) yX1_propertyOf wsX1_propertyOf (rmOf 2 42) [.ref (b 0), .int p1, .int p2] (wT cI cJ b t) (some (.int o)) (wT cI cJ b t) := by
  refine Ct_of (own := RX1) cX1_propertyOf 3 (some .int) (by decide +kernel) rfl rfl (Nat.le_of_ble_eq_true rfl) ?_
  intro p e s m args below meth c A C hnm
  have iX1 : ∀ w ∈ u_ws RX1 TX1 9, w ∈ wsX1_propertyOf := fun w h => List.mem_cons_of_mem _ (List.mem_append_right _ h)
  have f18 : Cond.fieldLink RX1 18 (TX1 1).1 (TX1 1).2.1 (TX1 1).2.2.1 ∈ wsX1_propertyOf := List.mem_of_getElem? (i := 1) rfl
  have f22 : Cond.fieldLink RX1 22 (TX1 2).1 (TX1 2).2.1 (TX1 2).2.2.1 ∈ wsX1_propertyOf := List.mem_of_getElem? (i := 2) rfl
  have f25 : Cond.fieldLink RX1 25 (TX1 3).1 (TX1 3).2.1 (TX1 3).2.2.1 ∈ wsX1_propertyOf := List.mem_of_getElem? (i := 3) rfl
  have f28 : Cond.fieldLink RX1 28 (TX1 4).1 (TX1 4).2.1 (TX1 4).2.2.1 ∈ wsX1_propertyOf := List.mem_of_getElem? (i := 4) rfl
  have f31 : Cond.fieldLink RX1 31 (TX1 5).1 (TX1 5).2.1 (TX1 5).2.2.1 ∈ wsX1_propertyOf := List.mem_of_getElem? (i := 5) rfl
  have f37 : Cond.fieldLink RX1 37 (TX1 7).1 (TX1 7).2.1 (TX1 7).2.2.1 ∈ wsX1_propertyOf := List.mem_of_getElem? (i := 6) rfl
  have w_X1_childrenOf := cwV (R := (rmOf 2 42)) (rm := rmOf 1 21) (s := s) (args := args) 1 C.1.2.2.2.2 gX1_propertyOf_X1_childrenOf rfl rfl rfl hd_X1_childrenOf ⟨Nat.le_of_ble_eq_true rfl, Nat.le_of_ble_eq_true rfl⟩
  have n_X3_at := gw_cn (R := (rmOf 2 42)) (rm := rmOf 0 0) (index := 85) (n := 2) C gX1_propertyOf_X3_at_n85 rfl rfl rfl (by simp [nestW]) (List.mem_of_getElem? (i := 8) rfl) (List.mem_of_getElem? (i := 7) rfl) hd_X3_at.2 ⟨Nat.le_of_ble_eq_true rfl, Nat.le_of_ble_eq_true rfl⟩
  have h : Rt o (fT_propertyOf p1 p2 t) := h
  unfold fT_propertyOf at h
  show gw_G p l e (rmOf 2 42) s m args below meth c D A (CtM D below (some (.int o)) (wT cI cJ b t) A args s) 3 0 0 (wT cI cJ b t) [(0, .ref (b 0)), (1, .int p1), (2, .int p2)] 0 []
  refine gw_iload_n C dX1_propertyOf_0 2 rfl ?_
  refine gw_if h (fun c1 h => ?_) (fun c1 h => ?_)
  · refine gw_tabIn (k := (0 : Int32)) (off := 39) (tgt := 40) C dX1_propertyOf_1 c1 (by decide) (by decide) rfl (by decide) ?_
    refine gw_aload_n C dX1_propertyOf_40 0 rfl ?_
    refine gw_get C dX1_propertyOf_41 0 1 1 rfl rfl iX1 (by decide) f18 rfl ?_
    refine gw_iload_n C dX1_propertyOf_44 1 rfl ?_
    refine gw_one (st2 := [.int (J_at 160 (tK t) p1)]) (ws' := wT cI cJ b t) C 1 rfl (run_SN (rest := []) C (c_X3_at l D cI cJ cO (b 1) 160 (tK t) p1 (by decide)) n_X3_at rfl rfl (Nat.le_of_ble_eq_true rfl) dX1_propertyOf_45 ⟨Nat.zero_le _, Nat.zero_le _⟩) rfl rfl ?_
    have ho : _ = o := h
    subst ho
    exact gw_iret C dX1_propertyOf_48
  refine gw_if h (fun c2 h => ?_) (fun c2 h => ?_)
  · refine gw_tabIn (k := (1 : Int32)) (off := 48) (tgt := 49) C dX1_propertyOf_1 c2 (by decide) (by decide) rfl (by decide) ?_
    refine gw_aload_n C dX1_propertyOf_49 0 rfl ?_
    refine gw_get C dX1_propertyOf_50 0 1 2 rfl rfl iX1 (by decide) f22 rfl ?_
    refine gw_iload_n C dX1_propertyOf_53 1 rfl ?_
    refine gw_one (st2 := [.int (J_at 160 (tP t) p1)]) (ws' := wT cI cJ b t) C 2 rfl (run_SN (rest := []) C (c_X3_at l D cI cJ cO (b 2) 160 (tP t) p1 (by decide)) n_X3_at rfl rfl (Nat.le_of_ble_eq_true rfl) dX1_propertyOf_54 ⟨Nat.zero_le _, Nat.zero_le _⟩) rfl rfl ?_
    have ho : _ = o := h
    subst ho
    exact gw_iret C dX1_propertyOf_57
  refine gw_if h (fun c3 h => ?_) (fun c3 h => ?_)
  · refine gw_tabIn (k := (2 : Int32)) (off := 57) (tgt := 58) C dX1_propertyOf_1 c3 (by decide) (by decide) rfl (by decide) ?_
    refine gw_aload_n C dX1_propertyOf_58 0 rfl ?_
    refine gw_get C dX1_propertyOf_59 0 1 3 rfl rfl iX1 (by decide) f25 rfl ?_
    refine gw_iload_n C dX1_propertyOf_62 1 rfl ?_
    refine gw_one (st2 := [.int (J_at 160 (tB t) p1)]) (ws' := wT cI cJ b t) C 3 rfl (run_SN (rest := []) C (c_X3_at l D cI cJ cO (b 3) 160 (tB t) p1 (by decide)) n_X3_at rfl rfl (Nat.le_of_ble_eq_true rfl) dX1_propertyOf_63 ⟨Nat.zero_le _, Nat.zero_le _⟩) rfl rfl ?_
    have ho : _ = o := h
    subst ho
    exact gw_iret C dX1_propertyOf_66
  refine gw_if h (fun c4 h => ?_) (fun c4 h => ?_)
  · refine gw_tabIn (k := (3 : Int32)) (off := 66) (tgt := 67) C dX1_propertyOf_1 c4 (by decide) (by decide) rfl (by decide) ?_
    refine gw_aload_n C dX1_propertyOf_67 0 rfl ?_
    refine gw_get C dX1_propertyOf_68 0 1 4 rfl rfl iX1 (by decide) f28 rfl ?_
    refine gw_iload_n C dX1_propertyOf_71 1 rfl ?_
    refine gw_one (st2 := [.int (J_at 160 (tO t) p1)]) (ws' := wT cI cJ b t) C 4 rfl (run_SN (rest := []) C (c_X3_at l D cI cJ cO (b 4) 160 (tO t) p1 (by decide)) n_X3_at rfl rfl (Nat.le_of_ble_eq_true rfl) dX1_propertyOf_72 ⟨Nat.zero_le _, Nat.zero_le _⟩) rfl rfl ?_
    have ho : _ = o := h
    subst ho
    exact gw_iret C dX1_propertyOf_75
  refine gw_if h (fun c5 h => ?_) (fun c5 h => ?_)
  · refine gw_tabIn (k := (4 : Int32)) (off := 75) (tgt := 76) C dX1_propertyOf_1 c5 (by decide) (by decide) rfl (by decide) ?_
    refine gw_aload_n C dX1_propertyOf_76 0 rfl ?_
    refine gw_get C dX1_propertyOf_77 0 1 5 rfl rfl iX1 (by decide) f31 rfl ?_
    refine gw_iload_n C dX1_propertyOf_80 1 rfl ?_
    refine gw_one (st2 := [.int (J_at 160 (tE t) p1)]) (ws' := wT cI cJ b t) C 5 rfl (run_SN (rest := []) C (c_X3_at l D cI cJ cO (b 5) 160 (tE t) p1 (by decide)) n_X3_at rfl rfl (Nat.le_of_ble_eq_true rfl) dX1_propertyOf_81 ⟨Nat.zero_le _, Nat.zero_le _⟩) rfl rfl ?_
    have ho : _ = o := h
    subst ho
    exact gw_iret C dX1_propertyOf_84
  refine gw_if h (fun c6 h => ?_) (fun c6 h => ?_)
  · refine gw_tabIn (k := (5 : Int32)) (off := 84) (tgt := 85) C dX1_propertyOf_1 c6 (by decide) (by decide) rfl (by decide) ?_
    refine gw_aload_n C dX1_propertyOf_85 0 rfl ?_
    refine gw_iload_n C dX1_propertyOf_86 1 rfl ?_
    refine gw_whole (st2 := [.int (fT_childrenOf p1 t)]) C (run_V (rest := []) C (c_X1_childrenOf l D cI cJ cO b t p1 rfl) w_X1_childrenOf 0 1 rfl rfl rfl rfl rfl (Nat.le_of_ble_eq_true rfl) dX1_propertyOf_87 ⟨Nat.zero_le _, Nat.zero_le _⟩) rfl ?_
    have ho : _ = o := h
    subst ho
    exact gw_iret C dX1_propertyOf_90
  refine gw_tabOut (tgt := 91) C dX1_propertyOf_1 (gw_out6 (lo := 0) c1 c2 c3 c4 c5 c6) (by decide) ?_
  refine gw_aload_n C dX1_propertyOf_91 0 rfl ?_
  refine gw_get C dX1_propertyOf_92 0 1 7 rfl rfl iX1 (by decide) f37 rfl ?_
  refine gw_iload_n C dX1_propertyOf_95 1 rfl ?_
  refine gw_one (st2 := [.int (J_at 160 (tW t) p1)]) (ws' := wT cI cJ b t) C 7 rfl (run_SN (rest := []) C (c_X3_at l D cI cJ cO (b 7) 160 (tW t) p1 (by decide)) n_X3_at rfl rfl (Nat.le_of_ble_eq_true rfl) dX1_propertyOf_96 ⟨Nat.zero_le _, Nat.zero_le _⟩) rfl rfl ?_
  have ho : _ = o := h
  subst ho
  exact gw_iret C dX1_propertyOf_99
theorem hd_X1_usedCells : yX1_usedCells.cls = RX1 ∧ yX1_usedCells.cls ≠ "java/lang/invoke/MethodHandle" ∧ yX1_usedCells.cls ≠ "java/lang/invoke/VarHandle" ∧ (parseMethodDescriptor yX1_usedCells.desc).map (fun d => d.parameters.length) = some 0 := by decide +kernel
set_option maxHeartbeats 4000000 in
set_option maxRecDepth 100000 in
theorem c_X1_usedCells (l : Launch) (D : va_G) (cI cJ cO : ClassId) (b : Nat → Nat) (t : TS)  {o : Int32} (h : fT_usedCells t = some o) : Ct l D (tysA cI cJ cO) yX1_usedCells wsX1_usedCells (rmOf 0 0) [.ref (b 0)] (wT cI cJ b t) (some (.int o)) (wT cI cJ b t) := by
  refine Ct_of (own := RX1) cX1_usedCells 3 (some .int) (by decide +kernel) rfl rfl (Nat.le_of_ble_eq_true rfl) ?_
  intro p e s m args below meth c A C hnm
  have iX1 : ∀ w ∈ u_ws RX1 TX1 9, w ∈ wsX1_usedCells := fun w h => List.mem_cons_of_mem _ (List.mem_append_right _ h)
  have f18 : Cond.fieldLink RX1 18 (TX1 1).1 (TX1 1).2.1 (TX1 1).2.2.1 ∈ wsX1_usedCells := List.mem_of_getElem? (i := 1) rfl
  have h := gw_top h
  unfold fT_usedCells at h
  show gw_G p l e (rmOf 0 0) s m args below meth c D A (CtM D below (some (.int o)) (wT cI cJ b t) A args s) 3 0 0 (wT cI cJ b t) [(0, .ref (b 0))] 0 []
  refine gw_iconst (v := (0 : Int32)) C dX1_usedCells_0 rfl ?_
  refine gw_istore_n C dX1_usedCells_1 [(1, .int (0 : Int32)), (0, .ref (b 0))] rfl (by decide) rfl ?_
  refine gw_iconst (v := (0 : Int32)) C dX1_usedCells_2 rfl ?_
  refine gw_istore_n C dX1_usedCells_3 [(2, .int (0 : Int32)), (1, .int (0 : Int32)), (0, .ref (b 0))] rfl (by decide) rfl ?_
  refine gw_sub [2, 1, 0] rfl ?_
  refine gw_lpb (x0 := ((0 : Int32), (0 : Int32))) (Go := fun x1 : Int32 × Int32 => gw_G p l e (rmOf 0 0) s m args below meth c D A (CtM D below (some (.int o)) (wT cI cJ b t) A args s) 3 0 0 (wT cI cJ b t) [(0, .ref (b 0)), (1, .int x1.1), (2, .int x1.2)] 4 []) (GoX := fun v1 : Int32 => gw_G p l e (rmOf 0 0) s m args below meth c D A (CtM D below (some (.int o)) (wT cI cJ b t) A args s) 3 0 0 (wT cI cJ b t) [(1, .int v1)] 31 []) h (fun v1 h => ?_) (fun x1 K1 X1 I1 h => ?_)
  · refine gw_iload_n C dX1_usedCells_31 0 rfl ?_
    have h := gw_some h
    have ho := Option.some.inj h
    subst ho
    exact gw_iret C dX1_usedCells_32
  · refine gw_iload_n C dX1_usedCells_4 2 rfl ?_
    refine gw_aload_n C dX1_usedCells_5 0 rfl ?_
    refine gw_get C dX1_usedCells_6 0 1 1 rfl rfl iX1 (by decide) f18 rfl ?_
    refine gw_alen (v := (160 : Int32)) C dX1_usedCells_9 1 0 rfl rfl rfl ?_
    refine gw_icmp_ge (tgt := 31) C dX1_usedCells_10 (by decide) h (fun c2 h => ?_) (fun c2 h => ?_)
    · refine gw_sub [1] rfl ?_
      have h := gw_some h
      exact X1 _ h
    · refine gw_aload_n C dX1_usedCells_13 0 rfl ?_
      refine gw_get C dX1_usedCells_14 0 1 1 rfl rfl iX1 (by decide) f18 rfl ?_
      refine gw_iload_n C dX1_usedCells_17 2 rfl ?_
      refine gw_chk h (fun b3 h => ?_)
      refine gw_iald C dX1_usedCells_18 1 0 rfl rfl b3 ?_
      refine gw_if_eq (tgt := 25) C dX1_usedCells_19 (by decide) h (fun c4 h => ?_) (fun c4 h => ?_)
      · refine gw_iinc (v := (x1.2 + (1 : Int32))) C dX1_usedCells_25 [(2, .int (x1.2 + (1 : Int32))), (0, .ref (b 0)), (1, .int x1.1)] 2 rfl rfl (by decide) rfl ?_
        refine gw_goto (tgt := 4) C dX1_usedCells_28 (by decide) ?_
        refine gw_sub [1, 2, 0] rfl ?_
        have h := gw_some h
        exact I1 _ h
      · refine gw_iinc (v := (x1.1 + (1 : Int32))) C dX1_usedCells_22 [(1, .int (x1.1 + (1 : Int32))), (0, .ref (b 0)), (2, .int x1.2)] 1 rfl rfl (by decide) rfl ?_
        refine gw_iinc (v := (x1.2 + (1 : Int32))) C dX1_usedCells_25 [(2, .int (x1.2 + (1 : Int32))), (1, .int (x1.1 + (1 : Int32))), (0, .ref (b 0))] 2 rfl rfl (by decide) rfl ?_
        refine gw_goto (tgt := 4) C dX1_usedCells_28 (by decide) ?_
        refine gw_sub [2, 1, 0] rfl ?_
        have h := gw_some h
        exact I1 _ h
theorem hd_X1_innerCells : yX1_innerCells.cls = RX1 ∧ yX1_innerCells.cls ≠ "java/lang/invoke/MethodHandle" ∧ yX1_innerCells.cls ≠ "java/lang/invoke/VarHandle" ∧ (parseMethodDescriptor yX1_innerCells.desc).map (fun d => d.parameters.length) = some 0 := by decide +kernel
set_option maxHeartbeats 4000000 in
set_option maxRecDepth 100000 in
theorem c_X1_innerCells (l : Launch) (D : va_G) (cI cJ cO : ClassId) (b : Nat → Nat) (t : TS)  {o : Int32} (h : fT_innerCells t = some o) : Ct l D (tysA cI cJ cO) yX1_innerCells wsX1_innerCells (rmOf 0 0) [.ref (b 0)] (wT cI cJ b t) (some (.int o)) (wT cI cJ b t) := by
  refine Ct_of (own := RX1) cX1_innerCells 3 (some .int) (by decide +kernel) rfl rfl (Nat.le_of_ble_eq_true rfl) ?_
  intro p e s m args below meth c A C hnm
  have iX1 : ∀ w ∈ u_ws RX1 TX1 9, w ∈ wsX1_innerCells := fun w h => List.mem_cons_of_mem _ (List.mem_append_right _ h)
  have f18 : Cond.fieldLink RX1 18 (TX1 1).1 (TX1 1).2.1 (TX1 1).2.2.1 ∈ wsX1_innerCells := List.mem_of_getElem? (i := 1) rfl
  have h := gw_top h
  unfold fT_innerCells at h
  show gw_G p l e (rmOf 0 0) s m args below meth c D A (CtM D below (some (.int o)) (wT cI cJ b t) A args s) 3 0 0 (wT cI cJ b t) [(0, .ref (b 0))] 0 []
  refine gw_iconst (v := (0 : Int32)) C dX1_innerCells_0 rfl ?_
  refine gw_istore_n C dX1_innerCells_1 [(1, .int (0 : Int32)), (0, .ref (b 0))] rfl (by decide) rfl ?_
  refine gw_iconst (v := (0 : Int32)) C dX1_innerCells_2 rfl ?_
  refine gw_istore_n C dX1_innerCells_3 [(2, .int (0 : Int32)), (1, .int (0 : Int32)), (0, .ref (b 0))] rfl (by decide) rfl ?_
  refine gw_sub [2, 1, 0] rfl ?_
  refine gw_lpb (x0 := ((0 : Int32), (0 : Int32))) (Go := fun x1 : Int32 × Int32 => gw_G p l e (rmOf 0 0) s m args below meth c D A (CtM D below (some (.int o)) (wT cI cJ b t) A args s) 3 0 0 (wT cI cJ b t) [(0, .ref (b 0)), (1, .int x1.1), (2, .int x1.2)] 4 []) (GoX := fun v1 : Int32 => gw_G p l e (rmOf 0 0) s m args below meth c D A (CtM D below (some (.int o)) (wT cI cJ b t) A args s) 3 0 0 (wT cI cJ b t) [(1, .int v1)] 32 []) h (fun v1 h => ?_) (fun x1 K1 X1 I1 h => ?_)
  · refine gw_iload_n C dX1_innerCells_32 0 rfl ?_
    have h := gw_some h
    have ho := Option.some.inj h
    subst ho
    exact gw_iret C dX1_innerCells_33
  · refine gw_iload_n C dX1_innerCells_4 2 rfl ?_
    refine gw_aload_n C dX1_innerCells_5 0 rfl ?_
    refine gw_get C dX1_innerCells_6 0 1 1 rfl rfl iX1 (by decide) f18 rfl ?_
    refine gw_alen (v := (160 : Int32)) C dX1_innerCells_9 1 0 rfl rfl rfl ?_
    refine gw_icmp_ge (tgt := 32) C dX1_innerCells_10 (by decide) h (fun c2 h => ?_) (fun c2 h => ?_)
    · refine gw_sub [1] rfl ?_
      have h := gw_some h
      exact X1 _ h
    · refine gw_aload_n C dX1_innerCells_13 0 rfl ?_
      refine gw_get C dX1_innerCells_14 0 1 1 rfl rfl iX1 (by decide) f18 rfl ?_
      refine gw_iload_n C dX1_innerCells_17 2 rfl ?_
      refine gw_chk h (fun b3 h => ?_)
      refine gw_iald C dX1_innerCells_18 1 0 rfl rfl b3 ?_
      refine gw_iconst (v := (1 : Int32)) C dX1_innerCells_19 rfl ?_
      refine gw_icmp_ne (tgt := 26) C dX1_innerCells_20 (by decide) h (fun c4 h => ?_) (fun c4 h => ?_)
      · refine gw_iinc (v := (x1.1 + (1 : Int32))) C dX1_innerCells_23 [(1, .int (x1.1 + (1 : Int32))), (0, .ref (b 0)), (2, .int x1.2)] 1 rfl rfl (by decide) rfl ?_
        refine gw_iinc (v := (x1.2 + (1 : Int32))) C dX1_innerCells_26 [(2, .int (x1.2 + (1 : Int32))), (1, .int (x1.1 + (1 : Int32))), (0, .ref (b 0))] 2 rfl rfl (by decide) rfl ?_
        refine gw_goto (tgt := 4) C dX1_innerCells_29 (by decide) ?_
        refine gw_sub [2, 1, 0] rfl ?_
        have h := gw_some h
        exact I1 _ h
      · refine gw_iinc (v := (x1.2 + (1 : Int32))) C dX1_innerCells_26 [(2, .int (x1.2 + (1 : Int32))), (0, .ref (b 0)), (1, .int x1.1)] 2 rfl rfl (by decide) rfl ?_
        refine gw_goto (tgt := 4) C dX1_innerCells_29 (by decide) ?_
        refine gw_sub [1, 2, 0] rfl ?_
        have h := gw_some h
        exact I1 _ h
theorem hd_X1_greatestUsed : yX1_greatestUsed.cls = RX1 ∧ yX1_greatestUsed.cls ≠ "java/lang/invoke/MethodHandle" ∧ yX1_greatestUsed.cls ≠ "java/lang/invoke/VarHandle" ∧ (parseMethodDescriptor yX1_greatestUsed.desc).map (fun d => d.parameters.length) = some 0 := by decide +kernel
set_option maxHeartbeats 4000000 in
set_option maxRecDepth 100000 in
theorem c_X1_greatestUsed (l : Launch) (D : va_G) (cI cJ cO : ClassId) (b : Nat → Nat) (t : TS)  {o : Int32} (h : fT_greatestUsed t = some o) : Ct l D (tysA cI cJ cO) yX1_greatestUsed wsX1_greatestUsed (rmOf 0 0) [.ref (b 0)] (wT cI cJ b t) (some (.int o)) (wT cI cJ b t) := by
  refine Ct_of (own := RX1) cX1_greatestUsed 3 (some .int) (by decide +kernel) rfl rfl (Nat.le_of_ble_eq_true rfl) ?_
  intro p e s m args below meth c A C hnm
  have iX1 : ∀ w ∈ u_ws RX1 TX1 9, w ∈ wsX1_greatestUsed := fun w h => List.mem_cons_of_mem _ (List.mem_append_right _ h)
  have f18 : Cond.fieldLink RX1 18 (TX1 1).1 (TX1 1).2.1 (TX1 1).2.2.1 ∈ wsX1_greatestUsed := List.mem_of_getElem? (i := 1) rfl
  have h := gw_top h
  unfold fT_greatestUsed at h
  show gw_G p l e (rmOf 0 0) s m args below meth c D A (CtM D below (some (.int o)) (wT cI cJ b t) A args s) 3 0 0 (wT cI cJ b t) [(0, .ref (b 0))] 0 []
  refine gw_iconst (v := (0 : Int32)) C dX1_greatestUsed_0 rfl ?_
  refine gw_istore_n C dX1_greatestUsed_1 [(1, .int (0 : Int32)), (0, .ref (b 0))] rfl (by decide) rfl ?_
  refine gw_iconst (v := (0 : Int32)) C dX1_greatestUsed_2 rfl ?_
  refine gw_istore_n C dX1_greatestUsed_3 [(2, .int (0 : Int32)), (1, .int (0 : Int32)), (0, .ref (b 0))] rfl (by decide) rfl ?_
  refine gw_sub [2, 1, 0] rfl ?_
  refine gw_lpb (x0 := ((0 : Int32), (0 : Int32))) (Go := fun x1 : Int32 × Int32 => gw_G p l e (rmOf 0 0) s m args below meth c D A (CtM D below (some (.int o)) (wT cI cJ b t) A args s) 3 0 0 (wT cI cJ b t) [(0, .ref (b 0)), (1, .int x1.1), (2, .int x1.2)] 4 []) (GoX := fun v1 : Int32 => gw_G p l e (rmOf 0 0) s m args below meth c D A (CtM D below (some (.int o)) (wT cI cJ b t) A args s) 3 0 0 (wT cI cJ b t) [(1, .int v1)] 30 []) h (fun v1 h => ?_) (fun x1 K1 X1 I1 h => ?_)
  · refine gw_iload_n C dX1_greatestUsed_30 0 rfl ?_
    have h := gw_some h
    have ho := Option.some.inj h
    subst ho
    exact gw_iret C dX1_greatestUsed_31
  · refine gw_iload_n C dX1_greatestUsed_4 2 rfl ?_
    refine gw_aload_n C dX1_greatestUsed_5 0 rfl ?_
    refine gw_get C dX1_greatestUsed_6 0 1 1 rfl rfl iX1 (by decide) f18 rfl ?_
    refine gw_alen (v := (160 : Int32)) C dX1_greatestUsed_9 1 0 rfl rfl rfl ?_
    refine gw_icmp_ge (tgt := 30) C dX1_greatestUsed_10 (by decide) h (fun c2 h => ?_) (fun c2 h => ?_)
    · refine gw_sub [1] rfl ?_
      have h := gw_some h
      exact X1 _ h
    · refine gw_aload_n C dX1_greatestUsed_13 0 rfl ?_
      refine gw_get C dX1_greatestUsed_14 0 1 1 rfl rfl iX1 (by decide) f18 rfl ?_
      refine gw_iload_n C dX1_greatestUsed_17 2 rfl ?_
      refine gw_chk h (fun b3 h => ?_)
      refine gw_iald C dX1_greatestUsed_18 1 0 rfl rfl b3 ?_
      refine gw_if_eq (tgt := 24) C dX1_greatestUsed_19 (by decide) h (fun c4 h => ?_) (fun c4 h => ?_)
      · refine gw_iinc (v := (x1.2 + (1 : Int32))) C dX1_greatestUsed_24 [(2, .int (x1.2 + (1 : Int32))), (0, .ref (b 0)), (1, .int x1.1)] 2 rfl rfl (by decide) rfl ?_
        refine gw_goto (tgt := 4) C dX1_greatestUsed_27 (by decide) ?_
        refine gw_sub [1, 2, 0] rfl ?_
        have h := gw_some h
        exact I1 _ h
      · refine gw_iload_n C dX1_greatestUsed_22 2 rfl ?_
        refine gw_istore_n C dX1_greatestUsed_23 [(1, .int x1.2), (0, .ref (b 0)), (2, .int x1.2)] rfl (by decide) rfl ?_
        refine gw_iinc (v := (x1.2 + (1 : Int32))) C dX1_greatestUsed_24 [(2, .int (x1.2 + (1 : Int32))), (1, .int x1.2), (0, .ref (b 0))] 2 rfl rfl (by decide) rfl ?_
        refine gw_goto (tgt := 4) C dX1_greatestUsed_27 (by decide) ?_
        refine gw_sub [2, 1, 0] rfl ?_
        have h := gw_some h
        exact I1 _ h
theorem hd_X1_lettersOfWords : yX1_lettersOfWords.cls = RX1 ∧ yX1_lettersOfWords.cls ≠ "java/lang/invoke/MethodHandle" ∧ yX1_lettersOfWords.cls ≠ "java/lang/invoke/VarHandle" ∧ (parseMethodDescriptor yX1_lettersOfWords.desc).map (fun d => d.parameters.length) = some 0 := by decide +kernel
set_option maxHeartbeats 4000000 in
set_option maxRecDepth 100000 in
theorem c_X1_lettersOfWords (l : Launch) (D : va_G) (cI cJ cO : ClassId) (b : Nat → Nat) (t : TS)  {o : Int32} (h : fT_lettersOfWords t = some o) : Ct l D (tysA cI cJ cO) yX1_lettersOfWords wsX1_lettersOfWords (rmOf 3 66) [.ref (b 0)] (wT cI cJ b t) (some (.int o)) (wT cI cJ b t) := by
  refine Ct_of (own := RX1) cX1_lettersOfWords 3 (some .int) (by decide +kernel) rfl rfl (Nat.le_of_ble_eq_true rfl) ?_
  intro p e s m args below meth c A C hnm
  have iX1 : ∀ w ∈ u_ws RX1 TX1 9, w ∈ wsX1_lettersOfWords := fun w h => List.mem_cons_of_mem _ (List.mem_append_left _ (List.mem_append_right _ h))
  have f18 : Cond.fieldLink RX1 18 (TX1 1).1 (TX1 1).2.1 (TX1 1).2.2.1 ∈ wsX1_lettersOfWords := List.mem_of_getElem? (i := 3) rfl
  have f25 : Cond.fieldLink RX1 25 (TX1 3).1 (TX1 3).2.1 (TX1 3).2.2.1 ∈ wsX1_lettersOfWords := List.mem_of_getElem? (i := 1) rfl
  have f37 : Cond.fieldLink RX1 37 (TX1 7).1 (TX1 7).2.1 (TX1 7).2.2.1 ∈ wsX1_lettersOfWords := List.mem_of_getElem? (i := 2) rfl
  have w_X1_endOf := cwV (R := (rmOf 3 66)) (rm := rmOf 1 21) (s := s) (args := args) 1 C.1.2.2.2.2 gX1_lettersOfWords_X1_endOf rfl rfl rfl hd_X1_endOf ⟨Nat.le_of_ble_eq_true rfl, Nat.le_of_ble_eq_true rfl⟩
  have w_X2_lengthOf := va_cwS (R := (rmOf 3 66)) (rm := rmOf 2 43) (s := s) (args := args) 1 C.1.2.2.2.2 gX1_lettersOfWords_X2_lengthOf rfl rfl rfl hd_X2_lengthOf.2 ⟨Nat.le_of_ble_eq_true rfl, Nat.le_of_ble_eq_true rfl⟩
  have n_X3_at := gw_cn (R := (rmOf 3 66)) (rm := rmOf 0 0) (index := 85) (n := 2) C gX1_lettersOfWords_X3_at_n85 rfl rfl rfl (by simp [nestW]) (List.mem_of_getElem? (i := 5) rfl) (List.mem_of_getElem? (i := 4) rfl) hd_X3_at.2 ⟨Nat.le_of_ble_eq_true rfl, Nat.le_of_ble_eq_true rfl⟩
  have h := gw_top h
  unfold fT_lettersOfWords at h
  show gw_G p l e (rmOf 3 66) s m args below meth c D A (CtM D below (some (.int o)) (wT cI cJ b t) A args s) 3 0 0 (wT cI cJ b t) [(0, .ref (b 0))] 0 []
  refine gw_iconst (v := (0 : Int32)) C dX1_lettersOfWords_0 rfl ?_
  refine gw_istore_n C dX1_lettersOfWords_1 [(1, .int (0 : Int32)), (0, .ref (b 0))] rfl (by decide) rfl ?_
  refine gw_iconst (v := (0 : Int32)) C dX1_lettersOfWords_2 rfl ?_
  refine gw_istore_n C dX1_lettersOfWords_3 [(2, .int (0 : Int32)), (1, .int (0 : Int32)), (0, .ref (b 0))] rfl (by decide) rfl ?_
  refine gw_sub [2, 1, 0] rfl ?_
  refine gw_lpb (x0 := ((0 : Int32), (0 : Int32))) (Go := fun x1 : Int32 × Int32 => gw_G p l e (rmOf 3 66) s m args below meth c D A (CtM D below (some (.int o)) (wT cI cJ b t) A args s) 3 0 0 (wT cI cJ b t) [(0, .ref (b 0)), (1, .int x1.1), (2, .int x1.2)] 4 []) (GoX := fun v1 : Int32 => gw_G p l e (rmOf 3 66) s m args below meth c D A (CtM D below (some (.int o)) (wT cI cJ b t) A args s) 3 0 0 (wT cI cJ b t) [(1, .int v1)] 62 []) h (fun v1 h => ?_) (fun x1 K1 X1 I1 h => ?_)
  · refine gw_iload_n C dX1_lettersOfWords_62 0 rfl ?_
    have h := gw_some h
    have ho := Option.some.inj h
    subst ho
    exact gw_iret C dX1_lettersOfWords_63
  · refine gw_iload_n C dX1_lettersOfWords_4 2 rfl ?_
    refine gw_sipush (v := (160 : Int32)) C dX1_lettersOfWords_5 rfl ?_
    refine gw_icmp_ge (tgt := 62) C dX1_lettersOfWords_8 (by decide) h (fun c2 h => ?_) (fun c2 h => ?_)
    · refine gw_sub [1] rfl ?_
      have h := gw_some h
      exact X1 _ h
    · refine gw_aload_n C dX1_lettersOfWords_11 0 rfl ?_
      refine gw_get C dX1_lettersOfWords_12 0 1 3 rfl rfl iX1 (by decide) f25 rfl ?_
      refine gw_iload_n C dX1_lettersOfWords_15 2 rfl ?_
      refine gw_one (st2 := [.int (J_at 160 (tB t) x1.2)]) (ws' := wT cI cJ b t) C 3 rfl (run_SN (rest := []) C (c_X3_at l D cI cJ cO (b 3) 160 (tB t) x1.2 (by decide)) n_X3_at rfl rfl (Nat.le_of_ble_eq_true rfl) dX1_lettersOfWords_16 ⟨Nat.zero_le _, Nat.zero_le _⟩) rfl rfl ?_
      refine gw_lt h (fun j3 ej3 h => ?_)
      have J3 : ∀ v3 : Int32, Rs K1 o (j3 v3) → gw_G p l e (rmOf 3 66) s m args below meth c D A (CtM D below (some (.int o)) (wT cI cJ b t) A args s) 3 0 0 (wT cI cJ b t) [(0, .ref (b 0)), (1, .int v3), (2, .int x1.2)] 33 [] := by
        intro v3 h
        have h := gw_app ej3 h
        refine gw_aload_n C dX1_lettersOfWords_33 0 rfl ?_
        refine gw_get C dX1_lettersOfWords_34 0 1 1 rfl rfl iX1 (by decide) f18 rfl ?_
        refine gw_iload_n C dX1_lettersOfWords_37 2 rfl ?_
        refine gw_one (st2 := [.int (J_at 160 (tK t) x1.2)]) (ws' := wT cI cJ b t) C 1 rfl (run_SN (rest := []) C (c_X3_at l D cI cJ cO (b 1) 160 (tK t) x1.2 (by decide)) n_X3_at rfl rfl (Nat.le_of_ble_eq_true rfl) dX1_lettersOfWords_38 ⟨Nat.zero_le _, Nat.zero_le _⟩) rfl rfl ?_
        refine gw_iconst (v := (2 : Int32)) C dX1_lettersOfWords_41 rfl ?_
        refine gw_icmp_ne (tgt := 56) C dX1_lettersOfWords_42 (by decide) h (fun c6 h => ?_) (fun c6 h => ?_)
        · refine gw_iload_n C dX1_lettersOfWords_45 1 rfl ?_
          refine gw_aload_n C dX1_lettersOfWords_46 0 rfl ?_
          refine gw_iload_n C dX1_lettersOfWords_47 2 rfl ?_
          refine gw_bind h (fun q7 hq7 h => ?_)
          refine gw_whole (st2 := [.long q7, .int v3]) C (run_V (rest := [.int v3]) C (c_X1_endOf l D cI cJ cO b t x1.2 hq7) w_X1_endOf 0 1 rfl rfl rfl rfl rfl (Nat.le_of_ble_eq_true rfl) dX1_lettersOfWords_48 ⟨Nat.zero_le _, Nat.zero_le _⟩) rfl ?_
          refine gw_bind h (fun q8 hq8 h => ?_)
          refine gw_none (st2 := [.int q8, .int v3]) C (run_S (rest := [.int v3]) C (c_X2_lengthOf l D cI cJ cO q7 hq8) w_X2_lengthOf rfl rfl (Nat.le_of_ble_eq_true rfl) dX1_lettersOfWords_51 ⟨Nat.zero_le _, Nat.zero_le _⟩) rfl ?_
          refine gw_iadd C dX1_lettersOfWords_54 ?_
          refine gw_lt h (fun v9 ev9 h => ?_)
          rw [ev9]
          refine gw_istore_n C dX1_lettersOfWords_55 [(1, .int v9), (0, .ref (b 0)), (2, .int x1.2)] rfl (by decide) rfl ?_
          refine gw_iinc (v := (x1.2 + (1 : Int32))) C dX1_lettersOfWords_56 [(2, .int (x1.2 + (1 : Int32))), (1, .int v9), (0, .ref (b 0))] 2 rfl rfl (by decide) rfl ?_
          refine gw_goto (tgt := 4) C dX1_lettersOfWords_59 (by decide) ?_
          refine gw_sub [2, 1, 0] rfl ?_
          have h := gw_some h
          exact I1 _ h
        · refine gw_iinc (v := (x1.2 + (1 : Int32))) C dX1_lettersOfWords_56 [(2, .int (x1.2 + (1 : Int32))), (0, .ref (b 0)), (1, .int v3)] 2 rfl rfl (by decide) rfl ?_
          refine gw_goto (tgt := 4) C dX1_lettersOfWords_59 (by decide) ?_
          refine gw_sub [1, 2, 0] rfl ?_
          have h := gw_some h
          exact I1 _ h
      refine gw_if_le (tgt := 33) C dX1_lettersOfWords_19 (by decide) h (fun c4 h => ?_) (fun c4 h => ?_)
      · exact J3 _ h
      · refine gw_iload_n C dX1_lettersOfWords_22 1 rfl ?_
        refine gw_aload_n C dX1_lettersOfWords_23 0 rfl ?_
        refine gw_get C dX1_lettersOfWords_24 0 1 7 rfl rfl iX1 (by decide) f37 rfl ?_
        refine gw_iload_n C dX1_lettersOfWords_27 2 rfl ?_
        refine gw_one (st2 := [.int (J_at 160 (tW t) x1.2), .int x1.1]) (ws' := wT cI cJ b t) C 7 rfl (run_SN (rest := [.int x1.1]) C (c_X3_at l D cI cJ cO (b 7) 160 (tW t) x1.2 (by decide)) n_X3_at rfl rfl (Nat.le_of_ble_eq_true rfl) dX1_lettersOfWords_28 ⟨Nat.zero_le _, Nat.zero_le _⟩) rfl rfl ?_
        refine gw_iadd C dX1_lettersOfWords_31 ?_
        refine gw_lt h (fun v5 ev5 h => ?_)
        rw [ev5]
        refine gw_istore_n C dX1_lettersOfWords_32 [(1, .int v5), (0, .ref (b 0)), (2, .int x1.2)] rfl (by decide) rfl ?_
        refine gw_sub [1, 0, 2] rfl ?_
        exact J3 _ h
theorem hd_X1_leafOf : yX1_leafOf.cls = RX1 ∧ yX1_leafOf.cls ≠ "java/lang/invoke/MethodHandle" ∧ yX1_leafOf.cls ≠ "java/lang/invoke/VarHandle" ∧ (parseMethodDescriptor yX1_leafOf.desc).map (fun d => d.parameters.length) = some 1 := by decide +kernel
set_option maxHeartbeats 4000000 in
set_option maxRecDepth 100000 in
theorem c_X1_leafOf (l : Launch) (D : va_G) (cI cJ cO : ClassId) (b : Nat → Nat) (t : TS) (p1 : Int64) {o : Int32} (h : fT_leafOf p1 t = some o) : Ct l D (tysA cI cJ cO) yX1_leafOf wsX1_leafOf (rmOf 2 43) [.ref (b 0), .long p1] (wT cI cJ b t) (some (.int o)) (wT cI cJ b t) := by
  refine Ct_of (own := RX1) cX1_leafOf 7 (some .int) (by decide +kernel) rfl rfl (Nat.le_of_ble_eq_true rfl) ?_
  intro p e s m args below meth c A C hnm
  have iX1 : ∀ w ∈ u_ws RX1 TX1 9, w ∈ wsX1_leafOf := fun w h => List.mem_cons_of_mem _ (List.mem_append_left _ (List.mem_append_right _ h))
  have f18 : Cond.fieldLink RX1 18 (TX1 1).1 (TX1 1).2.1 (TX1 1).2.2.1 ∈ wsX1_leafOf := List.mem_of_getElem? (i := 1) rfl
  have w_X1_childOf := cwV (R := (rmOf 2 43)) (rm := rmOf 1 21) (s := s) (args := args) 2 C.1.2.2.2.2 gX1_leafOf_X1_childOf rfl rfl rfl hd_X1_childOf ⟨Nat.le_of_ble_eq_true rfl, Nat.le_of_ble_eq_true rfl⟩
  have w_X1_endOf := cwV (R := (rmOf 2 43)) (rm := rmOf 1 21) (s := s) (args := args) 1 C.1.2.2.2.2 gX1_leafOf_X1_endOf rfl rfl rfl hd_X1_endOf ⟨Nat.le_of_ble_eq_true rfl, Nat.le_of_ble_eq_true rfl⟩
  have w_X2_firstOf := va_cwS (R := (rmOf 2 43)) (rm := rmOf 0 0) (s := s) (args := args) 1 C.1.2.2.2.2 gX1_leafOf_X2_firstOf rfl rfl rfl hd_X2_firstOf.2 ⟨Nat.le_of_ble_eq_true rfl, Nat.le_of_ble_eq_true rfl⟩
  have w_X2_withoutFirst := va_cwS (R := (rmOf 2 43)) (rm := rmOf 0 0) (s := s) (args := args) 1 C.1.2.2.2.2 gX1_leafOf_X2_withoutFirst rfl rfl rfl hd_X2_withoutFirst.2 ⟨Nat.le_of_ble_eq_true rfl, Nat.le_of_ble_eq_true rfl⟩
  have n_X3_at := gw_cn (R := (rmOf 2 43)) (rm := rmOf 0 0) (index := 85) (n := 2) C gX1_leafOf_X3_at_n85 rfl rfl rfl (by simp [nestW]) (List.mem_of_getElem? (i := 3) rfl) (List.mem_of_getElem? (i := 2) rfl) hd_X3_at.2 ⟨Nat.le_of_ble_eq_true rfl, Nat.le_of_ble_eq_true rfl⟩
  have h := gw_top h
  unfold fT_leafOf at h
  show gw_G p l e (rmOf 2 43) s m args below meth c D A (CtM D below (some (.int o)) (wT cI cJ b t) A args s) 7 0 0 (wT cI cJ b t) [(0, .ref (b 0)), (1, .long p1)] 0 []
  refine gw_iconst (v := (0 : Int32)) C dX1_leafOf_0 rfl ?_
  refine gw_istore_n C dX1_leafOf_1 [(3, .int (0 : Int32)), (0, .ref (b 0)), (1, .long p1)] rfl (by decide) rfl ?_
  refine gw_lload_n C dX1_leafOf_2 2 rfl ?_
  refine gw_lstore C dX1_leafOf_3 [(4, .long p1), (3, .int (0 : Int32)), (0, .ref (b 0)), (1, .long p1)] (by decide) rfl ?_
  refine gw_iconst (v := (0 : Int32)) C dX1_leafOf_5 rfl ?_
  refine gw_istore C dX1_leafOf_6 [(6, .int (0 : Int32)), (4, .long p1), (3, .int (0 : Int32)), (0, .ref (b 0)), (1, .long p1)] (by decide) rfl ?_
  refine gw_sub [3, 2, 1, 0] rfl ?_
  refine gw_lpt (x0 := ((0 : Int32), p1, (0 : Int32))) (Go := fun x1 : Int32 × Int64 × Int32 => gw_G p l e (rmOf 2 43) s m args below meth c D A (CtM D below (some (.int o)) (wT cI cJ b t) A args s) 7 0 0 (wT cI cJ b t) [(0, .ref (b 0)), (3, .int x1.1), (4, .long x1.2.1), (6, .int x1.2.2)] 8 []) h (fun x1 K1 X1 I1 h => ?_)
  refine gw_iload C dX1_leafOf_8 3 rfl ?_
  refine gw_bipush (v := (12 : Int32)) C dX1_leafOf_10 rfl ?_
  refine gw_icmp_gt (tgt := 73) C dX1_leafOf_12 (by decide) h (fun c2 h => ?_) (fun c2 h => ?_)
  · refine gw_iconst (v := (-1 : Int32)) C dX1_leafOf_73 rfl ?_
    have h := gw_some h
    have h := X1 _ h
    have ho := Option.some.inj h
    subst ho
    exact gw_iret C dX1_leafOf_74
  · refine gw_iload_n C dX1_leafOf_15 1 rfl ?_
    refine gw_iconst (v := (-1 : Int32)) C dX1_leafOf_16 rfl ?_
    refine gw_icmp_eq (tgt := 73) C dX1_leafOf_17 (by decide) h (fun c3 h => ?_) (fun c3 h => ?_)
    · refine gw_iconst (v := (-1 : Int32)) C dX1_leafOf_73 rfl ?_
      have h := gw_some h
      have h := X1 _ h
      have ho := Option.some.inj h
      subst ho
      exact gw_iret C dX1_leafOf_74
    · refine gw_aload_n C dX1_leafOf_20 0 rfl ?_
      refine gw_get C dX1_leafOf_21 0 1 1 rfl rfl iX1 (by decide) f18 rfl ?_
      refine gw_iload_n C dX1_leafOf_24 1 rfl ?_
      refine gw_one (st2 := [.int (J_at 160 (tK t) x1.1)]) (ws' := wT cI cJ b t) C 1 rfl (run_SN (rest := []) C (c_X3_at l D cI cJ cO (b 1) 160 (tK t) x1.1 (by decide)) n_X3_at rfl rfl (Nat.le_of_ble_eq_true rfl) dX1_leafOf_25 ⟨Nat.zero_le _, Nat.zero_le _⟩) rfl rfl ?_
      refine gw_iconst (v := (2 : Int32)) C dX1_leafOf_28 rfl ?_
      refine gw_icmp_ne (tgt := 49) C dX1_leafOf_29 (by decide) h (fun c4 h => ?_) (fun c4 h => ?_)
      · refine gw_aload_n C dX1_leafOf_32 0 rfl ?_
        refine gw_iload_n C dX1_leafOf_33 1 rfl ?_
        refine gw_bind h (fun q5 hq5 h => ?_)
        refine gw_whole (st2 := [.long q5]) C (run_V (rest := []) C (c_X1_endOf l D cI cJ cO b t x1.1 hq5) w_X1_endOf 0 1 rfl rfl rfl rfl rfl (Nat.le_of_ble_eq_true rfl) dX1_leafOf_34 ⟨Nat.zero_le _, Nat.zero_le _⟩) rfl ?_
        refine gw_lload C dX1_leafOf_37 2 rfl ?_
        refine gw_lcmp_ne (tgt := 47) C dX1_leafOf_39 dX1_leafOf_40 (by decide) h (fun c6 h => ?_) (fun c6 h => ?_)
        · refine gw_iload_n C dX1_leafOf_43 1 rfl ?_
          refine gw_goto (tgt := 48) C dX1_leafOf_44 (by decide) ?_
          have h := gw_some h
          have h := X1 _ h
          have ho := Option.some.inj h
          subst ho
          exact gw_iret C dX1_leafOf_48
        · refine gw_iconst (v := (-1 : Int32)) C dX1_leafOf_47 rfl ?_
          have h := gw_some h
          have h := X1 _ h
          have ho := Option.some.inj h
          subst ho
          exact gw_iret C dX1_leafOf_48
      · refine gw_aload_n C dX1_leafOf_49 0 rfl ?_
        refine gw_iload_n C dX1_leafOf_50 1 rfl ?_
        refine gw_lload C dX1_leafOf_51 2 rfl ?_
        refine gw_none (st2 := [.int (fX_firstOf x1.2.1), .int x1.1, .ref (b 0)]) C (run_S (rest := [.int x1.1, .ref (b 0)]) C (c_X2_firstOf l D cI cJ cO x1.2.1 rfl) w_X2_firstOf rfl rfl (Nat.le_of_ble_eq_true rfl) dX1_leafOf_53 ⟨Nat.zero_le _, Nat.zero_le _⟩) rfl ?_
        refine gw_whole (st2 := [.int (fT_childOf x1.1 (fX_firstOf x1.2.1) t)]) C (run_V (rest := []) C (c_X1_childOf l D cI cJ cO b t x1.1 (fX_firstOf x1.2.1) rfl) w_X1_childOf 0 1 rfl rfl rfl rfl rfl (Nat.le_of_ble_eq_true rfl) dX1_leafOf_56 ⟨Nat.zero_le _, Nat.zero_le _⟩) rfl ?_
        refine gw_lt h (fun v7 ev7 h => ?_)
        rw [ev7]
        refine gw_istore_n C dX1_leafOf_59 [(3, .int v7), (0, .ref (b 0)), (4, .long x1.2.1), (6, .int x1.2.2)] rfl (by decide) rfl ?_
        refine gw_lload C dX1_leafOf_60 2 rfl ?_
        refine gw_none (st2 := [.long (fX_withoutFirst x1.2.1)]) C (run_S (rest := []) C (c_X2_withoutFirst l D cI cJ cO x1.2.1 rfl) w_X2_withoutFirst rfl rfl (Nat.le_of_ble_eq_true rfl) dX1_leafOf_62 ⟨Nat.zero_le _, Nat.zero_le _⟩) rfl ?_
        refine gw_lt h (fun v8 ev8 h => ?_)
        rw [ev8]
        refine gw_lstore C dX1_leafOf_65 [(4, .long v8), (3, .int v7), (0, .ref (b 0)), (6, .int x1.2.2)] (by decide) rfl ?_
        refine gw_iinc (v := (x1.2.2 + (1 : Int32))) C dX1_leafOf_67 [(6, .int (x1.2.2 + (1 : Int32))), (4, .long v8), (3, .int v7), (0, .ref (b 0))] 3 rfl rfl (by decide) rfl ?_
        refine gw_goto (tgt := 8) C dX1_leafOf_70 (by decide) ?_
        refine gw_sub [3, 2, 1, 0] rfl ?_
        have h := gw_some h
        exact I1 _ h
theorem hd_X1_letterOfRank : yX1_letterOfRank.cls = RX1 ∧ yX1_letterOfRank.cls ≠ "java/lang/invoke/MethodHandle" ∧ yX1_letterOfRank.cls ≠ "java/lang/invoke/VarHandle" ∧ (parseMethodDescriptor yX1_letterOfRank.desc).map (fun d => d.parameters.length) = some 2 := by decide +kernel
set_option maxHeartbeats 4000000 in
set_option maxRecDepth 100000 in
theorem c_X1_letterOfRank (l : Launch) (D : va_G) (cI cJ cO : ClassId) (b : Nat → Nat) (t : TS) (p1 : Int32) (p2 : Int32) {o : Int32} (h : fT_letterOfRank p1 p2 t = some o) : Ct l D (tysA cI cJ cO) yX1_letterOfRank wsX1_letterOfRank (rmOf 2 43) [.ref (b 0), .int p1, .int p2] (wT cI cJ b t) (some (.int o)) (wT cI cJ b t) := by
  refine Ct_of (own := RX1) cX1_letterOfRank 7 (some .int) (by decide +kernel) rfl rfl (Nat.le_of_ble_eq_true rfl) ?_
  intro p e s m args below meth c A C hnm
  have iX1 : ∀ w ∈ u_ws RX1 TX1 9, w ∈ wsX1_letterOfRank := fun w h => List.mem_cons_of_mem _ (List.mem_append_right _ h)
  have f37 : Cond.fieldLink RX1 37 (TX1 7).1 (TX1 7).2.1 (TX1 7).2.2.1 ∈ wsX1_letterOfRank := List.mem_of_getElem? (i := 1) rfl
  have w_X1_childOf := cwV (R := (rmOf 2 43)) (rm := rmOf 1 21) (s := s) (args := args) 2 C.1.2.2.2.2 gX1_letterOfRank_X1_childOf rfl rfl rfl hd_X1_childOf ⟨Nat.le_of_ble_eq_true rfl, Nat.le_of_ble_eq_true rfl⟩
  have n_X3_at := gw_cn (R := (rmOf 2 43)) (rm := rmOf 0 0) (index := 85) (n := 2) C gX1_letterOfRank_X3_at_n85 rfl rfl rfl (by simp [nestW]) (List.mem_of_getElem? (i := 10) rfl) (List.mem_of_getElem? (i := 9) rfl) hd_X3_at.2 ⟨Nat.le_of_ble_eq_true rfl, Nat.le_of_ble_eq_true rfl⟩
  have h := gw_top h
  unfold fT_letterOfRank at h
  show gw_G p l e (rmOf 2 43) s m args below meth c D A (CtM D below (some (.int o)) (wT cI cJ b t) A args s) 7 0 0 (wT cI cJ b t) [(0, .ref (b 0)), (1, .int p1), (2, .int p2)] 0 []
  refine gw_iload_n C dX1_letterOfRank_0 2 rfl ?_
  refine gw_istore_n C dX1_letterOfRank_1 [(3, .int p2), (0, .ref (b 0)), (1, .int p1), (2, .int p2)] rfl (by decide) rfl ?_
  refine gw_iconst (v := (0 : Int32)) C dX1_letterOfRank_2 rfl ?_
  refine gw_istore C dX1_letterOfRank_3 [(4, .int (0 : Int32)), (3, .int p2), (0, .ref (b 0)), (1, .int p1), (2, .int p2)] (by decide) rfl ?_
  refine gw_sub [2, 3, 1, 0] rfl ?_
  refine gw_lpt (x0 := (p2, (0 : Int32))) (Go := fun x1 : Int32 × Int32 => gw_G p l e (rmOf 2 43) s m args below meth c D A (CtM D below (some (.int o)) (wT cI cJ b t) A args s) 7 0 0 (wT cI cJ b t) [(0, .ref (b 0)), (1, .int p1), (3, .int x1.1), (4, .int x1.2)] 5 []) h (fun x1 K1 X1 I1 h => ?_)
  refine gw_iload C dX1_letterOfRank_5 3 rfl ?_
  refine gw_bipush (v := (8 : Int32)) C dX1_letterOfRank_7 rfl ?_
  refine gw_icmp_ge (tgt := 62) C dX1_letterOfRank_9 (by decide) h (fun c2 h => ?_) (fun c2 h => ?_)
  · refine gw_bipush (v := (8 : Int32)) C dX1_letterOfRank_62 rfl ?_
    have h := gw_some h
    have h := X1 _ h
    have ho := Option.some.inj h
    subst ho
    exact gw_iret C dX1_letterOfRank_64
  · refine gw_aload_n C dX1_letterOfRank_12 0 rfl ?_
    refine gw_iload_n C dX1_letterOfRank_13 1 rfl ?_
    refine gw_iload C dX1_letterOfRank_14 3 rfl ?_
    refine gw_whole (st2 := [.int (fT_childOf p1 x1.2 t)]) C (run_V (rest := []) C (c_X1_childOf l D cI cJ cO b t p1 x1.2 rfl) w_X1_childOf 0 1 rfl rfl rfl rfl rfl (Nat.le_of_ble_eq_true rfl) dX1_letterOfRank_16 ⟨Nat.zero_le _, Nat.zero_le _⟩) rfl ?_
    refine gw_lt h (fun v3 ev3 h => ?_)
    rw [ev3]
    refine gw_istore C dX1_letterOfRank_19 [(5, .int v3), (0, .ref (b 0)), (1, .int p1), (3, .int x1.1), (4, .int x1.2)] (by decide) rfl ?_
    refine gw_iload C dX1_letterOfRank_21 0 rfl ?_
    refine gw_iconst (v := (-1 : Int32)) C dX1_letterOfRank_23 rfl ?_
    refine gw_lt h (fun j4 ej4 h => ?_)
    have J4 : ∀ v4 : Int32, Rs K1 o (j4 v4) → gw_G p l e (rmOf 2 43) s m args below meth c D A (CtM D below (some (.int o)) (wT cI cJ b t) A args s) 7 0 0 (wT cI cJ b t) [(0, .ref (b 0)), (1, .int p1), (3, .int x1.1), (4, .int x1.2)] 40 [.int v4] := by
      intro v4 h
      have h := gw_app ej4 h
      refine gw_istore C dX1_letterOfRank_40 [(6, .int v4), (0, .ref (b 0)), (1, .int p1), (3, .int x1.1), (4, .int x1.2)] (by decide) rfl ?_
      refine gw_iload_n C dX1_letterOfRank_42 3 rfl ?_
      refine gw_iload C dX1_letterOfRank_43 0 rfl ?_
      refine gw_icmp_ge (tgt := 51) C dX1_letterOfRank_45 (by decide) h (fun c6 h => ?_) (fun c6 h => ?_)
      · refine gw_iload_n C dX1_letterOfRank_51 3 rfl ?_
        refine gw_iload C dX1_letterOfRank_52 0 rfl ?_
        refine gw_isub C dX1_letterOfRank_54 ?_
        refine gw_lt h (fun v7 ev7 h => ?_)
        rw [ev7]
        refine gw_istore_n C dX1_letterOfRank_55 [(3, .int v7), (6, .int v4), (0, .ref (b 0)), (1, .int p1), (4, .int x1.2)] rfl (by decide) rfl ?_
        refine gw_iinc (v := (x1.2 + (1 : Int32))) C dX1_letterOfRank_56 [(4, .int (x1.2 + (1 : Int32))), (3, .int v7), (6, .int v4), (0, .ref (b 0)), (1, .int p1)] 4 rfl rfl (by decide) rfl ?_
        refine gw_goto (tgt := 5) C dX1_letterOfRank_59 (by decide) ?_
        refine gw_sub [3, 4, 1, 0] rfl ?_
        have h := gw_some h
        exact I1 _ h
      · refine gw_iload C dX1_letterOfRank_48 4 rfl ?_
        have h := gw_some h
        have h := X1 _ h
        have ho := Option.some.inj h
        subst ho
        exact gw_iret C dX1_letterOfRank_50
    refine gw_icmp_ne (tgt := 31) C dX1_letterOfRank_24 (by decide) h (fun c5 h => ?_) (fun c5 h => ?_)
    · refine gw_iconst (v := (0 : Int32)) C dX1_letterOfRank_27 rfl ?_
      refine gw_goto (tgt := 40) C dX1_letterOfRank_28 (by decide) ?_
      refine gw_sub [1, 2, 3, 4] rfl ?_
      exact J4 _ h
    · refine gw_aload_n C dX1_letterOfRank_31 1 rfl ?_
      refine gw_get C dX1_letterOfRank_32 0 1 7 rfl rfl iX1 (by decide) f37 rfl ?_
      refine gw_iload C dX1_letterOfRank_35 0 rfl ?_
      refine gw_one (st2 := [.int (J_at 160 (tW t) v3)]) (ws' := wT cI cJ b t) C 7 rfl (run_SN (rest := []) C (c_X3_at l D cI cJ cO (b 7) 160 (tW t) v3 (by decide)) n_X3_at rfl rfl (Nat.le_of_ble_eq_true rfl) dX1_letterOfRank_37 ⟨Nat.zero_le _, Nat.zero_le _⟩) rfl rfl ?_
      refine gw_sub [1, 2, 3, 4] rfl ?_
      exact J4 _ h
theorem hd_X1_wordsBefore : yX1_wordsBefore.cls = RX1 ∧ yX1_wordsBefore.cls ≠ "java/lang/invoke/MethodHandle" ∧ yX1_wordsBefore.cls ≠ "java/lang/invoke/VarHandle" ∧ (parseMethodDescriptor yX1_wordsBefore.desc).map (fun d => d.parameters.length) = some 2 := by decide +kernel
set_option maxHeartbeats 4000000 in
set_option maxRecDepth 100000 in
theorem c_X1_wordsBefore (l : Launch) (D : va_G) (cI cJ cO : ClassId) (b : Nat → Nat) (t : TS) (p1 : Int32) (p2 : Int32) {o : Int32} (h : fT_wordsBefore p1 p2 t = some o) : Ct l D (tysA cI cJ cO) yX1_wordsBefore wsX1_wordsBefore (rmOf 2 43) [.ref (b 0), .int p1, .int p2] (wT cI cJ b t) (some (.int o)) (wT cI cJ b t) := by
  refine Ct_of (own := RX1) cX1_wordsBefore 6 (some .int) (by decide +kernel) rfl rfl (Nat.le_of_ble_eq_true rfl) ?_
  intro p e s m args below meth c A C hnm
  have iX1 : ∀ w ∈ u_ws RX1 TX1 9, w ∈ wsX1_wordsBefore := fun w h => List.mem_cons_of_mem _ (List.mem_append_right _ h)
  have f37 : Cond.fieldLink RX1 37 (TX1 7).1 (TX1 7).2.1 (TX1 7).2.2.1 ∈ wsX1_wordsBefore := List.mem_of_getElem? (i := 1) rfl
  have w_X1_childOf := cwV (R := (rmOf 2 43)) (rm := rmOf 1 21) (s := s) (args := args) 2 C.1.2.2.2.2 gX1_wordsBefore_X1_childOf rfl rfl rfl hd_X1_childOf ⟨Nat.le_of_ble_eq_true rfl, Nat.le_of_ble_eq_true rfl⟩
  have n_X3_at := gw_cn (R := (rmOf 2 43)) (rm := rmOf 0 0) (index := 85) (n := 2) C gX1_wordsBefore_X3_at_n85 rfl rfl rfl (by simp [nestW]) (List.mem_of_getElem? (i := 10) rfl) (List.mem_of_getElem? (i := 9) rfl) hd_X3_at.2 ⟨Nat.le_of_ble_eq_true rfl, Nat.le_of_ble_eq_true rfl⟩
  have h := gw_top h
  unfold fT_wordsBefore at h
  show gw_G p l e (rmOf 2 43) s m args below meth c D A (CtM D below (some (.int o)) (wT cI cJ b t) A args s) 6 0 0 (wT cI cJ b t) [(0, .ref (b 0)), (1, .int p1), (2, .int p2)] 0 []
  refine gw_iconst (v := (0 : Int32)) C dX1_wordsBefore_0 rfl ?_
  refine gw_istore_n C dX1_wordsBefore_1 [(3, .int (0 : Int32)), (0, .ref (b 0)), (1, .int p1), (2, .int p2)] rfl (by decide) rfl ?_
  refine gw_iconst (v := (0 : Int32)) C dX1_wordsBefore_2 rfl ?_
  refine gw_istore C dX1_wordsBefore_3 [(4, .int (0 : Int32)), (3, .int (0 : Int32)), (0, .ref (b 0)), (1, .int p1), (2, .int p2)] (by decide) rfl ?_
  refine gw_sub [2, 3, 4, 1, 0] rfl ?_
  refine gw_lpb (x0 := ((0 : Int32), (0 : Int32))) (Go := fun x1 : Int32 × Int32 => gw_G p l e (rmOf 2 43) s m args below meth c D A (CtM D below (some (.int o)) (wT cI cJ b t) A args s) 6 0 0 (wT cI cJ b t) [(0, .ref (b 0)), (1, .int p1), (2, .int p2), (3, .int x1.1), (4, .int x1.2)] 5 []) (GoX := fun v1 : Int32 => gw_G p l e (rmOf 2 43) s m args below meth c D A (CtM D below (some (.int o)) (wT cI cJ b t) A args s) 6 0 0 (wT cI cJ b t) [(3, .int v1)] 44 []) h (fun v1 h => ?_) (fun x1 K1 X1 I1 h => ?_)
  · refine gw_iload_n C dX1_wordsBefore_44 0 rfl ?_
    have h := gw_some h
    have ho := Option.some.inj h
    subst ho
    exact gw_iret C dX1_wordsBefore_45
  · refine gw_iload C dX1_wordsBefore_5 4 rfl ?_
    refine gw_iload_n C dX1_wordsBefore_7 2 rfl ?_
    refine gw_icmp_ge (tgt := 44) C dX1_wordsBefore_8 (by decide) h (fun c2 h => ?_) (fun c2 h => ?_)
    · refine gw_sub [3] rfl ?_
      have h := gw_some h
      exact X1 _ h
    · refine gw_aload_n C dX1_wordsBefore_11 0 rfl ?_
      refine gw_iload_n C dX1_wordsBefore_12 1 rfl ?_
      refine gw_iload C dX1_wordsBefore_13 4 rfl ?_
      refine gw_whole (st2 := [.int (fT_childOf p1 x1.2 t)]) C (run_V (rest := []) C (c_X1_childOf l D cI cJ cO b t p1 x1.2 rfl) w_X1_childOf 0 1 rfl rfl rfl rfl rfl (Nat.le_of_ble_eq_true rfl) dX1_wordsBefore_15 ⟨Nat.zero_le _, Nat.zero_le _⟩) rfl ?_
      refine gw_lt h (fun v3 ev3 h => ?_)
      rw [ev3]
      refine gw_istore C dX1_wordsBefore_18 [(5, .int v3), (0, .ref (b 0)), (1, .int p1), (2, .int p2), (3, .int x1.1), (4, .int x1.2)] (by decide) rfl ?_
      refine gw_iload C dX1_wordsBefore_20 0 rfl ?_
      refine gw_iconst (v := (-1 : Int32)) C dX1_wordsBefore_22 rfl ?_
      refine gw_icmp_eq (tgt := 38) C dX1_wordsBefore_23 (by decide) h (fun c4 h => ?_) (fun c4 h => ?_)
      · refine gw_iinc (v := (x1.2 + (1 : Int32))) C dX1_wordsBefore_38 [(4, .int (x1.2 + (1 : Int32))), (5, .int v3), (0, .ref (b 0)), (1, .int p1), (2, .int p2), (3, .int x1.1)] 5 rfl rfl (by decide) rfl ?_
        refine gw_goto (tgt := 5) C dX1_wordsBefore_41 (by decide) ?_
        refine gw_sub [2, 3, 4, 5, 0] rfl ?_
        have h := gw_some h
        exact I1 _ h
      · refine gw_iload_n C dX1_wordsBefore_26 4 rfl ?_
        refine gw_aload_n C dX1_wordsBefore_27 1 rfl ?_
        refine gw_get C dX1_wordsBefore_28 0 1 7 rfl rfl iX1 (by decide) f37 rfl ?_
        refine gw_iload C dX1_wordsBefore_31 0 rfl ?_
        refine gw_one (st2 := [.int (J_at 160 (tW t) v3), .int x1.1]) (ws' := wT cI cJ b t) C 7 rfl (run_SN (rest := [.int x1.1]) C (c_X3_at l D cI cJ cO (b 7) 160 (tW t) v3 (by decide)) n_X3_at rfl rfl (Nat.le_of_ble_eq_true rfl) dX1_wordsBefore_33 ⟨Nat.zero_le _, Nat.zero_le _⟩) rfl rfl ?_
        refine gw_iadd C dX1_wordsBefore_36 ?_
        refine gw_lt h (fun v5 ev5 h => ?_)
        rw [ev5]
        refine gw_istore_n C dX1_wordsBefore_37 [(3, .int v5), (5, .int v3), (0, .ref (b 0)), (1, .int p1), (2, .int p2), (4, .int x1.2)] rfl (by decide) rfl ?_
        refine gw_iinc (v := (x1.2 + (1 : Int32))) C dX1_wordsBefore_38 [(4, .int (x1.2 + (1 : Int32))), (3, .int v5), (5, .int v3), (0, .ref (b 0)), (1, .int p1), (2, .int p2)] 5 rfl rfl (by decide) rfl ?_
        refine gw_goto (tgt := 5) C dX1_wordsBefore_41 (by decide) ?_
        refine gw_sub [3, 4, 5, 1, 0] rfl ?_
        have h := gw_some h
        exact I1 _ h
theorem hd_X1_wordAt : yX1_wordAt.cls = RX1 ∧ yX1_wordAt.cls ≠ "java/lang/invoke/MethodHandle" ∧ yX1_wordAt.cls ≠ "java/lang/invoke/VarHandle" ∧ (parseMethodDescriptor yX1_wordAt.desc).map (fun d => d.parameters.length) = some 1 := by decide +kernel
set_option maxHeartbeats 4000000 in
set_option maxRecDepth 100000 in
theorem c_X1_wordAt (l : Launch) (D : va_G) (cI cJ cO : ClassId) (b : Nat → Nat) (t : TS) (p1 : Int32) {o : Int64} (h : fT_wordAt p1 t = some o) : Ct l D (tysA cI cJ cO) yX1_wordAt wsX1_wordAt (rmOf 3 69) [.ref (b 0), .int p1] (wT cI cJ b t) (some (.long o)) (wT cI cJ b t) := by
  refine Ct_of (own := RX1) cX1_wordAt 8 (some .long) (by decide +kernel) rfl rfl (Nat.le_of_ble_eq_true rfl) ?_
  intro p e s m args below meth c A C hnm
  have iX1 : ∀ w ∈ u_ws RX1 TX1 9, w ∈ wsX1_wordAt := fun w h => List.mem_cons_of_mem _ (List.mem_append_left _ (List.mem_append_right _ h))
  have f18 : Cond.fieldLink RX1 18 (TX1 1).1 (TX1 1).2.1 (TX1 1).2.2.1 ∈ wsX1_wordAt := List.mem_of_getElem? (i := 1) rfl
  have w_X1_childOf := cwV (R := (rmOf 3 69)) (rm := rmOf 1 21) (s := s) (args := args) 2 C.1.2.2.2.2 gX1_wordAt_X1_childOf rfl rfl rfl hd_X1_childOf ⟨Nat.le_of_ble_eq_true rfl, Nat.le_of_ble_eq_true rfl⟩
  have w_X1_endOf := cwV (R := (rmOf 3 69)) (rm := rmOf 1 21) (s := s) (args := args) 1 C.1.2.2.2.2 gX1_wordAt_X1_endOf rfl rfl rfl hd_X1_endOf ⟨Nat.le_of_ble_eq_true rfl, Nat.le_of_ble_eq_true rfl⟩
  have w_X1_letterOfRank := cwV (R := (rmOf 3 69)) (rm := rmOf 2 43) (s := s) (args := args) 2 C.1.2.2.2.2 gX1_wordAt_X1_letterOfRank rfl rfl rfl hd_X1_letterOfRank ⟨Nat.le_of_ble_eq_true rfl, Nat.le_of_ble_eq_true rfl⟩
  have w_X1_words := cwV (R := (rmOf 3 69)) (rm := rmOf 1 21) (s := s) (args := args) 0 C.1.2.2.2.2 gX1_wordAt_X1_words rfl rfl rfl hd_X1_words ⟨Nat.le_of_ble_eq_true rfl, Nat.le_of_ble_eq_true rfl⟩
  have w_X1_wordsBefore := cwV (R := (rmOf 3 69)) (rm := rmOf 2 43) (s := s) (args := args) 2 C.1.2.2.2.2 gX1_wordAt_X1_wordsBefore rfl rfl rfl hd_X1_wordsBefore ⟨Nat.le_of_ble_eq_true rfl, Nat.le_of_ble_eq_true rfl⟩
  have w_X2_withLetter := va_cwS (R := (rmOf 3 69)) (rm := rmOf 0 0) (s := s) (args := args) 3 C.1.2.2.2.2 gX1_wordAt_X2_withLetter rfl rfl rfl hd_X2_withLetter.2 ⟨Nat.le_of_ble_eq_true rfl, Nat.le_of_ble_eq_true rfl⟩
  have n_X3_at := gw_cn (R := (rmOf 3 69)) (rm := rmOf 0 0) (index := 85) (n := 2) C gX1_wordAt_X3_at_n85 rfl rfl rfl (by simp [nestW]) (List.mem_of_getElem? (i := 9) rfl) (List.mem_of_getElem? (i := 8) rfl) hd_X3_at.2 ⟨Nat.le_of_ble_eq_true rfl, Nat.le_of_ble_eq_true rfl⟩
  have h := gw_top h
  unfold fT_wordAt at h
  show gw_G p l e (rmOf 3 69) s m args below meth c D A (CtM D below (some (.long o)) (wT cI cJ b t) A args s) 8 0 0 (wT cI cJ b t) [(0, .ref (b 0)), (1, .int p1)] 0 []
  refine gw_iload_n C dX1_wordAt_0 1 rfl ?_
  refine gw_lt h (fun j1 ej1 h => ?_)
  have J1 : ∀ v1 : Unit, Rs some o (j1 v1) → gw_G p l e (rmOf 3 69) s m args below meth c D A (CtM D below (some (.long o)) (wT cI cJ b t) A args s) 8 0 0 (wT cI cJ b t) [] 12 [] := by
    intro v1 h
    have h := gw_app ej1 h
    refine gw_lconst (v := (0 : Int64)) C dX1_wordAt_12 rfl ?_
    have h := gw_some h
    have ho := Option.some.inj h
    subst ho
    exact gw_lret C dX1_wordAt_13
  refine gw_if_lt (tgt := 12) C dX1_wordAt_1 (by decide) h (fun c2 h => ?_) (fun c2 h => ?_)
  · refine gw_sub [] rfl ?_
    exact J1 _ h
  · refine gw_iload_n C dX1_wordAt_4 1 rfl ?_
    refine gw_aload_n C dX1_wordAt_5 0 rfl ?_
    refine gw_whole (st2 := [.int (fT_words t), .int p1]) C (run_V (rest := [.int p1]) C (c_X1_words l D cI cJ cO b t rfl) w_X1_words 0 1 rfl rfl rfl rfl rfl (Nat.le_of_ble_eq_true rfl) dX1_wordAt_6 ⟨Nat.zero_le _, Nat.zero_le _⟩) rfl ?_
    refine gw_icmp_lt (tgt := 14) C dX1_wordAt_9 (by decide) h (fun c3 h => ?_) (fun c3 h => ?_)
    · refine gw_iconst (v := (0 : Int32)) C dX1_wordAt_14 rfl ?_
      refine gw_istore_n C dX1_wordAt_15 [(2, .int (0 : Int32)), (0, .ref (b 0)), (1, .int p1)] rfl (by decide) rfl ?_
      refine gw_iload_n C dX1_wordAt_16 2 rfl ?_
      refine gw_istore_n C dX1_wordAt_17 [(3, .int p1), (2, .int (0 : Int32)), (0, .ref (b 0)), (1, .int p1)] rfl (by decide) rfl ?_
      refine gw_lconst (v := (0 : Int64)) C dX1_wordAt_18 rfl ?_
      refine gw_lstore C dX1_wordAt_19 [(4, .long (0 : Int64)), (3, .int p1), (2, .int (0 : Int32)), (0, .ref (b 0)), (1, .int p1)] (by decide) rfl ?_
      refine gw_iconst (v := (0 : Int32)) C dX1_wordAt_21 rfl ?_
      refine gw_istore C dX1_wordAt_22 [(6, .int (0 : Int32)), (4, .long (0 : Int64)), (3, .int p1), (2, .int (0 : Int32)), (0, .ref (b 0)), (1, .int p1)] (by decide) rfl ?_
      refine gw_sub [4, 3, 2, 1, 0] rfl ?_
      refine gw_lpt (x0 := ((0 : Int32), p1, (0 : Int64), (0 : Int32))) (Go := fun x4 : Int32 × Int32 × Int64 × Int32 => gw_G p l e (rmOf 3 69) s m args below meth c D A (CtM D below (some (.long o)) (wT cI cJ b t) A args s) 8 0 0 (wT cI cJ b t) [(0, .ref (b 0)), (2, .int x4.1), (3, .int x4.2.1), (4, .long x4.2.2.1), (6, .int x4.2.2.2)] 24 []) h (fun x4 K4 X4 I4 h => ?_)
      refine gw_iload C dX1_wordAt_24 4 rfl ?_
      refine gw_bipush (v := (12 : Int32)) C dX1_wordAt_26 rfl ?_
      refine gw_icmp_gt (tgt := 100) C dX1_wordAt_28 (by decide) h (fun c5 h => ?_) (fun c5 h => ?_)
      · refine gw_lconst (v := (0 : Int64)) C dX1_wordAt_100 rfl ?_
        have h := gw_some h
        have h := X4 _ h
        have ho := Option.some.inj h
        subst ho
        exact gw_lret C dX1_wordAt_101
      · refine gw_aload_n C dX1_wordAt_31 0 rfl ?_
        refine gw_get C dX1_wordAt_32 0 1 1 rfl rfl iX1 (by decide) f18 rfl ?_
        refine gw_iload_n C dX1_wordAt_35 1 rfl ?_
        refine gw_one (st2 := [.int (J_at 160 (tK t) x4.1)]) (ws' := wT cI cJ b t) C 1 rfl (run_SN (rest := []) C (c_X3_at l D cI cJ cO (b 1) 160 (tK t) x4.1 (by decide)) n_X3_at rfl rfl (Nat.le_of_ble_eq_true rfl) dX1_wordAt_36 ⟨Nat.zero_le _, Nat.zero_le _⟩) rfl rfl ?_
        refine gw_iconst (v := (2 : Int32)) C dX1_wordAt_39 rfl ?_
        refine gw_icmp_ne (tgt := 57) C dX1_wordAt_40 (by decide) h (fun c6 h => ?_) (fun c6 h => ?_)
        · refine gw_lload C dX1_wordAt_43 3 rfl ?_
          refine gw_aload_n C dX1_wordAt_45 0 rfl ?_
          refine gw_iload_n C dX1_wordAt_46 1 rfl ?_
          refine gw_bind h (fun q7 hq7 h => ?_)
          refine gw_whole (st2 := [.long q7, .long x4.2.2.1]) C (run_V (rest := [.long x4.2.2.1]) C (c_X1_endOf l D cI cJ cO b t x4.1 hq7) w_X1_endOf 0 1 rfl rfl rfl rfl rfl (Nat.le_of_ble_eq_true rfl) dX1_wordAt_47 ⟨Nat.zero_le _, Nat.zero_le _⟩) rfl ?_
          refine gw_iconst (v := (4 : Int32)) C dX1_wordAt_50 rfl ?_
          refine gw_iload C dX1_wordAt_51 4 rfl ?_
          refine gw_imul C dX1_wordAt_53 ?_
          refine gw_lshl C dX1_wordAt_54 ?_
          refine gw_lor C dX1_wordAt_55 ?_
          have h := gw_some h
          have h := X4 _ h
          have ho := Option.some.inj h
          subst ho
          exact gw_lret C dX1_wordAt_56
        · refine gw_aload_n C dX1_wordAt_57 0 rfl ?_
          refine gw_iload_n C dX1_wordAt_58 1 rfl ?_
          refine gw_iload_n C dX1_wordAt_59 2 rfl ?_
          refine gw_bind h (fun q8 hq8 h => ?_)
          refine gw_whole (st2 := [.int q8]) C (run_V (rest := []) C (c_X1_letterOfRank l D cI cJ cO b t x4.1 x4.2.1 hq8) w_X1_letterOfRank 0 1 rfl rfl rfl rfl rfl (Nat.le_of_ble_eq_true rfl) dX1_wordAt_60 ⟨Nat.zero_le _, Nat.zero_le _⟩) rfl ?_
          refine gw_istore C dX1_wordAt_63 [(7, .int q8), (0, .ref (b 0)), (2, .int x4.1), (3, .int x4.2.1), (4, .long x4.2.2.1), (6, .int x4.2.2.2)] (by decide) rfl ?_
          refine gw_iload_n C dX1_wordAt_65 3 rfl ?_
          refine gw_aload_n C dX1_wordAt_66 1 rfl ?_
          refine gw_iload_n C dX1_wordAt_67 2 rfl ?_
          refine gw_iload C dX1_wordAt_68 0 rfl ?_
          refine gw_bind h (fun q9 hq9 h => ?_)
          refine gw_whole (st2 := [.int q9, .int x4.2.1]) C (run_V (rest := [.int x4.2.1]) C (c_X1_wordsBefore l D cI cJ cO b t x4.1 q8 hq9) w_X1_wordsBefore 0 1 rfl rfl rfl rfl rfl (Nat.le_of_ble_eq_true rfl) dX1_wordAt_70 ⟨Nat.zero_le _, Nat.zero_le _⟩) rfl ?_
          refine gw_isub C dX1_wordAt_73 ?_
          refine gw_lt h (fun v10 ev10 h => ?_)
          rw [ev10]
          refine gw_istore_n C dX1_wordAt_74 [(3, .int v10), (7, .int q8), (0, .ref (b 0)), (2, .int x4.1), (4, .long x4.2.2.1), (6, .int x4.2.2.2)] rfl (by decide) rfl ?_
          refine gw_lload C dX1_wordAt_75 4 rfl ?_
          refine gw_iload C dX1_wordAt_77 5 rfl ?_
          refine gw_iload C dX1_wordAt_79 1 rfl ?_
          refine gw_none (st2 := [.long (fX_withLetter x4.2.2.1 x4.2.2.2 q8)]) C (run_S (rest := []) C (c_X2_withLetter l D cI cJ cO x4.2.2.1 x4.2.2.2 q8 rfl) w_X2_withLetter rfl rfl (Nat.le_of_ble_eq_true rfl) dX1_wordAt_81 ⟨Nat.zero_le _, Nat.zero_le _⟩) rfl ?_
          refine gw_lt h (fun v11 ev11 h => ?_)
          rw [ev11]
          refine gw_lstore C dX1_wordAt_84 [(4, .long v11), (3, .int v10), (7, .int q8), (0, .ref (b 0)), (2, .int x4.1), (6, .int x4.2.2.2)] (by decide) rfl ?_
          refine gw_aload_n C dX1_wordAt_86 3 rfl ?_
          refine gw_iload_n C dX1_wordAt_87 4 rfl ?_
          refine gw_iload C dX1_wordAt_88 2 rfl ?_
          refine gw_whole (st2 := [.int (fT_childOf x4.1 q8 t)]) C (run_V (rest := []) C (c_X1_childOf l D cI cJ cO b t x4.1 q8 rfl) w_X1_childOf 0 1 rfl rfl rfl rfl rfl (Nat.le_of_ble_eq_true rfl) dX1_wordAt_90 ⟨Nat.zero_le _, Nat.zero_le _⟩) rfl ?_
          refine gw_lt h (fun v12 ev12 h => ?_)
          rw [ev12]
          refine gw_istore_n C dX1_wordAt_93 [(2, .int v12), (4, .long v11), (3, .int v10), (7, .int q8), (0, .ref (b 0)), (6, .int x4.2.2.2)] rfl (by decide) rfl ?_
          refine gw_iinc (v := (x4.2.2.2 + (1 : Int32))) C dX1_wordAt_94 [(6, .int (x4.2.2.2 + (1 : Int32))), (2, .int v12), (4, .long v11), (3, .int v10), (7, .int q8), (0, .ref (b 0))] 5 rfl rfl (by decide) rfl ?_
          refine gw_goto (tgt := 24) C dX1_wordAt_97 (by decide) ?_
          refine gw_sub [5, 1, 3, 2, 0] rfl ?_
          have h := gw_some h
          exact I4 _ h
    · refine gw_sub [] rfl ?_
      exact J1 _ h
theorem hd_X1_longestAtStartOf : yX1_longestAtStartOf.cls = RX1 ∧ yX1_longestAtStartOf.cls ≠ "java/lang/invoke/MethodHandle" ∧ yX1_longestAtStartOf.cls ≠ "java/lang/invoke/VarHandle" ∧ (parseMethodDescriptor yX1_longestAtStartOf.desc).map (fun d => d.parameters.length) = some 1 := by decide +kernel
set_option maxHeartbeats 4000000 in
set_option maxRecDepth 100000 in
theorem c_X1_longestAtStartOf (l : Launch) (D : va_G) (cI cJ cO : ClassId) (b : Nat → Nat) (t : TS) (p1 : Int64) {o : Int32} (h : fT_longestAtStartOf p1 t = some o) : Ct l D (tysA cI cJ cO) yX1_longestAtStartOf wsX1_longestAtStartOf (rmOf 4 89) [.ref (b 0), .long p1] (wT cI cJ b t) (some (.int o)) (wT cI cJ b t) := by
  refine Ct_of (own := RX1) cX1_longestAtStartOf 8 (some .int) (by decide +kernel) rfl rfl (Nat.le_of_ble_eq_true rfl) ?_
  intro p e s m args below meth c A C hnm
  have iX1 : ∀ w ∈ u_ws RX1 TX1 9, w ∈ wsX1_longestAtStartOf := fun w h => List.mem_cons_of_mem _ (List.mem_append_left _ (List.mem_append_right _ h))
  have f18 : Cond.fieldLink RX1 18 (TX1 1).1 (TX1 1).2.1 (TX1 1).2.2.1 ∈ wsX1_longestAtStartOf := List.mem_of_getElem? (i := 1) rfl
  have w_X1_childOf := cwV (R := (rmOf 4 89)) (rm := rmOf 1 21) (s := s) (args := args) 2 C.1.2.2.2.2 gX1_longestAtStartOf_X1_childOf rfl rfl rfl hd_X1_childOf ⟨Nat.le_of_ble_eq_true rfl, Nat.le_of_ble_eq_true rfl⟩
  have w_X1_endOf := cwV (R := (rmOf 4 89)) (rm := rmOf 1 21) (s := s) (args := args) 1 C.1.2.2.2.2 gX1_longestAtStartOf_X1_endOf rfl rfl rfl hd_X1_endOf ⟨Nat.le_of_ble_eq_true rfl, Nat.le_of_ble_eq_true rfl⟩
  have w_X2_begins := va_cwS (R := (rmOf 4 89)) (rm := rmOf 3 66) (s := s) (args := args) 2 C.1.2.2.2.2 gX1_longestAtStartOf_X2_begins rfl rfl rfl hd_X2_begins.2 ⟨Nat.le_of_ble_eq_true rfl, Nat.le_of_ble_eq_true rfl⟩
  have w_X2_firstOf := va_cwS (R := (rmOf 4 89)) (rm := rmOf 0 0) (s := s) (args := args) 1 C.1.2.2.2.2 gX1_longestAtStartOf_X2_firstOf rfl rfl rfl hd_X2_firstOf.2 ⟨Nat.le_of_ble_eq_true rfl, Nat.le_of_ble_eq_true rfl⟩
  have w_X2_lengthOf := va_cwS (R := (rmOf 4 89)) (rm := rmOf 2 43) (s := s) (args := args) 1 C.1.2.2.2.2 gX1_longestAtStartOf_X2_lengthOf rfl rfl rfl hd_X2_lengthOf.2 ⟨Nat.le_of_ble_eq_true rfl, Nat.le_of_ble_eq_true rfl⟩
  have w_X2_withoutFirst := va_cwS (R := (rmOf 4 89)) (rm := rmOf 0 0) (s := s) (args := args) 1 C.1.2.2.2.2 gX1_longestAtStartOf_X2_withoutFirst rfl rfl rfl hd_X2_withoutFirst.2 ⟨Nat.le_of_ble_eq_true rfl, Nat.le_of_ble_eq_true rfl⟩
  have n_X3_at := gw_cn (R := (rmOf 4 89)) (rm := rmOf 0 0) (index := 85) (n := 2) C gX1_longestAtStartOf_X3_at_n85 rfl rfl rfl (by simp [nestW]) (List.mem_of_getElem? (i := 3) rfl) (List.mem_of_getElem? (i := 2) rfl) hd_X3_at.2 ⟨Nat.le_of_ble_eq_true rfl, Nat.le_of_ble_eq_true rfl⟩
  have h := gw_top h
  unfold fT_longestAtStartOf at h
  show gw_G p l e (rmOf 4 89) s m args below meth c D A (CtM D below (some (.int o)) (wT cI cJ b t) A args s) 8 0 0 (wT cI cJ b t) [(0, .ref (b 0)), (1, .long p1)] 0 []
  refine gw_iconst (v := (-1 : Int32)) C dX1_longestAtStartOf_0 rfl ?_
  refine gw_istore_n C dX1_longestAtStartOf_1 [(3, .int (-1 : Int32)), (0, .ref (b 0)), (1, .long p1)] rfl (by decide) rfl ?_
  refine gw_iconst (v := (0 : Int32)) C dX1_longestAtStartOf_2 rfl ?_
  refine gw_istore C dX1_longestAtStartOf_3 [(4, .int (0 : Int32)), (3, .int (-1 : Int32)), (0, .ref (b 0)), (1, .long p1)] (by decide) rfl ?_
  refine gw_lload_n C dX1_longestAtStartOf_5 3 rfl ?_
  refine gw_lstore C dX1_longestAtStartOf_6 [(5, .long p1), (4, .int (0 : Int32)), (3, .int (-1 : Int32)), (0, .ref (b 0)), (1, .long p1)] (by decide) rfl ?_
  refine gw_iconst (v := (0 : Int32)) C dX1_longestAtStartOf_8 rfl ?_
  refine gw_istore C dX1_longestAtStartOf_9 [(7, .int (0 : Int32)), (5, .long p1), (4, .int (0 : Int32)), (3, .int (-1 : Int32)), (0, .ref (b 0)), (1, .long p1)] (by decide) rfl ?_
  refine gw_sub [4, 3, 2, 1, 0] rfl ?_
  refine gw_lpt (x0 := ((-1 : Int32), (0 : Int32), p1, (0 : Int32))) (Go := fun x1 : Int32 × Int32 × Int64 × Int32 => gw_G p l e (rmOf 4 89) s m args below meth c D A (CtM D below (some (.int o)) (wT cI cJ b t) A args s) 8 0 0 (wT cI cJ b t) [(0, .ref (b 0)), (3, .int x1.1), (4, .int x1.2.1), (5, .long x1.2.2.1), (7, .int x1.2.2.2)] 11 []) h (fun x1 K1 X1 I1 h => ?_)
  refine gw_iload C dX1_longestAtStartOf_11 4 rfl ?_
  refine gw_bipush (v := (12 : Int32)) C dX1_longestAtStartOf_13 rfl ?_
  refine gw_icmp_gt (tgt := 119) C dX1_longestAtStartOf_15 (by decide) h (fun c2 h => ?_) (fun c2 h => ?_)
  · refine gw_iload_n C dX1_longestAtStartOf_119 1 rfl ?_
    have h := gw_some h
    have h := X1 _ h
    have ho := Option.some.inj h
    subst ho
    exact gw_iret C dX1_longestAtStartOf_120
  · refine gw_iload C dX1_longestAtStartOf_18 2 rfl ?_
    refine gw_iconst (v := (-1 : Int32)) C dX1_longestAtStartOf_20 rfl ?_
    refine gw_icmp_eq (tgt := 119) C dX1_longestAtStartOf_21 (by decide) h (fun c3 h => ?_) (fun c3 h => ?_)
    · refine gw_iload_n C dX1_longestAtStartOf_119 1 rfl ?_
      have h := gw_some h
      have h := X1 _ h
      have ho := Option.some.inj h
      subst ho
      exact gw_iret C dX1_longestAtStartOf_120
    · refine gw_aload_n C dX1_longestAtStartOf_24 0 rfl ?_
      refine gw_get C dX1_longestAtStartOf_25 0 1 1 rfl rfl iX1 (by decide) f18 rfl ?_
      refine gw_iload C dX1_longestAtStartOf_28 2 rfl ?_
      refine gw_one (st2 := [.int (J_at 160 (tK t) x1.2.1)]) (ws' := wT cI cJ b t) C 1 rfl (run_SN (rest := []) C (c_X3_at l D cI cJ cO (b 1) 160 (tK t) x1.2.1 (by decide)) n_X3_at rfl rfl (Nat.le_of_ble_eq_true rfl) dX1_longestAtStartOf_30 ⟨Nat.zero_le _, Nat.zero_le _⟩) rfl rfl ?_
      refine gw_iconst (v := (2 : Int32)) C dX1_longestAtStartOf_33 rfl ?_
      refine gw_icmp_ne (tgt := 68) C dX1_longestAtStartOf_34 (by decide) h (fun c4 h => ?_) (fun c4 h => ?_)
      · refine gw_lload C dX1_longestAtStartOf_37 3 rfl ?_
        refine gw_aload_n C dX1_longestAtStartOf_39 0 rfl ?_
        refine gw_iload C dX1_longestAtStartOf_40 2 rfl ?_
        refine gw_bind h (fun q5 hq5 h => ?_)
        refine gw_whole (st2 := [.long q5, .long x1.2.2.1]) C (run_V (rest := [.long x1.2.2.1]) C (c_X1_endOf l D cI cJ cO b t x1.2.1 hq5) w_X1_endOf 0 1 rfl rfl rfl rfl rfl (Nat.le_of_ble_eq_true rfl) dX1_longestAtStartOf_42 ⟨Nat.zero_le _, Nat.zero_le _⟩) rfl ?_
        refine gw_bind h (fun q6 hq6 h => ?_)
        refine gw_none (st2 := [.int q6]) C (run_S (rest := []) C (c_X2_begins l D cI cJ cO x1.2.2.1 q5 hq6) w_X2_begins rfl rfl (Nat.le_of_ble_eq_true rfl) dX1_longestAtStartOf_45 ⟨Nat.zero_le _, Nat.zero_le _⟩) rfl ?_
        refine gw_if_eq (tgt := 66) C dX1_longestAtStartOf_48 (by decide) h (fun c7 h => ?_) (fun c7 h => ?_)
        · refine gw_iload_n C dX1_longestAtStartOf_66 1 rfl ?_
          have h := gw_some h
          have h := X1 _ h
          have ho := Option.some.inj h
          subst ho
          exact gw_iret C dX1_longestAtStartOf_67
        · refine gw_iload C dX1_longestAtStartOf_51 4 rfl ?_
          refine gw_aload_n C dX1_longestAtStartOf_53 0 rfl ?_
          refine gw_iload C dX1_longestAtStartOf_54 2 rfl ?_
          refine gw_bind h (fun q8 hq8 h => ?_)
          refine gw_whole (st2 := [.long q8, .int x1.2.2.2]) C (run_V (rest := [.int x1.2.2.2]) C (c_X1_endOf l D cI cJ cO b t x1.2.1 hq8) w_X1_endOf 0 1 rfl rfl rfl rfl rfl (Nat.le_of_ble_eq_true rfl) dX1_longestAtStartOf_56 ⟨Nat.zero_le _, Nat.zero_le _⟩) rfl ?_
          refine gw_bind h (fun q9 hq9 h => ?_)
          refine gw_none (st2 := [.int q9, .int x1.2.2.2]) C (run_S (rest := [.int x1.2.2.2]) C (c_X2_lengthOf l D cI cJ cO q8 hq9) w_X2_lengthOf rfl rfl (Nat.le_of_ble_eq_true rfl) dX1_longestAtStartOf_59 ⟨Nat.zero_le _, Nat.zero_le _⟩) rfl ?_
          refine gw_iadd C dX1_longestAtStartOf_62 ?_
          refine gw_goto (tgt := 67) C dX1_longestAtStartOf_63 (by decide) ?_
          have h := gw_some h
          have h := X1 _ h
          have ho := Option.some.inj h
          subst ho
          exact gw_iret C dX1_longestAtStartOf_67
      · refine gw_aload_n C dX1_longestAtStartOf_68 0 rfl ?_
        refine gw_iload C dX1_longestAtStartOf_69 2 rfl ?_
        refine gw_iconst (v := (0 : Int32)) C dX1_longestAtStartOf_71 rfl ?_
        refine gw_whole (st2 := [.int (fT_childOf x1.2.1 (0 : Int32) t)]) C (run_V (rest := []) C (c_X1_childOf l D cI cJ cO b t x1.2.1 (0 : Int32) rfl) w_X1_childOf 0 1 rfl rfl rfl rfl rfl (Nat.le_of_ble_eq_true rfl) dX1_longestAtStartOf_72 ⟨Nat.zero_le _, Nat.zero_le _⟩) rfl ?_
        refine gw_iconst (v := (-1 : Int32)) C dX1_longestAtStartOf_75 rfl ?_
        refine gw_lt h (fun j10 ej10 h => ?_)
        have J10 : ∀ v10 : Int32, Rs K1 o (j10 v10) → gw_G p l e (rmOf 4 89) s m args below meth c D A (CtM D below (some (.int o)) (wT cI cJ b t) A args s) 8 0 0 (wT cI cJ b t) [(0, .ref (b 0)), (3, .int v10), (4, .int x1.2.1), (5, .long x1.2.2.1), (7, .int x1.2.2.2)] 82 [] := by
          intro v10 h
          have h := gw_app ej10 h
          refine gw_lload C dX1_longestAtStartOf_82 3 rfl ?_
          refine gw_lconst (v := (0 : Int64)) C dX1_longestAtStartOf_84 rfl ?_
          refine gw_lt h (fun j12 ej12 h => ?_)
          have J12 : ∀ v12 : Int32, Rs K1 o (j12 v12) → gw_G p l e (rmOf 4 89) s m args below meth c D A (CtM D below (some (.int o)) (wT cI cJ b t) A args s) 8 0 0 (wT cI cJ b t) [(0, .ref (b 0)), (3, .int v10), (5, .long x1.2.2.1), (7, .int x1.2.2.2)] 104 [.int v12] := by
            intro v12 h
            have h := gw_app ej12 h
            refine gw_istore C dX1_longestAtStartOf_104 [(4, .int v12), (0, .ref (b 0)), (3, .int v10), (5, .long x1.2.2.1), (7, .int x1.2.2.2)] (by decide) rfl ?_
            refine gw_lload C dX1_longestAtStartOf_106 3 rfl ?_
            refine gw_none (st2 := [.long (fX_withoutFirst x1.2.2.1)]) C (run_S (rest := []) C (c_X2_withoutFirst l D cI cJ cO x1.2.2.1 rfl) w_X2_withoutFirst rfl rfl (Nat.le_of_ble_eq_true rfl) dX1_longestAtStartOf_108 ⟨Nat.zero_le _, Nat.zero_le _⟩) rfl ?_
            refine gw_lt h (fun v14 ev14 h => ?_)
            rw [ev14]
            refine gw_lstore C dX1_longestAtStartOf_111 [(5, .long v14), (4, .int v12), (0, .ref (b 0)), (3, .int v10), (7, .int x1.2.2.2)] (by decide) rfl ?_
            refine gw_iinc (v := (x1.2.2.2 + (1 : Int32))) C dX1_longestAtStartOf_113 [(7, .int (x1.2.2.2 + (1 : Int32))), (5, .long v14), (4, .int v12), (0, .ref (b 0)), (3, .int v10)] 4 rfl rfl (by decide) rfl ?_
            refine gw_goto (tgt := 11) C dX1_longestAtStartOf_116 (by decide) ?_
            refine gw_sub [3, 4, 2, 1, 0] rfl ?_
            have h := gw_some h
            exact I1 _ h
          refine gw_lcmp_ne (tgt := 93) C dX1_longestAtStartOf_85 dX1_longestAtStartOf_86 (by decide) h (fun c13 h => ?_) (fun c13 h => ?_)
          · refine gw_iconst (v := (-1 : Int32)) C dX1_longestAtStartOf_89 rfl ?_
            refine gw_goto (tgt := 104) C dX1_longestAtStartOf_90 (by decide) ?_
            refine gw_sub [0, 1, 3, 4] rfl ?_
            exact J12 _ h
          · refine gw_aload_n C dX1_longestAtStartOf_93 0 rfl ?_
            refine gw_iload C dX1_longestAtStartOf_94 2 rfl ?_
            refine gw_lload C dX1_longestAtStartOf_96 3 rfl ?_
            refine gw_none (st2 := [.int (fX_firstOf x1.2.2.1), .int x1.2.1, .ref (b 0)]) C (run_S (rest := [.int x1.2.1, .ref (b 0)]) C (c_X2_firstOf l D cI cJ cO x1.2.2.1 rfl) w_X2_firstOf rfl rfl (Nat.le_of_ble_eq_true rfl) dX1_longestAtStartOf_98 ⟨Nat.zero_le _, Nat.zero_le _⟩) rfl ?_
            refine gw_whole (st2 := [.int (fT_childOf x1.2.1 (fX_firstOf x1.2.2.1) t)]) C (run_V (rest := []) C (c_X1_childOf l D cI cJ cO b t x1.2.1 (fX_firstOf x1.2.2.1) rfl) w_X1_childOf 0 1 rfl rfl rfl rfl rfl (Nat.le_of_ble_eq_true rfl) dX1_longestAtStartOf_101 ⟨Nat.zero_le _, Nat.zero_le _⟩) rfl ?_
            refine gw_sub [0, 1, 3, 4] rfl ?_
            exact J12 _ h
        refine gw_icmp_eq (tgt := 82) C dX1_longestAtStartOf_76 (by decide) h (fun c11 h => ?_) (fun c11 h => ?_)
        · exact J10 _ h
        · refine gw_iload C dX1_longestAtStartOf_79 4 rfl ?_
          refine gw_istore_n C dX1_longestAtStartOf_81 [(3, .int x1.2.2.2), (0, .ref (b 0)), (4, .int x1.2.1), (5, .long x1.2.2.1), (7, .int x1.2.2.2)] rfl (by decide) rfl ?_
          refine gw_sub [1, 0, 2, 3, 4] rfl ?_
          exact J10 _ h
theorem hd_X1_wordsWith : yX1_wordsWith.cls = RX1 ∧ yX1_wordsWith.cls ≠ "java/lang/invoke/MethodHandle" ∧ yX1_wordsWith.cls ≠ "java/lang/invoke/VarHandle" ∧ (parseMethodDescriptor yX1_wordsWith.desc).map (fun d => d.parameters.length) = some 1 := by decide +kernel
set_option maxHeartbeats 4000000 in
set_option maxRecDepth 100000 in
theorem c_X1_wordsWith (l : Launch) (D : va_G) (cI cJ cO : ClassId) (b : Nat → Nat) (t : TS) (p1 : Int64) {o : Int32} (h : fT_wordsWith p1 t = some o) : Ct l D (tysA cI cJ cO) yX1_wordsWith wsX1_wordsWith (rmOf 4 89) [.ref (b 0), .long p1] (wT cI cJ b t) (some (.int o)) (wT cI cJ b t) := by
  refine Ct_of (own := RX1) cX1_wordsWith 7 (some .int) (by decide +kernel) rfl rfl (Nat.le_of_ble_eq_true rfl) ?_
  intro p e s m args below meth c A C hnm
  have iX1 : ∀ w ∈ u_ws RX1 TX1 9, w ∈ wsX1_wordsWith := fun w h => List.mem_cons_of_mem _ (List.mem_append_left _ (List.mem_append_right _ h))
  have f18 : Cond.fieldLink RX1 18 (TX1 1).1 (TX1 1).2.1 (TX1 1).2.2.1 ∈ wsX1_wordsWith := List.mem_of_getElem? (i := 1) rfl
  have f37 : Cond.fieldLink RX1 37 (TX1 7).1 (TX1 7).2.1 (TX1 7).2.2.1 ∈ wsX1_wordsWith := List.mem_of_getElem? (i := 2) rfl
  have w_X1_childOf := cwV (R := (rmOf 4 89)) (rm := rmOf 1 21) (s := s) (args := args) 2 C.1.2.2.2.2 gX1_wordsWith_X1_childOf rfl rfl rfl hd_X1_childOf ⟨Nat.le_of_ble_eq_true rfl, Nat.le_of_ble_eq_true rfl⟩
  have w_X1_endOf := cwV (R := (rmOf 4 89)) (rm := rmOf 1 21) (s := s) (args := args) 1 C.1.2.2.2.2 gX1_wordsWith_X1_endOf rfl rfl rfl hd_X1_endOf ⟨Nat.le_of_ble_eq_true rfl, Nat.le_of_ble_eq_true rfl⟩
  have w_X2_begins := va_cwS (R := (rmOf 4 89)) (rm := rmOf 3 66) (s := s) (args := args) 2 C.1.2.2.2.2 gX1_wordsWith_X2_begins rfl rfl rfl hd_X2_begins.2 ⟨Nat.le_of_ble_eq_true rfl, Nat.le_of_ble_eq_true rfl⟩
  have w_X2_firstOf := va_cwS (R := (rmOf 4 89)) (rm := rmOf 0 0) (s := s) (args := args) 1 C.1.2.2.2.2 gX1_wordsWith_X2_firstOf rfl rfl rfl hd_X2_firstOf.2 ⟨Nat.le_of_ble_eq_true rfl, Nat.le_of_ble_eq_true rfl⟩
  have w_X2_withoutFirst := va_cwS (R := (rmOf 4 89)) (rm := rmOf 0 0) (s := s) (args := args) 1 C.1.2.2.2.2 gX1_wordsWith_X2_withoutFirst rfl rfl rfl hd_X2_withoutFirst.2 ⟨Nat.le_of_ble_eq_true rfl, Nat.le_of_ble_eq_true rfl⟩
  have n_X3_at := gw_cn (R := (rmOf 4 89)) (rm := rmOf 0 0) (index := 85) (n := 2) C gX1_wordsWith_X3_at_n85 rfl rfl rfl (by simp [nestW]) (List.mem_of_getElem? (i := 4) rfl) (List.mem_of_getElem? (i := 3) rfl) hd_X3_at.2 ⟨Nat.le_of_ble_eq_true rfl, Nat.le_of_ble_eq_true rfl⟩
  have h := gw_top h
  unfold fT_wordsWith at h
  show gw_G p l e (rmOf 4 89) s m args below meth c D A (CtM D below (some (.int o)) (wT cI cJ b t) A args s) 7 0 0 (wT cI cJ b t) [(0, .ref (b 0)), (1, .long p1)] 0 []
  refine gw_iconst (v := (0 : Int32)) C dX1_wordsWith_0 rfl ?_
  refine gw_istore_n C dX1_wordsWith_1 [(3, .int (0 : Int32)), (0, .ref (b 0)), (1, .long p1)] rfl (by decide) rfl ?_
  refine gw_lload_n C dX1_wordsWith_2 2 rfl ?_
  refine gw_lstore C dX1_wordsWith_3 [(4, .long p1), (3, .int (0 : Int32)), (0, .ref (b 0)), (1, .long p1)] (by decide) rfl ?_
  refine gw_iconst (v := (0 : Int32)) C dX1_wordsWith_5 rfl ?_
  refine gw_istore C dX1_wordsWith_6 [(6, .int (0 : Int32)), (4, .long p1), (3, .int (0 : Int32)), (0, .ref (b 0)), (1, .long p1)] (by decide) rfl ?_
  refine gw_sub [3, 2, 1, 0] rfl ?_
  refine gw_lpt (x0 := ((0 : Int32), p1, (0 : Int32))) (Go := fun x1 : Int32 × Int64 × Int32 => gw_G p l e (rmOf 4 89) s m args below meth c D A (CtM D below (some (.int o)) (wT cI cJ b t) A args s) 7 0 0 (wT cI cJ b t) [(0, .ref (b 0)), (3, .int x1.1), (4, .long x1.2.1), (6, .int x1.2.2)] 8 []) h (fun x1 K1 X1 I1 h => ?_)
  refine gw_iload C dX1_wordsWith_8 3 rfl ?_
  refine gw_bipush (v := (12 : Int32)) C dX1_wordsWith_10 rfl ?_
  refine gw_icmp_gt (tgt := 91) C dX1_wordsWith_12 (by decide) h (fun c2 h => ?_) (fun c2 h => ?_)
  · refine gw_iconst (v := (0 : Int32)) C dX1_wordsWith_91 rfl ?_
    have h := gw_some h
    have h := X1 _ h
    have ho := Option.some.inj h
    subst ho
    exact gw_iret C dX1_wordsWith_92
  · refine gw_iload_n C dX1_wordsWith_15 1 rfl ?_
    refine gw_iconst (v := (-1 : Int32)) C dX1_wordsWith_16 rfl ?_
    refine gw_icmp_eq (tgt := 91) C dX1_wordsWith_17 (by decide) h (fun c3 h => ?_) (fun c3 h => ?_)
    · refine gw_iconst (v := (0 : Int32)) C dX1_wordsWith_91 rfl ?_
      have h := gw_some h
      have h := X1 _ h
      have ho := Option.some.inj h
      subst ho
      exact gw_iret C dX1_wordsWith_92
    · refine gw_aload_n C dX1_wordsWith_20 0 rfl ?_
      refine gw_get C dX1_wordsWith_21 0 1 1 rfl rfl iX1 (by decide) f18 rfl ?_
      refine gw_iload_n C dX1_wordsWith_24 1 rfl ?_
      refine gw_one (st2 := [.int (J_at 160 (tK t) x1.1)]) (ws' := wT cI cJ b t) C 1 rfl (run_SN (rest := []) C (c_X3_at l D cI cJ cO (b 1) 160 (tK t) x1.1 (by decide)) n_X3_at rfl rfl (Nat.le_of_ble_eq_true rfl) dX1_wordsWith_25 ⟨Nat.zero_le _, Nat.zero_le _⟩) rfl rfl ?_
      refine gw_iconst (v := (2 : Int32)) C dX1_wordsWith_28 rfl ?_
      refine gw_icmp_ne (tgt := 51) C dX1_wordsWith_29 (by decide) h (fun c4 h => ?_) (fun c4 h => ?_)
      · refine gw_aload_n C dX1_wordsWith_32 0 rfl ?_
        refine gw_iload_n C dX1_wordsWith_33 1 rfl ?_
        refine gw_bind h (fun q5 hq5 h => ?_)
        refine gw_whole (st2 := [.long q5]) C (run_V (rest := []) C (c_X1_endOf l D cI cJ cO b t x1.1 hq5) w_X1_endOf 0 1 rfl rfl rfl rfl rfl (Nat.le_of_ble_eq_true rfl) dX1_wordsWith_34 ⟨Nat.zero_le _, Nat.zero_le _⟩) rfl ?_
        refine gw_lload C dX1_wordsWith_37 2 rfl ?_
        refine gw_bind h (fun q6 hq6 h => ?_)
        refine gw_none (st2 := [.int q6]) C (run_S (rest := []) C (c_X2_begins l D cI cJ cO q5 x1.2.1 hq6) w_X2_begins rfl rfl (Nat.le_of_ble_eq_true rfl) dX1_wordsWith_39 ⟨Nat.zero_le _, Nat.zero_le _⟩) rfl ?_
        refine gw_if_eq (tgt := 49) C dX1_wordsWith_42 (by decide) h (fun c7 h => ?_) (fun c7 h => ?_)
        · refine gw_iconst (v := (0 : Int32)) C dX1_wordsWith_49 rfl ?_
          have h := gw_some h
          have h := X1 _ h
          have ho := Option.some.inj h
          subst ho
          exact gw_iret C dX1_wordsWith_50
        · refine gw_iconst (v := (1 : Int32)) C dX1_wordsWith_45 rfl ?_
          refine gw_goto (tgt := 50) C dX1_wordsWith_46 (by decide) ?_
          have h := gw_some h
          have h := X1 _ h
          have ho := Option.some.inj h
          subst ho
          exact gw_iret C dX1_wordsWith_50
      · refine gw_lload C dX1_wordsWith_51 2 rfl ?_
        refine gw_lconst (v := (0 : Int64)) C dX1_wordsWith_53 rfl ?_
        refine gw_lcmp_ne (tgt := 67) C dX1_wordsWith_54 dX1_wordsWith_55 (by decide) h (fun c8 h => ?_) (fun c8 h => ?_)
        · refine gw_aload_n C dX1_wordsWith_58 0 rfl ?_
          refine gw_get C dX1_wordsWith_59 0 1 7 rfl rfl iX1 (by decide) f37 rfl ?_
          refine gw_iload_n C dX1_wordsWith_62 1 rfl ?_
          refine gw_one (st2 := [.int (J_at 160 (tW t) x1.1)]) (ws' := wT cI cJ b t) C 7 rfl (run_SN (rest := []) C (c_X3_at l D cI cJ cO (b 7) 160 (tW t) x1.1 (by decide)) n_X3_at rfl rfl (Nat.le_of_ble_eq_true rfl) dX1_wordsWith_63 ⟨Nat.zero_le _, Nat.zero_le _⟩) rfl rfl ?_
          have h := gw_some h
          have h := X1 _ h
          have ho := Option.some.inj h
          subst ho
          exact gw_iret C dX1_wordsWith_66
        · refine gw_aload_n C dX1_wordsWith_67 0 rfl ?_
          refine gw_iload_n C dX1_wordsWith_68 1 rfl ?_
          refine gw_lload C dX1_wordsWith_69 2 rfl ?_
          refine gw_none (st2 := [.int (fX_firstOf x1.2.1), .int x1.1, .ref (b 0)]) C (run_S (rest := [.int x1.1, .ref (b 0)]) C (c_X2_firstOf l D cI cJ cO x1.2.1 rfl) w_X2_firstOf rfl rfl (Nat.le_of_ble_eq_true rfl) dX1_wordsWith_71 ⟨Nat.zero_le _, Nat.zero_le _⟩) rfl ?_
          refine gw_whole (st2 := [.int (fT_childOf x1.1 (fX_firstOf x1.2.1) t)]) C (run_V (rest := []) C (c_X1_childOf l D cI cJ cO b t x1.1 (fX_firstOf x1.2.1) rfl) w_X1_childOf 0 1 rfl rfl rfl rfl rfl (Nat.le_of_ble_eq_true rfl) dX1_wordsWith_74 ⟨Nat.zero_le _, Nat.zero_le _⟩) rfl ?_
          refine gw_lt h (fun v9 ev9 h => ?_)
          rw [ev9]
          refine gw_istore_n C dX1_wordsWith_77 [(3, .int v9), (0, .ref (b 0)), (4, .long x1.2.1), (6, .int x1.2.2)] rfl (by decide) rfl ?_
          refine gw_lload C dX1_wordsWith_78 2 rfl ?_
          refine gw_none (st2 := [.long (fX_withoutFirst x1.2.1)]) C (run_S (rest := []) C (c_X2_withoutFirst l D cI cJ cO x1.2.1 rfl) w_X2_withoutFirst rfl rfl (Nat.le_of_ble_eq_true rfl) dX1_wordsWith_80 ⟨Nat.zero_le _, Nat.zero_le _⟩) rfl ?_
          refine gw_lt h (fun v10 ev10 h => ?_)
          rw [ev10]
          refine gw_lstore C dX1_wordsWith_83 [(4, .long v10), (3, .int v9), (0, .ref (b 0)), (6, .int x1.2.2)] (by decide) rfl ?_
          refine gw_iinc (v := (x1.2.2 + (1 : Int32))) C dX1_wordsWith_85 [(6, .int (x1.2.2 + (1 : Int32))), (4, .long v10), (3, .int v9), (0, .ref (b 0))] 3 rfl rfl (by decide) rfl ?_
          refine gw_goto (tgt := 8) C dX1_wordsWith_88 (by decide) ?_
          refine gw_sub [3, 2, 1, 0] rfl ?_
          have h := gw_some h
          exact I1 _ h
theorem hd_X1_wordsAhead : yX1_wordsAhead.cls = RX1 ∧ yX1_wordsAhead.cls ≠ "java/lang/invoke/MethodHandle" ∧ yX1_wordsAhead.cls ≠ "java/lang/invoke/VarHandle" ∧ (parseMethodDescriptor yX1_wordsAhead.desc).map (fun d => d.parameters.length) = some 1 := by decide +kernel
set_option maxHeartbeats 4000000 in
set_option maxRecDepth 100000 in
theorem c_X1_wordsAhead (l : Launch) (D : va_G) (cI cJ cO : ClassId) (b : Nat → Nat) (t : TS) (p1 : Int64) {o : Int32} (h : fT_wordsAhead p1 t = some o) : Ct l D (tysA cI cJ cO) yX1_wordsAhead wsX1_wordsAhead (rmOf 3 69) [.ref (b 0), .long p1] (wT cI cJ b t) (some (.int o)) (wT cI cJ b t) := by
  refine Ct_of (own := RX1) cX1_wordsAhead 8 (some .int) (by decide +kernel) rfl rfl (Nat.le_of_ble_eq_true rfl) ?_
  intro p e s m args below meth c A C hnm
  have iX1 : ∀ w ∈ u_ws RX1 TX1 9, w ∈ wsX1_wordsAhead := fun w h => List.mem_cons_of_mem _ (List.mem_append_left _ (List.mem_append_right _ h))
  have f18 : Cond.fieldLink RX1 18 (TX1 1).1 (TX1 1).2.1 (TX1 1).2.2.1 ∈ wsX1_wordsAhead := List.mem_of_getElem? (i := 1) rfl
  have w_X1_childOf := cwV (R := (rmOf 3 69)) (rm := rmOf 1 21) (s := s) (args := args) 2 C.1.2.2.2.2 gX1_wordsAhead_X1_childOf rfl rfl rfl hd_X1_childOf ⟨Nat.le_of_ble_eq_true rfl, Nat.le_of_ble_eq_true rfl⟩
  have w_X1_endOf := cwV (R := (rmOf 3 69)) (rm := rmOf 1 21) (s := s) (args := args) 1 C.1.2.2.2.2 gX1_wordsAhead_X1_endOf rfl rfl rfl hd_X1_endOf ⟨Nat.le_of_ble_eq_true rfl, Nat.le_of_ble_eq_true rfl⟩
  have w_X1_wordsBefore := cwV (R := (rmOf 3 69)) (rm := rmOf 2 43) (s := s) (args := args) 2 C.1.2.2.2.2 gX1_wordsAhead_X1_wordsBefore rfl rfl rfl hd_X1_wordsBefore ⟨Nat.le_of_ble_eq_true rfl, Nat.le_of_ble_eq_true rfl⟩
  have w_X2_firstOf := va_cwS (R := (rmOf 3 69)) (rm := rmOf 0 0) (s := s) (args := args) 1 C.1.2.2.2.2 gX1_wordsAhead_X2_firstOf rfl rfl rfl hd_X2_firstOf.2 ⟨Nat.le_of_ble_eq_true rfl, Nat.le_of_ble_eq_true rfl⟩
  have w_X2_isAhead := va_cwS (R := (rmOf 3 69)) (rm := rmOf 2 43) (s := s) (args := args) 2 C.1.2.2.2.2 gX1_wordsAhead_X2_isAhead rfl rfl rfl hd_X2_isAhead.2 ⟨Nat.le_of_ble_eq_true rfl, Nat.le_of_ble_eq_true rfl⟩
  have w_X2_withoutFirst := va_cwS (R := (rmOf 3 69)) (rm := rmOf 0 0) (s := s) (args := args) 1 C.1.2.2.2.2 gX1_wordsAhead_X2_withoutFirst rfl rfl rfl hd_X2_withoutFirst.2 ⟨Nat.le_of_ble_eq_true rfl, Nat.le_of_ble_eq_true rfl⟩
  have n_X3_at := gw_cn (R := (rmOf 3 69)) (rm := rmOf 0 0) (index := 85) (n := 2) C gX1_wordsAhead_X3_at_n85 rfl rfl rfl (by simp [nestW]) (List.mem_of_getElem? (i := 3) rfl) (List.mem_of_getElem? (i := 2) rfl) hd_X3_at.2 ⟨Nat.le_of_ble_eq_true rfl, Nat.le_of_ble_eq_true rfl⟩
  have h := gw_top h
  unfold fT_wordsAhead at h
  show gw_G p l e (rmOf 3 69) s m args below meth c D A (CtM D below (some (.int o)) (wT cI cJ b t) A args s) 8 0 0 (wT cI cJ b t) [(0, .ref (b 0)), (1, .long p1)] 0 []
  refine gw_iconst (v := (0 : Int32)) C dX1_wordsAhead_0 rfl ?_
  refine gw_istore_n C dX1_wordsAhead_1 [(3, .int (0 : Int32)), (0, .ref (b 0)), (1, .long p1)] rfl (by decide) rfl ?_
  refine gw_iconst (v := (0 : Int32)) C dX1_wordsAhead_2 rfl ?_
  refine gw_istore C dX1_wordsAhead_3 [(4, .int (0 : Int32)), (3, .int (0 : Int32)), (0, .ref (b 0)), (1, .long p1)] (by decide) rfl ?_
  refine gw_lload_n C dX1_wordsAhead_5 3 rfl ?_
  refine gw_lstore C dX1_wordsAhead_6 [(5, .long p1), (4, .int (0 : Int32)), (3, .int (0 : Int32)), (0, .ref (b 0)), (1, .long p1)] (by decide) rfl ?_
  refine gw_iconst (v := (0 : Int32)) C dX1_wordsAhead_8 rfl ?_
  refine gw_istore C dX1_wordsAhead_9 [(7, .int (0 : Int32)), (5, .long p1), (4, .int (0 : Int32)), (3, .int (0 : Int32)), (0, .ref (b 0)), (1, .long p1)] (by decide) rfl ?_
  refine gw_sub [4, 3, 2, 1, 0] rfl ?_
  refine gw_lpt (x0 := ((0 : Int32), (0 : Int32), p1, (0 : Int32))) (Go := fun x1 : Int32 × Int32 × Int64 × Int32 => gw_G p l e (rmOf 3 69) s m args below meth c D A (CtM D below (some (.int o)) (wT cI cJ b t) A args s) 8 0 0 (wT cI cJ b t) [(0, .ref (b 0)), (3, .int x1.1), (4, .int x1.2.1), (5, .long x1.2.2.1), (7, .int x1.2.2.2)] 11 []) h (fun x1 K1 X1 I1 h => ?_)
  refine gw_iload C dX1_wordsAhead_11 4 rfl ?_
  refine gw_bipush (v := (12 : Int32)) C dX1_wordsAhead_13 rfl ?_
  refine gw_icmp_gt (tgt := 106) C dX1_wordsAhead_15 (by decide) h (fun c2 h => ?_) (fun c2 h => ?_)
  · refine gw_iload_n C dX1_wordsAhead_106 1 rfl ?_
    have h := gw_some h
    have h := X1 _ h
    have ho := Option.some.inj h
    subst ho
    exact gw_iret C dX1_wordsAhead_107
  · refine gw_iload C dX1_wordsAhead_18 2 rfl ?_
    refine gw_iconst (v := (-1 : Int32)) C dX1_wordsAhead_20 rfl ?_
    refine gw_icmp_eq (tgt := 106) C dX1_wordsAhead_21 (by decide) h (fun c3 h => ?_) (fun c3 h => ?_)
    · refine gw_iload_n C dX1_wordsAhead_106 1 rfl ?_
      have h := gw_some h
      have h := X1 _ h
      have ho := Option.some.inj h
      subst ho
      exact gw_iret C dX1_wordsAhead_107
    · refine gw_lload C dX1_wordsAhead_24 3 rfl ?_
      refine gw_lconst (v := (0 : Int64)) C dX1_wordsAhead_26 rfl ?_
      refine gw_lcmp_eq (tgt := 106) C dX1_wordsAhead_27 dX1_wordsAhead_28 (by decide) h (fun c4 h => ?_) (fun c4 h => ?_)
      · refine gw_iload_n C dX1_wordsAhead_106 1 rfl ?_
        have h := gw_some h
        have h := X1 _ h
        have ho := Option.some.inj h
        subst ho
        exact gw_iret C dX1_wordsAhead_107
      · refine gw_aload_n C dX1_wordsAhead_31 0 rfl ?_
        refine gw_get C dX1_wordsAhead_32 0 1 1 rfl rfl iX1 (by decide) f18 rfl ?_
        refine gw_iload C dX1_wordsAhead_35 2 rfl ?_
        refine gw_one (st2 := [.int (J_at 160 (tK t) x1.2.1)]) (ws' := wT cI cJ b t) C 1 rfl (run_SN (rest := []) C (c_X3_at l D cI cJ cO (b 1) 160 (tK t) x1.2.1 (by decide)) n_X3_at rfl rfl (Nat.le_of_ble_eq_true rfl) dX1_wordsAhead_37 ⟨Nat.zero_le _, Nat.zero_le _⟩) rfl rfl ?_
        refine gw_iconst (v := (2 : Int32)) C dX1_wordsAhead_40 rfl ?_
        refine gw_icmp_ne (tgt := 66) C dX1_wordsAhead_41 (by decide) h (fun c5 h => ?_) (fun c5 h => ?_)
        · refine gw_aload_n C dX1_wordsAhead_44 0 rfl ?_
          refine gw_iload C dX1_wordsAhead_45 2 rfl ?_
          refine gw_bind h (fun q6 hq6 h => ?_)
          refine gw_whole (st2 := [.long q6]) C (run_V (rest := []) C (c_X1_endOf l D cI cJ cO b t x1.2.1 hq6) w_X1_endOf 0 1 rfl rfl rfl rfl rfl (Nat.le_of_ble_eq_true rfl) dX1_wordsAhead_47 ⟨Nat.zero_le _, Nat.zero_le _⟩) rfl ?_
          refine gw_lload C dX1_wordsAhead_50 3 rfl ?_
          refine gw_bind h (fun q7 hq7 h => ?_)
          refine gw_none (st2 := [.int q7]) C (run_S (rest := []) C (c_X2_isAhead l D cI cJ cO q6 x1.2.2.1 hq7) w_X2_isAhead rfl rfl (Nat.le_of_ble_eq_true rfl) dX1_wordsAhead_52 ⟨Nat.zero_le _, Nat.zero_le _⟩) rfl ?_
          refine gw_if_eq (tgt := 64) C dX1_wordsAhead_55 (by decide) h (fun c8 h => ?_) (fun c8 h => ?_)
          · refine gw_iload_n C dX1_wordsAhead_64 1 rfl ?_
            have h := gw_some h
            have h := X1 _ h
            have ho := Option.some.inj h
            subst ho
            exact gw_iret C dX1_wordsAhead_65
          · refine gw_iload_n C dX1_wordsAhead_58 1 rfl ?_
            refine gw_iconst (v := (1 : Int32)) C dX1_wordsAhead_59 rfl ?_
            refine gw_iadd C dX1_wordsAhead_60 ?_
            refine gw_goto (tgt := 65) C dX1_wordsAhead_61 (by decide) ?_
            have h := gw_some h
            have h := X1 _ h
            have ho := Option.some.inj h
            subst ho
            exact gw_iret C dX1_wordsAhead_65
        · refine gw_iload_n C dX1_wordsAhead_66 1 rfl ?_
          refine gw_aload_n C dX1_wordsAhead_67 0 rfl ?_
          refine gw_iload C dX1_wordsAhead_68 2 rfl ?_
          refine gw_lload C dX1_wordsAhead_70 3 rfl ?_
          refine gw_none (st2 := [.int (fX_firstOf x1.2.2.1), .int x1.2.1, .ref (b 0), .int x1.1]) C (run_S (rest := [.int x1.2.1, .ref (b 0), .int x1.1]) C (c_X2_firstOf l D cI cJ cO x1.2.2.1 rfl) w_X2_firstOf rfl rfl (Nat.le_of_ble_eq_true rfl) dX1_wordsAhead_72 ⟨Nat.zero_le _, Nat.zero_le _⟩) rfl ?_
          refine gw_bind h (fun q9 hq9 h => ?_)
          refine gw_whole (st2 := [.int q9, .int x1.1]) C (run_V (rest := [.int x1.1]) C (c_X1_wordsBefore l D cI cJ cO b t x1.2.1 (fX_firstOf x1.2.2.1) hq9) w_X1_wordsBefore 0 1 rfl rfl rfl rfl rfl (Nat.le_of_ble_eq_true rfl) dX1_wordsAhead_75 ⟨Nat.zero_le _, Nat.zero_le _⟩) rfl ?_
          refine gw_iadd C dX1_wordsAhead_78 ?_
          refine gw_lt h (fun v10 ev10 h => ?_)
          rw [ev10]
          refine gw_istore_n C dX1_wordsAhead_79 [(3, .int v10), (0, .ref (b 0)), (4, .int x1.2.1), (5, .long x1.2.2.1), (7, .int x1.2.2.2)] rfl (by decide) rfl ?_
          refine gw_aload_n C dX1_wordsAhead_80 1 rfl ?_
          refine gw_iload C dX1_wordsAhead_81 2 rfl ?_
          refine gw_lload C dX1_wordsAhead_83 3 rfl ?_
          refine gw_none (st2 := [.int (fX_firstOf x1.2.2.1), .int x1.2.1, .ref (b 0)]) C (run_S (rest := [.int x1.2.1, .ref (b 0)]) C (c_X2_firstOf l D cI cJ cO x1.2.2.1 rfl) w_X2_firstOf rfl rfl (Nat.le_of_ble_eq_true rfl) dX1_wordsAhead_85 ⟨Nat.zero_le _, Nat.zero_le _⟩) rfl ?_
          refine gw_whole (st2 := [.int (fT_childOf x1.2.1 (fX_firstOf x1.2.2.1) t)]) C (run_V (rest := []) C (c_X1_childOf l D cI cJ cO b t x1.2.1 (fX_firstOf x1.2.2.1) rfl) w_X1_childOf 0 1 rfl rfl rfl rfl rfl (Nat.le_of_ble_eq_true rfl) dX1_wordsAhead_88 ⟨Nat.zero_le _, Nat.zero_le _⟩) rfl ?_
          refine gw_lt h (fun v11 ev11 h => ?_)
          rw [ev11]
          refine gw_istore C dX1_wordsAhead_91 [(4, .int v11), (3, .int v10), (0, .ref (b 0)), (5, .long x1.2.2.1), (7, .int x1.2.2.2)] (by decide) rfl ?_
          refine gw_lload C dX1_wordsAhead_93 3 rfl ?_
          refine gw_none (st2 := [.long (fX_withoutFirst x1.2.2.1)]) C (run_S (rest := []) C (c_X2_withoutFirst l D cI cJ cO x1.2.2.1 rfl) w_X2_withoutFirst rfl rfl (Nat.le_of_ble_eq_true rfl) dX1_wordsAhead_95 ⟨Nat.zero_le _, Nat.zero_le _⟩) rfl ?_
          refine gw_lt h (fun v12 ev12 h => ?_)
          rw [ev12]
          refine gw_lstore C dX1_wordsAhead_98 [(5, .long v12), (4, .int v11), (3, .int v10), (0, .ref (b 0)), (7, .int x1.2.2.2)] (by decide) rfl ?_
          refine gw_iinc (v := (x1.2.2.2 + (1 : Int32))) C dX1_wordsAhead_100 [(7, .int (x1.2.2.2 + (1 : Int32))), (5, .long v12), (4, .int v11), (3, .int v10), (0, .ref (b 0))] 4 rfl rfl (by decide) rfl ?_
          refine gw_goto (tgt := 11) C dX1_wordsAhead_103 (by decide) ?_
          refine gw_sub [4, 3, 2, 1, 0] rfl ?_
          have h := gw_some h
          exact I1 _ h
theorem hd_X1_addBelow : yX1_addBelow.cls = RX1 ∧ yX1_addBelow.cls ≠ "java/lang/invoke/MethodHandle" ∧ yX1_addBelow.cls ≠ "java/lang/invoke/VarHandle" ∧ (parseMethodDescriptor yX1_addBelow.desc).map (fun d => d.parameters.length) = some 2 := by decide +kernel
set_option maxHeartbeats 4000000 in
set_option maxRecDepth 100000 in
theorem c_X1_addBelow (l : Launch) (D : va_G) (cI cJ cO : ClassId) (b : Nat → Nat) (t : TS) (p1 : Int32) (p2 : Int32) {o : TS} (h : fT_addBelow p1 p2 t = some o) : Ct l D (tysA cI cJ cO) yX1_addBelow wsX1_addBelow (rmOf 1 22) [.ref (b 0), .int p1, .int p2] (wT cI cJ b t) none (wT cI cJ b o) := by
  refine Ct_of (own := RX1) cX1_addBelow 5 none (by decide +kernel) rfl rfl (Nat.le_of_ble_eq_true rfl) ?_
  intro p e s m args below meth c A C hnm
  have iX1 : ∀ w ∈ u_ws RX1 TX1 9, w ∈ wsX1_addBelow := fun w h => List.mem_cons_of_mem _ (List.mem_append_right _ h)
  have f22 : Cond.fieldLink RX1 22 (TX1 2).1 (TX1 2).2.1 (TX1 2).2.2.1 ∈ wsX1_addBelow := List.mem_of_getElem? (i := 2) rfl
  have f37 : Cond.fieldLink RX1 37 (TX1 7).1 (TX1 7).2.1 (TX1 7).2.2.1 ∈ wsX1_addBelow := List.mem_of_getElem? (i := 1) rfl
  have n_X3_at := gw_cn (R := (rmOf 1 22)) (rm := rmOf 0 0) (index := 85) (n := 2) C gX1_addBelow_X3_at_n85 rfl rfl rfl (by simp [nestW]) (List.mem_of_getElem? (i := 4) rfl) (List.mem_of_getElem? (i := 3) rfl) hd_X3_at.2 ⟨Nat.le_of_ble_eq_true rfl, Nat.le_of_ble_eq_true rfl⟩
  have n_X3_put := gw_cn (R := (rmOf 1 22)) (rm := rmOf 0 0) (index := 50) (n := 3) C gX1_addBelow_X3_put_n50 rfl rfl rfl (by simp [nestW]) (List.mem_of_getElem? (i := 4) rfl) (List.mem_of_getElem? (i := 6) rfl) hd_X3_put.2 ⟨Nat.le_of_ble_eq_true rfl, Nat.le_of_ble_eq_true rfl⟩
  have h := gw_top h
  unfold fT_addBelow at h
  show gw_G p l e (rmOf 1 22) s m args below meth c D A (CtM D below none (wT cI cJ b o) A args s) 5 0 0 (wT cI cJ b t) [(0, .ref (b 0)), (1, .int p1), (2, .int p2)] 0 []
  refine gw_iload_n C dX1_addBelow_0 1 rfl ?_
  refine gw_istore_n C dX1_addBelow_1 [(3, .int p1), (0, .ref (b 0)), (1, .int p1), (2, .int p2)] rfl (by decide) rfl ?_
  refine gw_iconst (v := (0 : Int32)) C dX1_addBelow_2 rfl ?_
  refine gw_istore C dX1_addBelow_3 [(4, .int (0 : Int32)), (3, .int p1), (0, .ref (b 0)), (1, .int p1), (2, .int p2)] (by decide) rfl ?_
  refine gw_sub [2, 4, 1, 0] rfl ?_
  refine gw_lpb (x0 := (p1, (0 : Int32), t)) (Go := fun x1 : Int32 × Int32 × TS => gw_G p l e (rmOf 1 22) s m args below meth c D A (CtM D below none (wT cI cJ b o) A args s) 5 0 0 (wT cI cJ b x1.2.2) [(0, .ref (b 0)), (2, .int p2), (3, .int x1.1), (4, .int x1.2.1)] 5 []) (GoX := fun v1 : TS => gw_G p l e (rmOf 1 22) s m args below meth c D A (CtM D below none (wT cI cJ b o) A args s) 5 0 0 (wT cI cJ b v1) [] 50 []) h (fun v1 h => ?_) (fun x1 K1 X1 I1 h => ?_)
  · have h := gw_some h
    have ho := Option.some.inj h
    subst ho
    exact gw_vret C dX1_addBelow_50
  · refine gw_iload C dX1_addBelow_5 3 rfl ?_
    refine gw_bipush (v := (12 : Int32)) C dX1_addBelow_7 rfl ?_
    refine gw_icmp_gt (tgt := 50) C dX1_addBelow_9 (by decide) h (fun c2 h => ?_) (fun c2 h => ?_)
    · refine gw_sub [] rfl ?_
      have h := gw_some h
      exact X1 _ h
    · refine gw_iload_n C dX1_addBelow_12 2 rfl ?_
      refine gw_iconst (v := (-1 : Int32)) C dX1_addBelow_13 rfl ?_
      refine gw_icmp_eq (tgt := 50) C dX1_addBelow_14 (by decide) h (fun c3 h => ?_) (fun c3 h => ?_)
      · refine gw_sub [] rfl ?_
        have h := gw_some h
        exact X1 _ h
      · refine gw_aload_n C dX1_addBelow_17 0 rfl ?_
        refine gw_get C dX1_addBelow_18 0 1 7 rfl rfl iX1 (by decide) f37 rfl ?_
        refine gw_iload_n C dX1_addBelow_21 2 rfl ?_
        refine gw_aload_n C dX1_addBelow_22 0 rfl ?_
        refine gw_get C dX1_addBelow_23 0 1 7 rfl rfl iX1 (by decide) f37 rfl ?_
        refine gw_iload_n C dX1_addBelow_26 2 rfl ?_
        refine gw_one (st2 := [.int (J_at 160 (tW x1.2.2) x1.1), .int x1.1, .ref (b 7)]) (ws' := wT cI cJ b x1.2.2) C 7 rfl (run_SN (rest := [.int x1.1, .ref (b 7)]) C (c_X3_at l D cI cJ cO (b 7) 160 (tW x1.2.2) x1.1 (by decide)) n_X3_at rfl rfl (Nat.le_of_ble_eq_true rfl) dX1_addBelow_27 ⟨Nat.zero_le _, Nat.zero_le _⟩) rfl rfl ?_
        refine gw_iload_n C dX1_addBelow_30 1 rfl ?_
        refine gw_iadd C dX1_addBelow_31 ?_
        refine gw_lt h (fun t4 et4 h => ?_)
        refine gw_one (st2 := []) (ws' := wT cI cJ b t4) C 7 rfl (run_SN (rest := []) C (c_X3_put l D cI cJ cO (b 7) 160 (tW x1.2.2) x1.1 ((J_at 160 (tW x1.2.2) x1.1) + p2) (by decide)) n_X3_put rfl rfl (Nat.le_of_ble_eq_true rfl) dX1_addBelow_32 ⟨Nat.zero_le _, Nat.zero_le _⟩) (by subst et4; rfl) rfl ?_
        refine gw_aload_n C dX1_addBelow_35 0 rfl ?_
        refine gw_get C dX1_addBelow_36 0 1 2 rfl rfl iX1 (by decide) f22 rfl ?_
        refine gw_iload_n C dX1_addBelow_39 2 rfl ?_
        refine gw_one (st2 := [.int (J_at 160 (tP t4) x1.1)]) (ws' := wT cI cJ b t4) C 2 rfl (run_SN (rest := []) C (c_X3_at l D cI cJ cO (b 2) 160 (tP t4) x1.1 (by decide)) n_X3_at rfl rfl (Nat.le_of_ble_eq_true rfl) dX1_addBelow_40 ⟨Nat.zero_le _, Nat.zero_le _⟩) rfl rfl ?_
        refine gw_lt h (fun v5 ev5 h => ?_)
        rw [ev5]
        refine gw_istore_n C dX1_addBelow_43 [(3, .int v5), (0, .ref (b 0)), (2, .int p2), (4, .int x1.2.1)] rfl (by decide) rfl ?_
        refine gw_iinc (v := (x1.2.1 + (1 : Int32))) C dX1_addBelow_44 [(4, .int (x1.2.1 + (1 : Int32))), (3, .int v5), (0, .ref (b 0)), (2, .int p2)] 3 rfl rfl (by decide) rfl ?_
        refine gw_goto (tgt := 5) C dX1_addBelow_47 (by decide) ?_
        refine gw_sub [2, 3, 1, 0] rfl ?_
        have h := gw_some h
        exact I1 _ h
theorem hd_X1_loseChild : yX1_loseChild.cls = RX1 ∧ yX1_loseChild.cls ≠ "java/lang/invoke/MethodHandle" ∧ yX1_loseChild.cls ≠ "java/lang/invoke/VarHandle" ∧ (parseMethodDescriptor yX1_loseChild.desc).map (fun d => d.parameters.length) = some 2 := by decide +kernel
set_option maxHeartbeats 4000000 in
set_option maxRecDepth 100000 in
theorem c_X1_loseChild (l : Launch) (D : va_G) (cI cJ cO : ClassId) (b : Nat → Nat) (t : TS) (p1 : Int32) (p2 : Int32) {o : TS} (h : fT_loseChild p1 p2 t = o) : Ct l D (tysA cI cJ cO) yX1_loseChild wsX1_loseChild (rmOf 1 22) [.ref (b 0), .int p1, .int p2] (wT cI cJ b t) none (wT cI cJ b o) := by
  refine Ct_of (own := RX1) cX1_loseChild 4 none (by decide +kernel) rfl rfl (Nat.le_of_ble_eq_true rfl) ?_
  intro p e s m args below meth c A C hnm
  have iX1 : ∀ w ∈ u_ws RX1 TX1 9, w ∈ wsX1_loseChild := fun w h => List.mem_cons_of_mem _ (List.mem_append_right _ h)
  have f28 : Cond.fieldLink RX1 28 (TX1 4).1 (TX1 4).2.1 (TX1 4).2.2.1 ∈ wsX1_loseChild := List.mem_of_getElem? (i := 2) rfl
  have f34 : Cond.fieldLink RX1 34 (TX1 6).1 (TX1 6).2.1 (TX1 6).2.2.1 ∈ wsX1_loseChild := List.mem_of_getElem? (i := 1) rfl
  have n_X3_at := gw_cn (R := (rmOf 1 22)) (rm := rmOf 0 0) (index := 85) (n := 2) C gX1_loseChild_X3_at_n85 rfl rfl rfl (by simp [nestW]) (List.mem_of_getElem? (i := 4) rfl) (List.mem_of_getElem? (i := 3) rfl) hd_X3_at.2 ⟨Nat.le_of_ble_eq_true rfl, Nat.le_of_ble_eq_true rfl⟩
  have n_X3_put := gw_cn (R := (rmOf 1 22)) (rm := rmOf 0 0) (index := 50) (n := 3) C gX1_loseChild_X3_put_n50 rfl rfl rfl (by simp [nestW]) (List.mem_of_getElem? (i := 4) rfl) (List.mem_of_getElem? (i := 6) rfl) hd_X3_put.2 ⟨Nat.le_of_ble_eq_true rfl, Nat.le_of_ble_eq_true rfl⟩
  have h : Rt o (fT_loseChild p1 p2 t) := h
  unfold fT_loseChild at h
  show gw_G p l e (rmOf 1 22) s m args below meth c D A (CtM D below none (wT cI cJ b o) A args s) 4 0 0 (wT cI cJ b t) [(0, .ref (b 0)), (1, .int p1), (2, .int p2)] 0 []
  refine gw_aload_n C dX1_loseChild_0 0 rfl ?_
  refine gw_get C dX1_loseChild_1 0 1 6 rfl rfl iX1 (by decide) f34 rfl ?_
  refine gw_iload_n C dX1_loseChild_4 1 rfl ?_
  refine gw_one (st2 := [.int (J_at 160 (tC t) p1)]) (ws' := wT cI cJ b t) C 6 rfl (run_SN (rest := []) C (c_X3_at l D cI cJ cO (b 6) 160 (tC t) p1 (by decide)) n_X3_at rfl rfl (Nat.le_of_ble_eq_true rfl) dX1_loseChild_5 ⟨Nat.zero_le _, Nat.zero_le _⟩) rfl rfl ?_
  refine gw_iconst (v := (1 : Int32)) C dX1_loseChild_8 rfl ?_
  refine gw_iload_n C dX1_loseChild_9 2 rfl ?_
  refine gw_ishl C dX1_loseChild_10 ?_
  refine gw_iconst (v := (-1 : Int32)) C dX1_loseChild_11 rfl ?_
  refine gw_ixor C dX1_loseChild_12 ?_
  refine gw_iand C dX1_loseChild_13 ?_
  refine gw_lt h (fun v1 ev1 h => ?_)
  rw [ev1]
  refine gw_istore_n C dX1_loseChild_14 [(3, .int v1), (0, .ref (b 0)), (1, .int p1), (2, .int p2)] rfl (by decide) rfl ?_
  refine gw_aload_n C dX1_loseChild_15 1 rfl ?_
  refine gw_get C dX1_loseChild_16 0 1 6 rfl rfl iX1 (by decide) f34 rfl ?_
  refine gw_iload_n C dX1_loseChild_19 2 rfl ?_
  refine gw_iload_n C dX1_loseChild_20 0 rfl ?_
  refine gw_lt h (fun t2 et2 h => ?_)
  refine gw_one (st2 := []) (ws' := wT cI cJ b t2) C 6 rfl (run_SN (rest := []) C (c_X3_put l D cI cJ cO (b 6) 160 (tC t) p1 v1 (by decide)) n_X3_put rfl rfl (Nat.le_of_ble_eq_true rfl) dX1_loseChild_21 ⟨Nat.zero_le _, Nat.zero_le _⟩) (by subst et2; rfl) rfl ?_
  refine gw_iload_n C dX1_loseChild_24 0 rfl ?_
  refine gw_if_ne (tgt := 37) C dX1_loseChild_25 (by decide) h (fun c3 h => ?_) (fun c3 h => ?_)
  · refine gw_aload_n C dX1_loseChild_28 1 rfl ?_
    refine gw_get C dX1_loseChild_29 0 1 4 rfl rfl iX1 (by decide) f28 rfl ?_
    refine gw_iload_n C dX1_loseChild_32 2 rfl ?_
    refine gw_iconst (v := (0 : Int32)) C dX1_loseChild_33 rfl ?_
    refine gw_lt h (fun t4 et4 h => ?_)
    refine gw_one (st2 := []) (ws' := wT cI cJ b t4) C 4 rfl (run_SN (rest := []) C (c_X3_put l D cI cJ cO (b 4) 160 (tO t2) p1 (0 : Int32) (by decide)) n_X3_put rfl rfl (Nat.le_of_ble_eq_true rfl) dX1_loseChild_34 ⟨Nat.zero_le _, Nat.zero_le _⟩) (by subst et4; rfl) rfl ?_
    have ho : _ = o := h
    subst ho
    exact gw_vret C dX1_loseChild_37
  · have ho : _ = o := h
    subst ho
    exact gw_vret C dX1_loseChild_37
theorem hd_X1_freeLeaf : yX1_freeLeaf.cls = RX1 ∧ yX1_freeLeaf.cls ≠ "java/lang/invoke/MethodHandle" ∧ yX1_freeLeaf.cls ≠ "java/lang/invoke/VarHandle" ∧ (parseMethodDescriptor yX1_freeLeaf.desc).map (fun d => d.parameters.length) = some 1 := by decide +kernel
set_option maxHeartbeats 4000000 in
set_option maxRecDepth 100000 in
theorem c_X1_freeLeaf (l : Launch) (D : va_G) (cI cJ cO : ClassId) (b : Nat → Nat) (t : TS) (p1 : Int32) {o : Int32 × TS} (h : fT_freeLeaf p1 t = some o) : Ct l D (tysA cI cJ cO) yX1_freeLeaf wsX1_freeLeaf (rmOf 2 46) [.ref (b 0), .int p1] (wT cI cJ b t) (some (.int o.1)) (wT cI cJ b o.2) := by
  refine Ct_of (own := RX1) cX1_freeLeaf 6 (some .int) (by decide +kernel) rfl rfl (Nat.le_of_ble_eq_true rfl) ?_
  intro p e s m args below meth c A C hnm
  have iX1 : ∀ w ∈ u_ws RX1 TX1 9, w ∈ wsX1_freeLeaf := fun w h => List.mem_cons_of_mem _ (List.mem_append_left _ (List.mem_append_right _ h))
  have f12 : Cond.fieldLink RX1 12 (TX1 0).1 (TX1 0).2.1 (TX1 0).2.2.1 ∈ wsX1_freeLeaf := List.mem_of_getElem? (i := 1) rfl
  have f22 : Cond.fieldLink RX1 22 (TX1 2).1 (TX1 2).2.1 (TX1 2).2.2.1 ∈ wsX1_freeLeaf := List.mem_of_getElem? (i := 3) rfl
  have f25 : Cond.fieldLink RX1 25 (TX1 3).1 (TX1 3).2.1 (TX1 3).2.2.1 ∈ wsX1_freeLeaf := List.mem_of_getElem? (i := 5) rfl
  have f31 : Cond.fieldLink RX1 31 (TX1 5).1 (TX1 5).2.1 (TX1 5).2.2.1 ∈ wsX1_freeLeaf := List.mem_of_getElem? (i := 2) rfl
  have f34 : Cond.fieldLink RX1 34 (TX1 6).1 (TX1 6).2.1 (TX1 6).2.2.1 ∈ wsX1_freeLeaf := List.mem_of_getElem? (i := 4) rfl
  have w_X0_release := cwV (R := (rmOf 2 46)) (rm := rmOf 1 22) (s := s) (args := args) 1 C.1.2.2.2.2 gX1_freeLeaf_X0_release rfl rfl rfl hd_X0_release ⟨Nat.le_of_ble_eq_true rfl, Nat.le_of_ble_eq_true rfl⟩
  have w_X1_addBelow := cwV (R := (rmOf 2 46)) (rm := rmOf 1 22) (s := s) (args := args) 2 C.1.2.2.2.2 gX1_freeLeaf_X1_addBelow rfl rfl rfl hd_X1_addBelow ⟨Nat.le_of_ble_eq_true rfl, Nat.le_of_ble_eq_true rfl⟩
  have w_X1_clearCell := cwV (R := (rmOf 2 46)) (rm := rmOf 1 22) (s := s) (args := args) 1 C.1.2.2.2.2 gX1_freeLeaf_X1_clearCell rfl rfl rfl hd_X1_clearCell ⟨Nat.le_of_ble_eq_true rfl, Nat.le_of_ble_eq_true rfl⟩
  have w_X1_loseChild := cwV (R := (rmOf 2 46)) (rm := rmOf 1 22) (s := s) (args := args) 2 C.1.2.2.2.2 gX1_freeLeaf_X1_loseChild rfl rfl rfl hd_X1_loseChild ⟨Nat.le_of_ble_eq_true rfl, Nat.le_of_ble_eq_true rfl⟩
  have n_X3_at := gw_cn (R := (rmOf 2 46)) (rm := rmOf 0 0) (index := 85) (n := 2) C gX1_freeLeaf_X3_at_n85 rfl rfl rfl (by simp [nestW]) (List.mem_of_getElem? (i := 7) rfl) (List.mem_of_getElem? (i := 6) rfl) hd_X3_at.2 ⟨Nat.le_of_ble_eq_true rfl, Nat.le_of_ble_eq_true rfl⟩
  have h := gw_top h
  unfold fT_freeLeaf at h
  show gw_G p l e (rmOf 2 46) s m args below meth c D A (CtM D below (some (.int o.1)) (wT cI cJ b o.2) A args s) 6 0 0 (wT cI cJ b t) [(0, .ref (b 0)), (1, .int p1)] 0 []
  refine gw_aload_n C dX1_freeLeaf_0 0 rfl ?_
  refine gw_get C dX1_freeLeaf_1 0 1 0 rfl rfl iX1 (by decide) f12 rfl ?_
  refine gw_aload_n C dX1_freeLeaf_4 0 rfl ?_
  refine gw_get C dX1_freeLeaf_5 0 1 5 rfl rfl iX1 (by decide) f31 rfl ?_
  refine gw_iload_n C dX1_freeLeaf_8 1 rfl ?_
  refine gw_one (st2 := [.int (J_at 160 (tE t) p1), .ref (b 8)]) (ws' := wT cI cJ b t) C 5 rfl (run_SN (rest := [.ref (b 8)]) C (c_X3_at l D cI cJ cO (b 5) 160 (tE t) p1 (by decide)) n_X3_at rfl rfl (Nat.le_of_ble_eq_true rfl) dX1_freeLeaf_9 ⟨Nat.zero_le _, Nat.zero_le _⟩) rfl rfl ?_
  refine gw_bind h (fun q1 hq1 h => ?_)
  refine gw_lt h (fun t2 et2 h => ?_)
  refine gw_sub_call (st2 := []) (ws' := wT cI cJ b t2) C [8, 9, 10] [0, 1, 2, 3, 4, 5, 6, 7] [0, 1, 2, 3, 4, 5, 6, 7, 8, 9, 10] rfl rfl rfl rfl (by decide) (by subst et2; rfl) rfl (run_V (rest := []) C (c_X0_release l D cI cJ cO (b 8) (b 9) (b 10) (tN t) (J_at 160 (tE t) p1) hq1) w_X0_release 0 0 rfl rfl rfl rfl rfl (Nat.le_of_ble_eq_true rfl) dX1_freeLeaf_12 ⟨Nat.zero_le _, Nat.zero_le _⟩) rfl ?_
  refine gw_aload_n C dX1_freeLeaf_15 0 rfl ?_
  refine gw_aload_n C dX1_freeLeaf_16 0 rfl ?_
  refine gw_get C dX1_freeLeaf_17 0 1 2 rfl rfl iX1 (by decide) f22 rfl ?_
  refine gw_iload_n C dX1_freeLeaf_20 1 rfl ?_
  refine gw_one (st2 := [.int (J_at 160 (tP t2) p1), .ref (b 0)]) (ws' := wT cI cJ b t2) C 2 rfl (run_SN (rest := [.ref (b 0)]) C (c_X3_at l D cI cJ cO (b 2) 160 (tP t2) p1 (by decide)) n_X3_at rfl rfl (Nat.le_of_ble_eq_true rfl) dX1_freeLeaf_21 ⟨Nat.zero_le _, Nat.zero_le _⟩) rfl rfl ?_
  refine gw_iconst (v := (-1 : Int32)) C dX1_freeLeaf_24 rfl ?_
  refine gw_bind h (fun q3 hq3 h => ?_)
  refine gw_whole (st2 := []) C (run_V (rest := []) C (c_X1_addBelow l D cI cJ cO b t2 (J_at 160 (tP t2) p1) (-1 : Int32) hq3) w_X1_addBelow 0 1 rfl rfl rfl rfl rfl (Nat.le_of_ble_eq_true rfl) dX1_freeLeaf_25 ⟨Nat.zero_le _, Nat.zero_le _⟩) rfl ?_
  refine gw_iconst (v := (0 : Int32)) C dX1_freeLeaf_28 rfl ?_
  refine gw_istore_n C dX1_freeLeaf_29 [(2, .int (0 : Int32)), (0, .ref (b 0)), (1, .int p1)] rfl (by decide) rfl ?_
  refine gw_iload_n C dX1_freeLeaf_30 2 rfl ?_
  refine gw_istore_n C dX1_freeLeaf_31 [(3, .int p1), (2, .int (0 : Int32)), (0, .ref (b 0)), (1, .int p1)] rfl (by decide) rfl ?_
  refine gw_iconst (v := (0 : Int32)) C dX1_freeLeaf_32 rfl ?_
  refine gw_istore C dX1_freeLeaf_33 [(4, .int (0 : Int32)), (3, .int p1), (2, .int (0 : Int32)), (0, .ref (b 0)), (1, .int p1)] (by decide) rfl ?_
  refine gw_sub [3, 2, 1, 0] rfl ?_
  refine gw_lpb (x0 := ((0 : Int32), p1, (0 : Int32), q3)) (Go := fun x4 : Int32 × Int32 × Int32 × TS => gw_G p l e (rmOf 2 46) s m args below meth c D A (CtM D below (some (.int o.1)) (wT cI cJ b o.2) A args s) 6 0 0 (wT cI cJ b x4.2.2.2) [(0, .ref (b 0)), (2, .int x4.1), (3, .int x4.2.1), (4, .int x4.2.2.1)] 35 []) (GoX := fun v4 : Int32 × TS => gw_G p l e (rmOf 2 46) s m args below meth c D A (CtM D below (some (.int o.1)) (wT cI cJ b o.2) A args s) 6 0 0 (wT cI cJ b v4.2) [(2, .int v4.1)] 98 []) h (fun v4 h => ?_) (fun x4 K4 X4 I4 h => ?_)
  · refine gw_iload_n C dX1_freeLeaf_98 0 rfl ?_
    have h := gw_some h
    have ho := Option.some.inj h
    subst ho
    exact gw_iret C dX1_freeLeaf_99
  · refine gw_iload C dX1_freeLeaf_35 3 rfl ?_
    refine gw_bipush (v := (12 : Int32)) C dX1_freeLeaf_37 rfl ?_
    refine gw_icmp_gt (tgt := 98) C dX1_freeLeaf_39 (by decide) h (fun c5 h => ?_) (fun c5 h => ?_)
    · refine gw_sub [1] rfl ?_
      have h := gw_some h
      exact X4 _ h
    · refine gw_iload_n C dX1_freeLeaf_42 2 rfl ?_
      refine gw_if_le (tgt := 98) C dX1_freeLeaf_43 (by decide) h (fun c6 h => ?_) (fun c6 h => ?_)
      · refine gw_sub [1] rfl ?_
        have h := gw_some h
        exact X4 _ h
      · refine gw_aload_n C dX1_freeLeaf_46 0 rfl ?_
        refine gw_get C dX1_freeLeaf_47 0 1 6 rfl rfl iX1 (by decide) f34 rfl ?_
        refine gw_iload_n C dX1_freeLeaf_50 2 rfl ?_
        refine gw_one (st2 := [.int (J_at 160 (tC x4.2.2.2) x4.2.1)]) (ws' := wT cI cJ b x4.2.2.2) C 6 rfl (run_SN (rest := []) C (c_X3_at l D cI cJ cO (b 6) 160 (tC x4.2.2.2) x4.2.1 (by decide)) n_X3_at rfl rfl (Nat.le_of_ble_eq_true rfl) dX1_freeLeaf_51 ⟨Nat.zero_le _, Nat.zero_le _⟩) rfl rfl ?_
        refine gw_if_ne (tgt := 98) C dX1_freeLeaf_54 (by decide) h (fun c7 h => ?_) (fun c7 h => ?_)
        · refine gw_aload_n C dX1_freeLeaf_57 0 rfl ?_
          refine gw_get C dX1_freeLeaf_58 0 1 2 rfl rfl iX1 (by decide) f22 rfl ?_
          refine gw_iload_n C dX1_freeLeaf_61 2 rfl ?_
          refine gw_one (st2 := [.int (J_at 160 (tP x4.2.2.2) x4.2.1)]) (ws' := wT cI cJ b x4.2.2.2) C 2 rfl (run_SN (rest := []) C (c_X3_at l D cI cJ cO (b 2) 160 (tP x4.2.2.2) x4.2.1 (by decide)) n_X3_at rfl rfl (Nat.le_of_ble_eq_true rfl) dX1_freeLeaf_62 ⟨Nat.zero_le _, Nat.zero_le _⟩) rfl rfl ?_
          refine gw_lt h (fun v8 ev8 h => ?_)
          rw [ev8]
          refine gw_istore C dX1_freeLeaf_65 [(5, .int v8), (0, .ref (b 0)), (2, .int x4.1), (3, .int x4.2.1), (4, .int x4.2.2.1)] (by decide) rfl ?_
          refine gw_aload_n C dX1_freeLeaf_67 1 rfl ?_
          refine gw_iload C dX1_freeLeaf_68 0 rfl ?_
          refine gw_aload_n C dX1_freeLeaf_70 1 rfl ?_
          refine gw_get C dX1_freeLeaf_71 0 1 3 rfl rfl iX1 (by decide) f25 rfl ?_
          refine gw_iload_n C dX1_freeLeaf_74 3 rfl ?_
          refine gw_one (st2 := [.int (J_at 160 (tB x4.2.2.2) x4.2.1), .int v8, .ref (b 0)]) (ws' := wT cI cJ b x4.2.2.2) C 3 rfl (run_SN (rest := [.int v8, .ref (b 0)]) C (c_X3_at l D cI cJ cO (b 3) 160 (tB x4.2.2.2) x4.2.1 (by decide)) n_X3_at rfl rfl (Nat.le_of_ble_eq_true rfl) dX1_freeLeaf_75 ⟨Nat.zero_le _, Nat.zero_le _⟩) rfl rfl ?_
          refine gw_lt h (fun q9 hq9 h => ?_)
          refine gw_whole (st2 := []) C (run_V (rest := []) C (c_X1_loseChild l D cI cJ cO b x4.2.2.2 v8 (J_at 160 (tB x4.2.2.2) x4.2.1) hq9) w_X1_loseChild 0 1 rfl rfl rfl rfl rfl (Nat.le_of_ble_eq_true rfl) dX1_freeLeaf_78 ⟨Nat.zero_le _, Nat.zero_le _⟩) rfl ?_
          refine gw_aload_n C dX1_freeLeaf_81 1 rfl ?_
          refine gw_iload_n C dX1_freeLeaf_82 3 rfl ?_
          refine gw_lt h (fun q10 hq10 h => ?_)
          refine gw_whole (st2 := []) C (run_V (rest := []) C (c_X1_clearCell l D cI cJ cO b q9 x4.2.1 hq10) w_X1_clearCell 0 1 rfl rfl rfl rfl rfl (Nat.le_of_ble_eq_true rfl) dX1_freeLeaf_83 ⟨Nat.zero_le _, Nat.zero_le _⟩) rfl ?_
          refine gw_iinc (v := (x4.1 + (1 : Int32))) C dX1_freeLeaf_86 [(2, .int (x4.1 + (1 : Int32))), (5, .int v8), (0, .ref (b 0)), (3, .int x4.2.1), (4, .int x4.2.2.1)] 2 rfl rfl (by decide) rfl ?_
          refine gw_iload C dX1_freeLeaf_89 1 rfl ?_
          refine gw_istore_n C dX1_freeLeaf_91 [(3, .int v8), (2, .int (x4.1 + (1 : Int32))), (5, .int v8), (0, .ref (b 0)), (4, .int x4.2.2.1)] rfl (by decide) rfl ?_
          refine gw_iinc (v := (x4.2.2.1 + (1 : Int32))) C dX1_freeLeaf_92 [(4, .int (x4.2.2.1 + (1 : Int32))), (3, .int v8), (2, .int (x4.1 + (1 : Int32))), (5, .int v8), (0, .ref (b 0))] 4 rfl rfl (by decide) rfl ?_
          refine gw_goto (tgt := 35) C dX1_freeLeaf_95 (by decide) ?_
          refine gw_sub [4, 2, 1, 0] rfl ?_
          have h := gw_some h
          exact I4 _ h
        · refine gw_sub [1] rfl ?_
          have h := gw_some h
          exact X4 _ h
theorem hd_X1_leastOffset : yX1_leastOffset.cls = RX1 ∧ yX1_leastOffset.cls ≠ "java/lang/invoke/MethodHandle" ∧ yX1_leastOffset.cls ≠ "java/lang/invoke/VarHandle" ∧ (parseMethodDescriptor yX1_leastOffset.desc).map (fun d => d.parameters.length) = some 1 := by decide +kernel
set_option maxHeartbeats 4000000 in
set_option maxRecDepth 100000 in
theorem c_X1_leastOffset (l : Launch) (D : va_G) (cI cJ cO : ClassId) (b : Nat → Nat) (t : TS) (p1 : Int32) {o : Int32} (h : fT_leastOffset p1 t = some o) : Ct l D (tysA cI cJ cO) yX1_leastOffset wsX1_leastOffset (rmOf 0 0) [.ref (b 0), .int p1] (wT cI cJ b t) (some (.int o)) (wT cI cJ b t) := by
  refine Ct_of (own := RX1) cX1_leastOffset 6 (some .int) (by decide +kernel) rfl rfl (Nat.le_of_ble_eq_true rfl) ?_
  intro p e s m args below meth c A C hnm
  have iX1 : ∀ w ∈ u_ws RX1 TX1 9, w ∈ wsX1_leastOffset := fun w h => List.mem_cons_of_mem _ (List.mem_append_right _ h)
  have f18 : Cond.fieldLink RX1 18 (TX1 1).1 (TX1 1).2.1 (TX1 1).2.2.1 ∈ wsX1_leastOffset := List.mem_of_getElem? (i := 1) rfl
  have h := gw_top h
  unfold fT_leastOffset at h
  show gw_G p l e (rmOf 0 0) s m args below meth c D A (CtM D below (some (.int o)) (wT cI cJ b t) A args s) 6 0 0 (wT cI cJ b t) [(0, .ref (b 0)), (1, .int p1)] 0 []
  refine gw_iconst (v := (1 : Int32)) C dX1_leastOffset_0 rfl ?_
  refine gw_istore_n C dX1_leastOffset_1 [(2, .int (1 : Int32)), (0, .ref (b 0)), (1, .int p1)] rfl (by decide) rfl ?_
  refine gw_sub [1, 2, 0] rfl ?_
  refine gw_lpt (x0 := (1 : Int32)) (Go := fun x1 : Int32 => gw_G p l e (rmOf 0 0) s m args below meth c D A (CtM D below (some (.int o)) (wT cI cJ b t) A args s) 6 0 0 (wT cI cJ b t) [(0, .ref (b 0)), (1, .int p1), (2, .int x1)] 2 []) h (fun x1 K1 X1 I1 h => ?_)
  refine gw_iload_n C dX1_leastOffset_2 2 rfl ?_
  refine gw_sipush (v := (160 : Int32)) C dX1_leastOffset_3 rfl ?_
  refine gw_icmp_ge (tgt := 84) C dX1_leastOffset_6 (by decide) h (fun c2 h => ?_) (fun c2 h => ?_)
  · refine gw_iconst (v := (0 : Int32)) C dX1_leastOffset_84 rfl ?_
    have h := gw_some h
    have h := X1 _ h
    have ho := Option.some.inj h
    subst ho
    exact gw_iret C dX1_leastOffset_85
  · refine gw_iconst (v := (1 : Int32)) C dX1_leastOffset_9 rfl ?_
    refine gw_istore_n C dX1_leastOffset_10 [(3, .int (1 : Int32)), (0, .ref (b 0)), (1, .int p1), (2, .int x1)] rfl (by decide) rfl ?_
    refine gw_iconst (v := (0 : Int32)) C dX1_leastOffset_11 rfl ?_
    refine gw_istore C dX1_leastOffset_12 [(4, .int (0 : Int32)), (3, .int (1 : Int32)), (0, .ref (b 0)), (1, .int p1), (2, .int x1)] (by decide) rfl ?_
    refine gw_sub [2, 3, 4, 1, 0] rfl ?_
    refine gw_lpb (x0 := ((1 : Int32), (0 : Int32))) (Go := fun x3 : Int32 × Int32 => gw_G p l e (rmOf 0 0) s m args below meth c D A (CtM D below (some (.int o)) (wT cI cJ b t) A args s) 6 0 0 (wT cI cJ b t) [(0, .ref (b 0)), (1, .int p1), (2, .int x1), (3, .int x3.1), (4, .int x3.2)] 14 []) (GoX := fun v3 : Int32 => gw_G p l e (rmOf 0 0) s m args below meth c D A (CtM D below (some (.int o)) (wT cI cJ b t) A args s) 6 0 0 (wT cI cJ b t) [(0, .ref (b 0)), (1, .int p1), (2, .int x1), (3, .int v3)] 72 []) h (fun v3 h => ?_) (fun x3 K3 X3 I3 h => ?_)
    · refine gw_iload_n C dX1_leastOffset_72 3 rfl ?_
      refine gw_if_eq (tgt := 78) C dX1_leastOffset_73 (by decide) h (fun c14 h => ?_) (fun c14 h => ?_)
      · refine gw_iinc (v := (x1 + (1 : Int32))) C dX1_leastOffset_78 [(2, .int (x1 + (1 : Int32))), (0, .ref (b 0)), (1, .int p1), (3, .int v3)] 2 rfl rfl (by decide) rfl ?_
        refine gw_goto (tgt := 2) C dX1_leastOffset_81 (by decide) ?_
        refine gw_sub [1, 2, 0] rfl ?_
        have h := gw_some h
        exact I1 _ h
      · refine gw_iload_n C dX1_leastOffset_76 2 rfl ?_
        have h := gw_some h
        have h := X1 _ h
        have ho := Option.some.inj h
        subst ho
        exact gw_iret C dX1_leastOffset_77
    · refine gw_iload C dX1_leastOffset_14 4 rfl ?_
      refine gw_bipush (v := (8 : Int32)) C dX1_leastOffset_16 rfl ?_
      refine gw_icmp_gt (tgt := 72) C dX1_leastOffset_18 (by decide) h (fun c4 h => ?_) (fun c4 h => ?_)
      · refine gw_sub [0, 1, 2, 3] rfl ?_
        have h := gw_some h
        exact X3 _ h
      · refine gw_iload_n C dX1_leastOffset_21 3 rfl ?_
        refine gw_if_eq (tgt := 72) C dX1_leastOffset_22 (by decide) h (fun c5 h => ?_) (fun c5 h => ?_)
        · refine gw_sub [0, 1, 2, 3] rfl ?_
          have h := gw_some h
          exact X3 _ h
        · refine gw_iload_n C dX1_leastOffset_25 2 rfl ?_
          refine gw_iload C dX1_leastOffset_26 4 rfl ?_
          refine gw_iadd C dX1_leastOffset_28 ?_
          refine gw_lt h (fun v6 ev6 h => ?_)
          rw [ev6]
          refine gw_istore C dX1_leastOffset_29 [(5, .int v6), (0, .ref (b 0)), (1, .int p1), (2, .int x1), (3, .int x3.1), (4, .int x3.2)] (by decide) rfl ?_
          refine gw_iload_n C dX1_leastOffset_31 2 rfl ?_
          refine gw_iload C dX1_leastOffset_32 5 rfl ?_
          refine gw_ishr C dX1_leastOffset_34 ?_
          refine gw_iconst (v := (1 : Int32)) C dX1_leastOffset_35 rfl ?_
          refine gw_iand C dX1_leastOffset_36 ?_
          refine gw_lt h (fun j8 ej8 h => ?_)
          have J8 : ∀ v8 : Int32, Rs K3 o (j8 v8) → gw_G p l e (rmOf 0 0) s m args below meth c D A (CtM D below (some (.int o)) (wT cI cJ b t) A args s) 6 0 0 (wT cI cJ b t) [(0, .ref (b 0)), (1, .int p1), (2, .int x1), (4, .int x3.2)] 65 [.int v8] := by
            intro v8 h
            have h := gw_app ej8 h
            refine gw_istore_n C dX1_leastOffset_65 [(3, .int v8), (0, .ref (b 0)), (1, .int p1), (2, .int x1), (4, .int x3.2)] rfl (by decide) rfl ?_
            refine gw_iinc (v := (x3.2 + (1 : Int32))) C dX1_leastOffset_66 [(4, .int (x3.2 + (1 : Int32))), (3, .int v8), (0, .ref (b 0)), (1, .int p1), (2, .int x1)] 4 rfl rfl (by decide) rfl ?_
            refine gw_goto (tgt := 14) C dX1_leastOffset_69 (by decide) ?_
            refine gw_sub [2, 3, 4, 1, 0] rfl ?_
            have h := gw_some h
            exact I3 _ h
          refine gw_lt h (fun j7 ej7 h => ?_)
          have J7 : ∀ v7 : Unit, Rs K3 o (j7 v7) → gw_G p l e (rmOf 0 0) s m args below meth c D A (CtM D below (some (.int o)) (wT cI cJ b t) A args s) 6 0 0 (wT cI cJ b t) [(0, .ref (b 0)), (1, .int p1), (2, .int x1), (4, .int x3.2)] 60 [] := by
            intro v7 h
            have h := gw_app ej7 h
            refine gw_iconst (v := (1 : Int32)) C dX1_leastOffset_60 rfl ?_
            refine gw_goto (tgt := 65) C dX1_leastOffset_61 (by decide) ?_
            exact J8 _ h
          refine gw_if_eq (tgt := 60) C dX1_leastOffset_37 (by decide) h (fun c9 h => ?_) (fun c9 h => ?_)
          · refine gw_sub [1, 2, 3, 5] rfl ?_
            exact J7 _ h
          · refine gw_iload C dX1_leastOffset_40 0 rfl ?_
            refine gw_aload_n C dX1_leastOffset_42 1 rfl ?_
            refine gw_get C dX1_leastOffset_43 0 1 1 rfl rfl iX1 (by decide) f18 rfl ?_
            refine gw_alen (v := (160 : Int32)) C dX1_leastOffset_46 1 0 rfl rfl rfl ?_
            refine gw_lt h (fun j10 ej10 h => ?_)
            have J10 : ∀ v10 : Unit, Rs K3 o (j10 v10) → gw_G p l e (rmOf 0 0) s m args below meth c D A (CtM D below (some (.int o)) (wT cI cJ b t) A args s) 6 0 0 (wT cI cJ b t) [(0, .ref (b 0)), (1, .int p1), (2, .int x1), (4, .int x3.2)] 64 [] := by
              intro v10 h
              have h := gw_app ej10 h
              refine gw_iconst (v := (0 : Int32)) C dX1_leastOffset_64 rfl ?_
              exact J8 _ h
            refine gw_icmp_ge (tgt := 64) C dX1_leastOffset_47 (by decide) h (fun c11 h => ?_) (fun c11 h => ?_)
            · refine gw_sub [1, 2, 3, 5] rfl ?_
              exact J10 _ h
            · refine gw_aload_n C dX1_leastOffset_50 1 rfl ?_
              refine gw_get C dX1_leastOffset_51 0 1 1 rfl rfl iX1 (by decide) f18 rfl ?_
              refine gw_iload C dX1_leastOffset_54 0 rfl ?_
              refine gw_chk h (fun b12 h => ?_)
              refine gw_iald C dX1_leastOffset_56 1 0 rfl rfl b12 ?_
              refine gw_if_ne (tgt := 64) C dX1_leastOffset_57 (by decide) h (fun c13 h => ?_) (fun c13 h => ?_)
              · refine gw_sub [1, 2, 3, 5] rfl ?_
                exact J7 _ h
              · refine gw_sub [1, 2, 3, 5] rfl ?_
                exact J10 _ h
theorem hd_X1_placeFirst : yX1_placeFirst.cls = RX1 ∧ yX1_placeFirst.cls ≠ "java/lang/invoke/MethodHandle" ∧ yX1_placeFirst.cls ≠ "java/lang/invoke/VarHandle" ∧ (parseMethodDescriptor yX1_placeFirst.desc).map (fun d => d.parameters.length) = some 2 := by decide +kernel
set_option maxHeartbeats 4000000 in
set_option maxRecDepth 100000 in
theorem c_X1_placeFirst (l : Launch) (D : va_G) (cI cJ cO : ClassId) (b : Nat → Nat) (t : TS) (p1 : Int32) (p2 : Int32) {o : Int32 × TS} (h : fT_placeFirst p1 p2 t = some o) : Ct l D (tysA cI cJ cO) yX1_placeFirst wsX1_placeFirst (rmOf 1 25) [.ref (b 0), .int p1, .int p2] (wT cI cJ b t) (some (.int o.1)) (wT cI cJ b o.2) := by
  refine Ct_of (own := RX1) cX1_placeFirst 4 (some .boolean) (by decide +kernel) rfl rfl (Nat.le_of_ble_eq_true rfl) ?_
  intro p e s m args below meth c A C hnm
  have iX1 : ∀ w ∈ u_ws RX1 TX1 9, w ∈ wsX1_placeFirst := fun w h => List.mem_cons_of_mem _ (List.mem_append_right _ h)
  have f28 : Cond.fieldLink RX1 28 (TX1 4).1 (TX1 4).2.1 (TX1 4).2.2.1 ∈ wsX1_placeFirst := List.mem_of_getElem? (i := 1) rfl
  have w_X1_leastOffset := cwV (R := (rmOf 1 25)) (rm := rmOf 0 0) (s := s) (args := args) 1 C.1.2.2.2.2 gX1_placeFirst_X1_leastOffset rfl rfl rfl hd_X1_leastOffset ⟨Nat.le_of_ble_eq_true rfl, Nat.le_of_ble_eq_true rfl⟩
  have n_X3_put := gw_cn (R := (rmOf 1 25)) (rm := rmOf 0 0) (index := 50) (n := 3) C gX1_placeFirst_X3_put_n50 rfl rfl rfl (by simp [nestW]) (List.mem_of_getElem? (i := 9) rfl) (List.mem_of_getElem? (i := 8) rfl) hd_X3_put.2 ⟨Nat.le_of_ble_eq_true rfl, Nat.le_of_ble_eq_true rfl⟩
  have h := gw_top h
  unfold fT_placeFirst at h
  show gw_G p l e (rmOf 1 25) s m args below meth c D A (CtM D below (some (.int o.1)) (wT cI cJ b o.2) A args s) 4 0 0 (wT cI cJ b t) [(0, .ref (b 0)), (1, .int p1), (2, .int p2)] 0 []
  refine gw_aload_n C dX1_placeFirst_0 0 rfl ?_
  refine gw_iload_n C dX1_placeFirst_1 2 rfl ?_
  refine gw_bind h (fun q1 hq1 h => ?_)
  refine gw_whole (st2 := [.int q1]) C (run_V (rest := []) C (c_X1_leastOffset l D cI cJ cO b t p2 hq1) w_X1_leastOffset 0 1 rfl rfl rfl rfl rfl (Nat.le_of_ble_eq_true rfl) dX1_placeFirst_2 ⟨Nat.zero_le _, Nat.zero_le _⟩) rfl ?_
  refine gw_istore_n C dX1_placeFirst_5 [(3, .int q1), (0, .ref (b 0)), (1, .int p1), (2, .int p2)] rfl (by decide) rfl ?_
  refine gw_aload_n C dX1_placeFirst_6 1 rfl ?_
  refine gw_get C dX1_placeFirst_7 0 1 4 rfl rfl iX1 (by decide) f28 rfl ?_
  refine gw_iload_n C dX1_placeFirst_10 2 rfl ?_
  refine gw_iload_n C dX1_placeFirst_11 0 rfl ?_
  refine gw_lt h (fun t2 et2 h => ?_)
  refine gw_one (st2 := []) (ws' := wT cI cJ b t2) C 4 rfl (run_SN (rest := []) C (c_X3_put l D cI cJ cO (b 4) 160 (tO t) p1 q1 (by decide)) n_X3_put rfl rfl (Nat.le_of_ble_eq_true rfl) dX1_placeFirst_12 ⟨Nat.zero_le _, Nat.zero_le _⟩) (by subst et2; rfl) rfl ?_
  refine gw_iload_n C dX1_placeFirst_15 0 rfl ?_
  refine gw_if_le (tgt := 23) C dX1_placeFirst_16 (by decide) h (fun c3 h => ?_) (fun c3 h => ?_)
  · refine gw_iconst (v := (0 : Int32)) C dX1_placeFirst_23 rfl ?_
    have h := gw_some h
    have ho := Option.some.inj h
    subst ho
    exact gw_zret C (Or.inl rfl) dX1_placeFirst_24
  · refine gw_iconst (v := (1 : Int32)) C dX1_placeFirst_19 rfl ?_
    refine gw_goto (tgt := 24) C dX1_placeFirst_20 (by decide) ?_
    have h := gw_some h
    have ho := Option.some.inj h
    subst ho
    exact gw_zret C (Or.inr rfl) dX1_placeFirst_24
theorem hd_X1_putChild : yX1_putChild.cls = RX1 ∧ yX1_putChild.cls ≠ "java/lang/invoke/MethodHandle" ∧ yX1_putChild.cls ≠ "java/lang/invoke/VarHandle" ∧ (parseMethodDescriptor yX1_putChild.desc).map (fun d => d.parameters.length) = some 4 := by decide +kernel
set_option maxHeartbeats 4000000 in
set_option maxRecDepth 100000 in
theorem c_X1_putChild (l : Launch) (D : va_G) (cI cJ cO : ClassId) (b : Nat → Nat) (t : TS) (p1 : Int32) (p2 : Int32) (p3 : Int32) (p4 : Int32) {o : Int32 × TS} (h : fT_putChild p1 p2 p3 p4 t = o) : Ct l D (tysA cI cJ cO) yX1_putChild wsX1_putChild (rmOf 1 22) [.ref (b 0), .int p1, .int p2, .int p3, .int p4] (wT cI cJ b t) (some (.int o.1)) (wT cI cJ b o.2) := by
  refine Ct_of (own := RX1) cX1_putChild 6 (some .int) (by decide +kernel) rfl rfl (Nat.le_of_ble_eq_true rfl) ?_
  intro p e s m args below meth c A C hnm
  have iX1 : ∀ w ∈ u_ws RX1 TX1 9, w ∈ wsX1_putChild := fun w h => List.mem_cons_of_mem _ (List.mem_append_right _ h)
  have f18 : Cond.fieldLink RX1 18 (TX1 1).1 (TX1 1).2.1 (TX1 1).2.2.1 ∈ wsX1_putChild := List.mem_of_getElem? (i := 2) rfl
  have f22 : Cond.fieldLink RX1 22 (TX1 2).1 (TX1 2).2.1 (TX1 2).2.2.1 ∈ wsX1_putChild := List.mem_of_getElem? (i := 3) rfl
  have f25 : Cond.fieldLink RX1 25 (TX1 3).1 (TX1 3).2.1 (TX1 3).2.2.1 ∈ wsX1_putChild := List.mem_of_getElem? (i := 4) rfl
  have f28 : Cond.fieldLink RX1 28 (TX1 4).1 (TX1 4).2.1 (TX1 4).2.2.1 ∈ wsX1_putChild := List.mem_of_getElem? (i := 1) rfl
  have f31 : Cond.fieldLink RX1 31 (TX1 5).1 (TX1 5).2.1 (TX1 5).2.2.1 ∈ wsX1_putChild := List.mem_of_getElem? (i := 5) rfl
  have f34 : Cond.fieldLink RX1 34 (TX1 6).1 (TX1 6).2.1 (TX1 6).2.2.1 ∈ wsX1_putChild := List.mem_of_getElem? (i := 7) rfl
  have f37 : Cond.fieldLink RX1 37 (TX1 7).1 (TX1 7).2.1 (TX1 7).2.2.1 ∈ wsX1_putChild := List.mem_of_getElem? (i := 6) rfl
  have n_X3_at := gw_cn (R := (rmOf 1 22)) (rm := rmOf 0 0) (index := 85) (n := 2) C gX1_putChild_X3_at_n85 rfl rfl rfl (by simp [nestW]) (List.mem_of_getElem? (i := 9) rfl) (List.mem_of_getElem? (i := 8) rfl) hd_X3_at.2 ⟨Nat.le_of_ble_eq_true rfl, Nat.le_of_ble_eq_true rfl⟩
  have n_X3_put := gw_cn (R := (rmOf 1 22)) (rm := rmOf 0 0) (index := 50) (n := 3) C gX1_putChild_X3_put_n50 rfl rfl rfl (by simp [nestW]) (List.mem_of_getElem? (i := 9) rfl) (List.mem_of_getElem? (i := 11) rfl) hd_X3_put.2 ⟨Nat.le_of_ble_eq_true rfl, Nat.le_of_ble_eq_true rfl⟩
  have h : Rt o (fT_putChild p1 p2 p3 p4 t) := h
  unfold fT_putChild at h
  show gw_G p l e (rmOf 1 22) s m args below meth c D A (CtM D below (some (.int o.1)) (wT cI cJ b o.2) A args s) 6 0 0 (wT cI cJ b t) [(0, .ref (b 0)), (1, .int p1), (2, .int p2), (3, .int p3), (4, .int p4)] 0 []
  refine gw_aload_n C dX1_putChild_0 0 rfl ?_
  refine gw_get C dX1_putChild_1 0 1 4 rfl rfl iX1 (by decide) f28 rfl ?_
  refine gw_iload_n C dX1_putChild_4 1 rfl ?_
  refine gw_one (st2 := [.int (J_at 160 (tO t) p1)]) (ws' := wT cI cJ b t) C 4 rfl (run_SN (rest := []) C (c_X3_at l D cI cJ cO (b 4) 160 (tO t) p1 (by decide)) n_X3_at rfl rfl (Nat.le_of_ble_eq_true rfl) dX1_putChild_5 ⟨Nat.zero_le _, Nat.zero_le _⟩) rfl rfl ?_
  refine gw_iload_n C dX1_putChild_8 2 rfl ?_
  refine gw_iadd C dX1_putChild_9 ?_
  refine gw_lt h (fun v1 ev1 h => ?_)
  rw [ev1]
  refine gw_istore C dX1_putChild_10 [(5, .int v1), (0, .ref (b 0)), (1, .int p1), (2, .int p2), (3, .int p3), (4, .int p4)] (by decide) rfl ?_
  refine gw_aload_n C dX1_putChild_12 1 rfl ?_
  refine gw_get C dX1_putChild_13 0 1 1 rfl rfl iX1 (by decide) f18 rfl ?_
  refine gw_iload C dX1_putChild_16 0 rfl ?_
  refine gw_iload_n C dX1_putChild_18 4 rfl ?_
  refine gw_lt h (fun t2 et2 h => ?_)
  refine gw_one (st2 := []) (ws' := wT cI cJ b t2) C 1 rfl (run_SN (rest := []) C (c_X3_put l D cI cJ cO (b 1) 160 (tK t) v1 p3 (by decide)) n_X3_put rfl rfl (Nat.le_of_ble_eq_true rfl) dX1_putChild_19 ⟨Nat.zero_le _, Nat.zero_le _⟩) (by subst et2; rfl) rfl ?_
  refine gw_aload_n C dX1_putChild_22 1 rfl ?_
  refine gw_get C dX1_putChild_23 0 1 2 rfl rfl iX1 (by decide) f22 rfl ?_
  refine gw_iload C dX1_putChild_26 0 rfl ?_
  refine gw_iload_n C dX1_putChild_28 2 rfl ?_
  refine gw_lt h (fun t3 et3 h => ?_)
  refine gw_one (st2 := []) (ws' := wT cI cJ b t3) C 2 rfl (run_SN (rest := []) C (c_X3_put l D cI cJ cO (b 2) 160 (tP t2) v1 p1 (by decide)) n_X3_put rfl rfl (Nat.le_of_ble_eq_true rfl) dX1_putChild_29 ⟨Nat.zero_le _, Nat.zero_le _⟩) (by subst et3; rfl) rfl ?_
  refine gw_aload_n C dX1_putChild_32 1 rfl ?_
  refine gw_get C dX1_putChild_33 0 1 3 rfl rfl iX1 (by decide) f25 rfl ?_
  refine gw_iload C dX1_putChild_36 0 rfl ?_
  refine gw_iload_n C dX1_putChild_38 3 rfl ?_
  refine gw_lt h (fun t4 et4 h => ?_)
  refine gw_one (st2 := []) (ws' := wT cI cJ b t4) C 3 rfl (run_SN (rest := []) C (c_X3_put l D cI cJ cO (b 3) 160 (tB t3) v1 p2 (by decide)) n_X3_put rfl rfl (Nat.le_of_ble_eq_true rfl) dX1_putChild_39 ⟨Nat.zero_le _, Nat.zero_le _⟩) (by subst et4; rfl) rfl ?_
  refine gw_aload_n C dX1_putChild_42 1 rfl ?_
  refine gw_get C dX1_putChild_43 0 1 5 rfl rfl iX1 (by decide) f31 rfl ?_
  refine gw_iload C dX1_putChild_46 0 rfl ?_
  refine gw_iload C dX1_putChild_48 5 rfl ?_
  refine gw_lt h (fun t5 et5 h => ?_)
  refine gw_one (st2 := []) (ws' := wT cI cJ b t5) C 5 rfl (run_SN (rest := []) C (c_X3_put l D cI cJ cO (b 5) 160 (tE t4) v1 p4 (by decide)) n_X3_put rfl rfl (Nat.le_of_ble_eq_true rfl) dX1_putChild_50 ⟨Nat.zero_le _, Nat.zero_le _⟩) (by subst et5; rfl) rfl ?_
  refine gw_aload_n C dX1_putChild_53 1 rfl ?_
  refine gw_get C dX1_putChild_54 0 1 7 rfl rfl iX1 (by decide) f37 rfl ?_
  refine gw_iload C dX1_putChild_57 0 rfl ?_
  refine gw_iconst (v := (1 : Int32)) C dX1_putChild_59 rfl ?_
  refine gw_lt h (fun t6 et6 h => ?_)
  refine gw_one (st2 := []) (ws' := wT cI cJ b t6) C 7 rfl (run_SN (rest := []) C (c_X3_put l D cI cJ cO (b 7) 160 (tW t5) v1 (1 : Int32) (by decide)) n_X3_put rfl rfl (Nat.le_of_ble_eq_true rfl) dX1_putChild_60 ⟨Nat.zero_le _, Nat.zero_le _⟩) (by subst et6; rfl) rfl ?_
  refine gw_aload_n C dX1_putChild_63 1 rfl ?_
  refine gw_get C dX1_putChild_64 0 1 6 rfl rfl iX1 (by decide) f34 rfl ?_
  refine gw_iload_n C dX1_putChild_67 2 rfl ?_
  refine gw_aload_n C dX1_putChild_68 1 rfl ?_
  refine gw_get C dX1_putChild_69 0 1 6 rfl rfl iX1 (by decide) f34 rfl ?_
  refine gw_iload_n C dX1_putChild_72 2 rfl ?_
  refine gw_one (st2 := [.int (J_at 160 (tC t6) p1), .int p1, .ref (b 6)]) (ws' := wT cI cJ b t6) C 6 rfl (run_SN (rest := [.int p1, .ref (b 6)]) C (c_X3_at l D cI cJ cO (b 6) 160 (tC t6) p1 (by decide)) n_X3_at rfl rfl (Nat.le_of_ble_eq_true rfl) dX1_putChild_73 ⟨Nat.zero_le _, Nat.zero_le _⟩) rfl rfl ?_
  refine gw_iconst (v := (1 : Int32)) C dX1_putChild_76 rfl ?_
  refine gw_iload_n C dX1_putChild_77 3 rfl ?_
  refine gw_ishl C dX1_putChild_78 ?_
  refine gw_ior C dX1_putChild_79 ?_
  refine gw_lt h (fun t7 et7 h => ?_)
  refine gw_one (st2 := []) (ws' := wT cI cJ b t7) C 6 rfl (run_SN (rest := []) C (c_X3_put l D cI cJ cO (b 6) 160 (tC t6) p1 ((J_at 160 (tC t6) p1) ||| ((1 : Int32) <<< (p2 &&& 31))) (by decide)) n_X3_put rfl rfl (Nat.le_of_ble_eq_true rfl) dX1_putChild_80 ⟨Nat.zero_le _, Nat.zero_le _⟩) (by subst et7; rfl) rfl ?_
  refine gw_iload C dX1_putChild_83 0 rfl ?_
  have ho : _ = o := h
  subst ho
  exact gw_iret C dX1_putChild_85
theorem hd_X1_handChildrenOver : yX1_handChildrenOver.cls = RX1 ∧ yX1_handChildrenOver.cls ≠ "java/lang/invoke/MethodHandle" ∧ yX1_handChildrenOver.cls ≠ "java/lang/invoke/VarHandle" ∧ (parseMethodDescriptor yX1_handChildrenOver.desc).map (fun d => d.parameters.length) = some 2 := by decide +kernel
set_option maxHeartbeats 4000000 in
set_option maxRecDepth 100000 in
theorem c_X1_handChildrenOver (l : Launch) (D : va_G) (cI cJ cO : ClassId) (b : Nat → Nat) (t : TS) (p1 : Int32) (p2 : Int32) {o : TS} (h : fT_handChildrenOver p1 p2 t = some o) : Ct l D (tysA cI cJ cO) yX1_handChildrenOver wsX1_handChildrenOver (rmOf 1 22) [.ref (b 0), .int p1, .int p2] (wT cI cJ b t) none (wT cI cJ b o) := by
  refine Ct_of (own := RX1) cX1_handChildrenOver 5 none (by decide +kernel) rfl rfl (Nat.le_of_ble_eq_true rfl) ?_
  intro p e s m args below meth c A C hnm
  have iX1 : ∀ w ∈ u_ws RX1 TX1 9, w ∈ wsX1_handChildrenOver := fun w h => List.mem_cons_of_mem _ (List.mem_append_right _ h)
  have f22 : Cond.fieldLink RX1 22 (TX1 2).1 (TX1 2).2.1 (TX1 2).2.2.1 ∈ wsX1_handChildrenOver := List.mem_of_getElem? (i := 2) rfl
  have f28 : Cond.fieldLink RX1 28 (TX1 4).1 (TX1 4).2.1 (TX1 4).2.2.1 ∈ wsX1_handChildrenOver := List.mem_of_getElem? (i := 1) rfl
  have n_X3_at := gw_cn (R := (rmOf 1 22)) (rm := rmOf 0 0) (index := 85) (n := 2) C gX1_handChildrenOver_X3_at_n85 rfl rfl rfl (by simp [nestW]) (List.mem_of_getElem? (i := 4) rfl) (List.mem_of_getElem? (i := 3) rfl) hd_X3_at.2 ⟨Nat.le_of_ble_eq_true rfl, Nat.le_of_ble_eq_true rfl⟩
  have n_X3_put := gw_cn (R := (rmOf 1 22)) (rm := rmOf 0 0) (index := 50) (n := 3) C gX1_handChildrenOver_X3_put_n50 rfl rfl rfl (by simp [nestW]) (List.mem_of_getElem? (i := 4) rfl) (List.mem_of_getElem? (i := 6) rfl) hd_X3_put.2 ⟨Nat.le_of_ble_eq_true rfl, Nat.le_of_ble_eq_true rfl⟩
  have h := gw_top h
  unfold fT_handChildrenOver at h
  show gw_G p l e (rmOf 1 22) s m args below meth c D A (CtM D below none (wT cI cJ b o) A args s) 5 0 0 (wT cI cJ b t) [(0, .ref (b 0)), (1, .int p1), (2, .int p2)] 0 []
  refine gw_iconst (v := (0 : Int32)) C dX1_handChildrenOver_0 rfl ?_
  refine gw_istore_n C dX1_handChildrenOver_1 [(3, .int (0 : Int32)), (0, .ref (b 0)), (1, .int p1), (2, .int p2)] rfl (by decide) rfl ?_
  refine gw_sub [1, 2, 3, 0] rfl ?_
  refine gw_lpb (x0 := ((0 : Int32), t)) (Go := fun x1 : Int32 × TS => gw_G p l e (rmOf 1 22) s m args below meth c D A (CtM D below none (wT cI cJ b o) A args s) 5 0 0 (wT cI cJ b x1.2) [(0, .ref (b 0)), (1, .int p1), (2, .int p2), (3, .int x1.1)] 2 []) (GoX := fun v1 : TS => gw_G p l e (rmOf 1 22) s m args below meth c D A (CtM D below none (wT cI cJ b o) A args s) 5 0 0 (wT cI cJ b v1) [] 49 []) h (fun v1 h => ?_) (fun x1 K1 X1 I1 h => ?_)
  · have h := gw_some h
    have ho := Option.some.inj h
    subst ho
    exact gw_vret C dX1_handChildrenOver_49
  · refine gw_iload_n C dX1_handChildrenOver_2 3 rfl ?_
    refine gw_bipush (v := (8 : Int32)) C dX1_handChildrenOver_3 rfl ?_
    refine gw_icmp_gt (tgt := 49) C dX1_handChildrenOver_5 (by decide) h (fun c2 h => ?_) (fun c2 h => ?_)
    · refine gw_sub [] rfl ?_
      have h := gw_some h
      exact X1 _ h
    · refine gw_aload_n C dX1_handChildrenOver_8 0 rfl ?_
      refine gw_get C dX1_handChildrenOver_9 0 1 4 rfl rfl iX1 (by decide) f28 rfl ?_
      refine gw_iload_n C dX1_handChildrenOver_12 1 rfl ?_
      refine gw_one (st2 := [.int (J_at 160 (tO x1.2) p1)]) (ws' := wT cI cJ b x1.2) C 4 rfl (run_SN (rest := []) C (c_X3_at l D cI cJ cO (b 4) 160 (tO x1.2) p1 (by decide)) n_X3_at rfl rfl (Nat.le_of_ble_eq_true rfl) dX1_handChildrenOver_13 ⟨Nat.zero_le _, Nat.zero_le _⟩) rfl rfl ?_
      refine gw_iload_n C dX1_handChildrenOver_16 3 rfl ?_
      refine gw_iadd C dX1_handChildrenOver_17 ?_
      refine gw_lt h (fun v3 ev3 h => ?_)
      rw [ev3]
      refine gw_istore C dX1_handChildrenOver_18 [(4, .int v3), (0, .ref (b 0)), (1, .int p1), (2, .int p2), (3, .int x1.1)] (by decide) rfl ?_
      refine gw_aload_n C dX1_handChildrenOver_20 1 rfl ?_
      refine gw_get C dX1_handChildrenOver_21 0 1 2 rfl rfl iX1 (by decide) f22 rfl ?_
      refine gw_iload C dX1_handChildrenOver_24 0 rfl ?_
      refine gw_one (st2 := [.int (J_at 160 (tP x1.2) v3)]) (ws' := wT cI cJ b x1.2) C 2 rfl (run_SN (rest := []) C (c_X3_at l D cI cJ cO (b 2) 160 (tP x1.2) v3 (by decide)) n_X3_at rfl rfl (Nat.le_of_ble_eq_true rfl) dX1_handChildrenOver_26 ⟨Nat.zero_le _, Nat.zero_le _⟩) rfl rfl ?_
      refine gw_iload_n C dX1_handChildrenOver_29 2 rfl ?_
      refine gw_icmp_ne (tgt := 43) C dX1_handChildrenOver_30 (by decide) h (fun c4 h => ?_) (fun c4 h => ?_)
      · refine gw_aload_n C dX1_handChildrenOver_33 1 rfl ?_
        refine gw_get C dX1_handChildrenOver_34 0 1 2 rfl rfl iX1 (by decide) f22 rfl ?_
        refine gw_iload C dX1_handChildrenOver_37 0 rfl ?_
        refine gw_iload_n C dX1_handChildrenOver_39 3 rfl ?_
        refine gw_lt h (fun t5 et5 h => ?_)
        refine gw_one (st2 := []) (ws' := wT cI cJ b t5) C 2 rfl (run_SN (rest := []) C (c_X3_put l D cI cJ cO (b 2) 160 (tP x1.2) v3 p2 (by decide)) n_X3_put rfl rfl (Nat.le_of_ble_eq_true rfl) dX1_handChildrenOver_40 ⟨Nat.zero_le _, Nat.zero_le _⟩) (by subst et5; rfl) rfl ?_
        refine gw_iinc (v := (x1.1 + (1 : Int32))) C dX1_handChildrenOver_43 [(3, .int (x1.1 + (1 : Int32))), (4, .int v3), (0, .ref (b 0)), (1, .int p1), (2, .int p2)] 4 rfl rfl (by decide) rfl ?_
        refine gw_goto (tgt := 2) C dX1_handChildrenOver_46 (by decide) ?_
        refine gw_sub [2, 3, 4, 0] rfl ?_
        have h := gw_some h
        exact I1 _ h
      · refine gw_iinc (v := (x1.1 + (1 : Int32))) C dX1_handChildrenOver_43 [(3, .int (x1.1 + (1 : Int32))), (4, .int v3), (0, .ref (b 0)), (1, .int p1), (2, .int p2)] 4 rfl rfl (by decide) rfl ?_
        refine gw_goto (tgt := 2) C dX1_handChildrenOver_46 (by decide) ?_
        refine gw_sub [2, 3, 4, 0] rfl ?_
        have h := gw_some h
        exact I1 _ h
theorem hd_X1_copyCell : yX1_copyCell.cls = RX1 ∧ yX1_copyCell.cls ≠ "java/lang/invoke/MethodHandle" ∧ yX1_copyCell.cls ≠ "java/lang/invoke/VarHandle" ∧ (parseMethodDescriptor yX1_copyCell.desc).map (fun d => d.parameters.length) = some 2 := by decide +kernel
set_option maxHeartbeats 4000000 in
set_option maxRecDepth 100000 in
theorem c_X1_copyCell (l : Launch) (D : va_G) (cI cJ cO : ClassId) (b : Nat → Nat) (t : TS) (p1 : Int32) (p2 : Int32) {o : TS} (h : fT_copyCell p1 p2 t = o) : Ct l D (tysA cI cJ cO) yX1_copyCell wsX1_copyCell (rmOf 1 22) [.ref (b 0), .int p1, .int p2] (wT cI cJ b t) none (wT cI cJ b o) := by
  refine Ct_of (own := RX1) cX1_copyCell 3 none (by decide +kernel) rfl rfl (Nat.le_of_ble_eq_true rfl) ?_
  intro p e s m args below meth c A C hnm
  have iX1 : ∀ w ∈ u_ws RX1 TX1 9, w ∈ wsX1_copyCell := fun w h => List.mem_cons_of_mem _ (List.mem_append_right _ h)
  have f18 : Cond.fieldLink RX1 18 (TX1 1).1 (TX1 1).2.1 (TX1 1).2.2.1 ∈ wsX1_copyCell := List.mem_of_getElem? (i := 1) rfl
  have f22 : Cond.fieldLink RX1 22 (TX1 2).1 (TX1 2).2.1 (TX1 2).2.2.1 ∈ wsX1_copyCell := List.mem_of_getElem? (i := 2) rfl
  have f25 : Cond.fieldLink RX1 25 (TX1 3).1 (TX1 3).2.1 (TX1 3).2.2.1 ∈ wsX1_copyCell := List.mem_of_getElem? (i := 3) rfl
  have f28 : Cond.fieldLink RX1 28 (TX1 4).1 (TX1 4).2.1 (TX1 4).2.2.1 ∈ wsX1_copyCell := List.mem_of_getElem? (i := 4) rfl
  have f31 : Cond.fieldLink RX1 31 (TX1 5).1 (TX1 5).2.1 (TX1 5).2.2.1 ∈ wsX1_copyCell := List.mem_of_getElem? (i := 5) rfl
  have f34 : Cond.fieldLink RX1 34 (TX1 6).1 (TX1 6).2.1 (TX1 6).2.2.1 ∈ wsX1_copyCell := List.mem_of_getElem? (i := 6) rfl
  have f37 : Cond.fieldLink RX1 37 (TX1 7).1 (TX1 7).2.1 (TX1 7).2.2.1 ∈ wsX1_copyCell := List.mem_of_getElem? (i := 7) rfl
  have n_X3_at := gw_cn (R := (rmOf 1 22)) (rm := rmOf 0 0) (index := 85) (n := 2) C gX1_copyCell_X3_at_n85 rfl rfl rfl (by simp [nestW]) (List.mem_of_getElem? (i := 9) rfl) (List.mem_of_getElem? (i := 8) rfl) hd_X3_at.2 ⟨Nat.le_of_ble_eq_true rfl, Nat.le_of_ble_eq_true rfl⟩
  have n_X3_put := gw_cn (R := (rmOf 1 22)) (rm := rmOf 0 0) (index := 50) (n := 3) C gX1_copyCell_X3_put_n50 rfl rfl rfl (by simp [nestW]) (List.mem_of_getElem? (i := 9) rfl) (List.mem_of_getElem? (i := 11) rfl) hd_X3_put.2 ⟨Nat.le_of_ble_eq_true rfl, Nat.le_of_ble_eq_true rfl⟩
  have h : Rt o (fT_copyCell p1 p2 t) := h
  unfold fT_copyCell at h
  show gw_G p l e (rmOf 1 22) s m args below meth c D A (CtM D below none (wT cI cJ b o) A args s) 3 0 0 (wT cI cJ b t) [(0, .ref (b 0)), (1, .int p1), (2, .int p2)] 0 []
  refine gw_aload_n C dX1_copyCell_0 0 rfl ?_
  refine gw_get C dX1_copyCell_1 0 1 1 rfl rfl iX1 (by decide) f18 rfl ?_
  refine gw_iload_n C dX1_copyCell_4 2 rfl ?_
  refine gw_aload_n C dX1_copyCell_5 0 rfl ?_
  refine gw_get C dX1_copyCell_6 0 1 1 rfl rfl iX1 (by decide) f18 rfl ?_
  refine gw_iload_n C dX1_copyCell_9 1 rfl ?_
  refine gw_one (st2 := [.int (J_at 160 (tK t) p1), .int p2, .ref (b 1)]) (ws' := wT cI cJ b t) C 1 rfl (run_SN (rest := [.int p2, .ref (b 1)]) C (c_X3_at l D cI cJ cO (b 1) 160 (tK t) p1 (by decide)) n_X3_at rfl rfl (Nat.le_of_ble_eq_true rfl) dX1_copyCell_10 ⟨Nat.zero_le _, Nat.zero_le _⟩) rfl rfl ?_
  refine gw_lt h (fun t1 et1 h => ?_)
  refine gw_one (st2 := []) (ws' := wT cI cJ b t1) C 1 rfl (run_SN (rest := []) C (c_X3_put l D cI cJ cO (b 1) 160 (tK t) p2 (J_at 160 (tK t) p1) (by decide)) n_X3_put rfl rfl (Nat.le_of_ble_eq_true rfl) dX1_copyCell_13 ⟨Nat.zero_le _, Nat.zero_le _⟩) (by subst et1; rfl) rfl ?_
  refine gw_aload_n C dX1_copyCell_16 0 rfl ?_
  refine gw_get C dX1_copyCell_17 0 1 2 rfl rfl iX1 (by decide) f22 rfl ?_
  refine gw_iload_n C dX1_copyCell_20 2 rfl ?_
  refine gw_aload_n C dX1_copyCell_21 0 rfl ?_
  refine gw_get C dX1_copyCell_22 0 1 2 rfl rfl iX1 (by decide) f22 rfl ?_
  refine gw_iload_n C dX1_copyCell_25 1 rfl ?_
  refine gw_one (st2 := [.int (J_at 160 (tP t1) p1), .int p2, .ref (b 2)]) (ws' := wT cI cJ b t1) C 2 rfl (run_SN (rest := [.int p2, .ref (b 2)]) C (c_X3_at l D cI cJ cO (b 2) 160 (tP t1) p1 (by decide)) n_X3_at rfl rfl (Nat.le_of_ble_eq_true rfl) dX1_copyCell_26 ⟨Nat.zero_le _, Nat.zero_le _⟩) rfl rfl ?_
  refine gw_lt h (fun t2 et2 h => ?_)
  refine gw_one (st2 := []) (ws' := wT cI cJ b t2) C 2 rfl (run_SN (rest := []) C (c_X3_put l D cI cJ cO (b 2) 160 (tP t1) p2 (J_at 160 (tP t1) p1) (by decide)) n_X3_put rfl rfl (Nat.le_of_ble_eq_true rfl) dX1_copyCell_29 ⟨Nat.zero_le _, Nat.zero_le _⟩) (by subst et2; rfl) rfl ?_
  refine gw_aload_n C dX1_copyCell_32 0 rfl ?_
  refine gw_get C dX1_copyCell_33 0 1 3 rfl rfl iX1 (by decide) f25 rfl ?_
  refine gw_iload_n C dX1_copyCell_36 2 rfl ?_
  refine gw_aload_n C dX1_copyCell_37 0 rfl ?_
  refine gw_get C dX1_copyCell_38 0 1 3 rfl rfl iX1 (by decide) f25 rfl ?_
  refine gw_iload_n C dX1_copyCell_41 1 rfl ?_
  refine gw_one (st2 := [.int (J_at 160 (tB t2) p1), .int p2, .ref (b 3)]) (ws' := wT cI cJ b t2) C 3 rfl (run_SN (rest := [.int p2, .ref (b 3)]) C (c_X3_at l D cI cJ cO (b 3) 160 (tB t2) p1 (by decide)) n_X3_at rfl rfl (Nat.le_of_ble_eq_true rfl) dX1_copyCell_42 ⟨Nat.zero_le _, Nat.zero_le _⟩) rfl rfl ?_
  refine gw_lt h (fun t3 et3 h => ?_)
  refine gw_one (st2 := []) (ws' := wT cI cJ b t3) C 3 rfl (run_SN (rest := []) C (c_X3_put l D cI cJ cO (b 3) 160 (tB t2) p2 (J_at 160 (tB t2) p1) (by decide)) n_X3_put rfl rfl (Nat.le_of_ble_eq_true rfl) dX1_copyCell_45 ⟨Nat.zero_le _, Nat.zero_le _⟩) (by subst et3; rfl) rfl ?_
  refine gw_aload_n C dX1_copyCell_48 0 rfl ?_
  refine gw_get C dX1_copyCell_49 0 1 4 rfl rfl iX1 (by decide) f28 rfl ?_
  refine gw_iload_n C dX1_copyCell_52 2 rfl ?_
  refine gw_aload_n C dX1_copyCell_53 0 rfl ?_
  refine gw_get C dX1_copyCell_54 0 1 4 rfl rfl iX1 (by decide) f28 rfl ?_
  refine gw_iload_n C dX1_copyCell_57 1 rfl ?_
  refine gw_one (st2 := [.int (J_at 160 (tO t3) p1), .int p2, .ref (b 4)]) (ws' := wT cI cJ b t3) C 4 rfl (run_SN (rest := [.int p2, .ref (b 4)]) C (c_X3_at l D cI cJ cO (b 4) 160 (tO t3) p1 (by decide)) n_X3_at rfl rfl (Nat.le_of_ble_eq_true rfl) dX1_copyCell_58 ⟨Nat.zero_le _, Nat.zero_le _⟩) rfl rfl ?_
  refine gw_lt h (fun t4 et4 h => ?_)
  refine gw_one (st2 := []) (ws' := wT cI cJ b t4) C 4 rfl (run_SN (rest := []) C (c_X3_put l D cI cJ cO (b 4) 160 (tO t3) p2 (J_at 160 (tO t3) p1) (by decide)) n_X3_put rfl rfl (Nat.le_of_ble_eq_true rfl) dX1_copyCell_61 ⟨Nat.zero_le _, Nat.zero_le _⟩) (by subst et4; rfl) rfl ?_
  refine gw_aload_n C dX1_copyCell_64 0 rfl ?_
  refine gw_get C dX1_copyCell_65 0 1 5 rfl rfl iX1 (by decide) f31 rfl ?_
  refine gw_iload_n C dX1_copyCell_68 2 rfl ?_
  refine gw_aload_n C dX1_copyCell_69 0 rfl ?_
  refine gw_get C dX1_copyCell_70 0 1 5 rfl rfl iX1 (by decide) f31 rfl ?_
  refine gw_iload_n C dX1_copyCell_73 1 rfl ?_
  refine gw_one (st2 := [.int (J_at 160 (tE t4) p1), .int p2, .ref (b 5)]) (ws' := wT cI cJ b t4) C 5 rfl (run_SN (rest := [.int p2, .ref (b 5)]) C (c_X3_at l D cI cJ cO (b 5) 160 (tE t4) p1 (by decide)) n_X3_at rfl rfl (Nat.le_of_ble_eq_true rfl) dX1_copyCell_74 ⟨Nat.zero_le _, Nat.zero_le _⟩) rfl rfl ?_
  refine gw_lt h (fun t5 et5 h => ?_)
  refine gw_one (st2 := []) (ws' := wT cI cJ b t5) C 5 rfl (run_SN (rest := []) C (c_X3_put l D cI cJ cO (b 5) 160 (tE t4) p2 (J_at 160 (tE t4) p1) (by decide)) n_X3_put rfl rfl (Nat.le_of_ble_eq_true rfl) dX1_copyCell_77 ⟨Nat.zero_le _, Nat.zero_le _⟩) (by subst et5; rfl) rfl ?_
  refine gw_aload_n C dX1_copyCell_80 0 rfl ?_
  refine gw_get C dX1_copyCell_81 0 1 6 rfl rfl iX1 (by decide) f34 rfl ?_
  refine gw_iload_n C dX1_copyCell_84 2 rfl ?_
  refine gw_aload_n C dX1_copyCell_85 0 rfl ?_
  refine gw_get C dX1_copyCell_86 0 1 6 rfl rfl iX1 (by decide) f34 rfl ?_
  refine gw_iload_n C dX1_copyCell_89 1 rfl ?_
  refine gw_one (st2 := [.int (J_at 160 (tC t5) p1), .int p2, .ref (b 6)]) (ws' := wT cI cJ b t5) C 6 rfl (run_SN (rest := [.int p2, .ref (b 6)]) C (c_X3_at l D cI cJ cO (b 6) 160 (tC t5) p1 (by decide)) n_X3_at rfl rfl (Nat.le_of_ble_eq_true rfl) dX1_copyCell_90 ⟨Nat.zero_le _, Nat.zero_le _⟩) rfl rfl ?_
  refine gw_lt h (fun t6 et6 h => ?_)
  refine gw_one (st2 := []) (ws' := wT cI cJ b t6) C 6 rfl (run_SN (rest := []) C (c_X3_put l D cI cJ cO (b 6) 160 (tC t5) p2 (J_at 160 (tC t5) p1) (by decide)) n_X3_put rfl rfl (Nat.le_of_ble_eq_true rfl) dX1_copyCell_93 ⟨Nat.zero_le _, Nat.zero_le _⟩) (by subst et6; rfl) rfl ?_
  refine gw_aload_n C dX1_copyCell_96 0 rfl ?_
  refine gw_get C dX1_copyCell_97 0 1 7 rfl rfl iX1 (by decide) f37 rfl ?_
  refine gw_iload_n C dX1_copyCell_100 2 rfl ?_
  refine gw_aload_n C dX1_copyCell_101 0 rfl ?_
  refine gw_get C dX1_copyCell_102 0 1 7 rfl rfl iX1 (by decide) f37 rfl ?_
  refine gw_iload_n C dX1_copyCell_105 1 rfl ?_
  refine gw_one (st2 := [.int (J_at 160 (tW t6) p1), .int p2, .ref (b 7)]) (ws' := wT cI cJ b t6) C 7 rfl (run_SN (rest := [.int p2, .ref (b 7)]) C (c_X3_at l D cI cJ cO (b 7) 160 (tW t6) p1 (by decide)) n_X3_at rfl rfl (Nat.le_of_ble_eq_true rfl) dX1_copyCell_106 ⟨Nat.zero_le _, Nat.zero_le _⟩) rfl rfl ?_
  refine gw_lt h (fun t7 et7 h => ?_)
  refine gw_one (st2 := []) (ws' := wT cI cJ b t7) C 7 rfl (run_SN (rest := []) C (c_X3_put l D cI cJ cO (b 7) 160 (tW t6) p2 (J_at 160 (tW t6) p1) (by decide)) n_X3_put rfl rfl (Nat.le_of_ble_eq_true rfl) dX1_copyCell_109 ⟨Nat.zero_le _, Nat.zero_le _⟩) (by subst et7; rfl) rfl ?_
  have ho : _ = o := h
  subst ho
  exact gw_vret C dX1_copyCell_112
theorem hd_X1_moveChildren : yX1_moveChildren.cls = RX1 ∧ yX1_moveChildren.cls ≠ "java/lang/invoke/MethodHandle" ∧ yX1_moveChildren.cls ≠ "java/lang/invoke/VarHandle" ∧ (parseMethodDescriptor yX1_moveChildren.desc).map (fun d => d.parameters.length) = some 2 := by decide +kernel
set_option maxHeartbeats 4000000 in
set_option maxRecDepth 100000 in
theorem c_X1_moveChildren (l : Launch) (D : va_G) (cI cJ cO : ClassId) (b : Nat → Nat) (t : TS) (p1 : Int32) (p2 : Int32) {o : Int32 × TS} (h : fT_moveChildren p1 p2 t = some o) : Ct l D (tysA cI cJ cO) yX1_moveChildren wsX1_moveChildren (rmOf 2 46) [.ref (b 0), .int p1, .int p2] (wT cI cJ b t) (some (.int o.1)) (wT cI cJ b o.2) := by
  refine Ct_of (own := RX1) cX1_moveChildren 7 (some .boolean) (by decide +kernel) rfl rfl (Nat.le_of_ble_eq_true rfl) ?_
  intro p e s m args below meth c A C hnm
  have iX1 : ∀ w ∈ u_ws RX1 TX1 9, w ∈ wsX1_moveChildren := fun w h => List.mem_cons_of_mem _ (List.mem_append_right _ h)
  have f28 : Cond.fieldLink RX1 28 (TX1 4).1 (TX1 4).2.1 (TX1 4).2.2.1 ∈ wsX1_moveChildren := List.mem_of_getElem? (i := 2) rfl
  have f34 : Cond.fieldLink RX1 34 (TX1 6).1 (TX1 6).2.1 (TX1 6).2.2.1 ∈ wsX1_moveChildren := List.mem_of_getElem? (i := 1) rfl
  have f40 : Cond.fieldLink RX1 40 (TX1 8).1 (TX1 8).2.1 (TX1 8).2.2.1 ∈ wsX1_moveChildren := List.mem_of_getElem? (i := 3) rfl
  have w_X1_clearCell := cwV (R := (rmOf 2 46)) (rm := rmOf 1 22) (s := s) (args := args) 1 C.1.2.2.2.2 gX1_moveChildren_X1_clearCell rfl rfl rfl hd_X1_clearCell ⟨Nat.le_of_ble_eq_true rfl, Nat.le_of_ble_eq_true rfl⟩
  have w_X1_copyCell := cwV (R := (rmOf 2 46)) (rm := rmOf 1 22) (s := s) (args := args) 2 C.1.2.2.2.2 gX1_moveChildren_X1_copyCell rfl rfl rfl hd_X1_copyCell ⟨Nat.le_of_ble_eq_true rfl, Nat.le_of_ble_eq_true rfl⟩
  have w_X1_handChildrenOver := cwV (R := (rmOf 2 46)) (rm := rmOf 1 22) (s := s) (args := args) 2 C.1.2.2.2.2 gX1_moveChildren_X1_handChildrenOver rfl rfl rfl hd_X1_handChildrenOver ⟨Nat.le_of_ble_eq_true rfl, Nat.le_of_ble_eq_true rfl⟩
  have w_X1_leastOffset := cwV (R := (rmOf 2 46)) (rm := rmOf 0 0) (s := s) (args := args) 1 C.1.2.2.2.2 gX1_moveChildren_X1_leastOffset rfl rfl rfl hd_X1_leastOffset ⟨Nat.le_of_ble_eq_true rfl, Nat.le_of_ble_eq_true rfl⟩
  have n_X3_at := gw_cn (R := (rmOf 2 46)) (rm := rmOf 0 0) (index := 85) (n := 2) C gX1_moveChildren_X3_at_n85 rfl rfl rfl (by simp [nestW]) (List.mem_of_getElem? (i := 5) rfl) (List.mem_of_getElem? (i := 4) rfl) hd_X3_at.2 ⟨Nat.le_of_ble_eq_true rfl, Nat.le_of_ble_eq_true rfl⟩
  have n_X3_put := gw_cn (R := (rmOf 2 46)) (rm := rmOf 0 0) (index := 50) (n := 3) C gX1_moveChildren_X3_put_n50 rfl rfl rfl (by simp [nestW]) (List.mem_of_getElem? (i := 5) rfl) (List.mem_of_getElem? (i := 18) rfl) hd_X3_put.2 ⟨Nat.le_of_ble_eq_true rfl, Nat.le_of_ble_eq_true rfl⟩
  have h := gw_top h
  unfold fT_moveChildren at h
  show gw_G p l e (rmOf 2 46) s m args below meth c D A (CtM D below (some (.int o.1)) (wT cI cJ b o.2) A args s) 7 0 0 (wT cI cJ b t) [(0, .ref (b 0)), (1, .int p1), (2, .int p2)] 0 []
  refine gw_aload_n C dX1_moveChildren_0 0 rfl ?_
  refine gw_get C dX1_moveChildren_1 0 1 6 rfl rfl iX1 (by decide) f34 rfl ?_
  refine gw_iload_n C dX1_moveChildren_4 1 rfl ?_
  refine gw_one (st2 := [.int (J_at 160 (tC t) p1)]) (ws' := wT cI cJ b t) C 6 rfl (run_SN (rest := []) C (c_X3_at l D cI cJ cO (b 6) 160 (tC t) p1 (by decide)) n_X3_at rfl rfl (Nat.le_of_ble_eq_true rfl) dX1_moveChildren_5 ⟨Nat.zero_le _, Nat.zero_le _⟩) rfl rfl ?_
  refine gw_lt h (fun v1 ev1 h => ?_)
  rw [ev1]
  refine gw_istore_n C dX1_moveChildren_8 [(3, .int v1), (0, .ref (b 0)), (1, .int p1), (2, .int p2)] rfl (by decide) rfl ?_
  refine gw_aload_n C dX1_moveChildren_9 1 rfl ?_
  refine gw_get C dX1_moveChildren_10 0 1 4 rfl rfl iX1 (by decide) f28 rfl ?_
  refine gw_iload_n C dX1_moveChildren_13 2 rfl ?_
  refine gw_one (st2 := [.int (J_at 160 (tO t) p1)]) (ws' := wT cI cJ b t) C 4 rfl (run_SN (rest := []) C (c_X3_at l D cI cJ cO (b 4) 160 (tO t) p1 (by decide)) n_X3_at rfl rfl (Nat.le_of_ble_eq_true rfl) dX1_moveChildren_14 ⟨Nat.zero_le _, Nat.zero_le _⟩) rfl rfl ?_
  refine gw_lt h (fun v2 ev2 h => ?_)
  rw [ev2]
  refine gw_istore C dX1_moveChildren_17 [(4, .int v2), (3, .int v1), (0, .ref (b 0)), (1, .int p1), (2, .int p2)] (by decide) rfl ?_
  refine gw_aload_n C dX1_moveChildren_19 2 rfl ?_
  refine gw_iload_n C dX1_moveChildren_20 1 rfl ?_
  refine gw_iload_n C dX1_moveChildren_21 4 rfl ?_
  refine gw_ior C dX1_moveChildren_22 ?_
  refine gw_bind h (fun q3 hq3 h => ?_)
  refine gw_whole (st2 := [.int q3]) C (run_V (rest := []) C (c_X1_leastOffset l D cI cJ cO b t (v1 ||| p2) hq3) w_X1_leastOffset 0 1 rfl rfl rfl rfl rfl (Nat.le_of_ble_eq_true rfl) dX1_moveChildren_23 ⟨Nat.zero_le _, Nat.zero_le _⟩) rfl ?_
  refine gw_istore C dX1_moveChildren_26 [(5, .int q3), (4, .int v2), (3, .int v1), (0, .ref (b 0)), (1, .int p1), (2, .int p2)] (by decide) rfl ?_
  refine gw_iload C dX1_moveChildren_28 0 rfl ?_
  refine gw_if_ne (tgt := 35) C dX1_moveChildren_30 (by decide) h (fun c4 h => ?_) (fun c4 h => ?_)
  · refine gw_iconst (v := (0 : Int32)) C dX1_moveChildren_33 rfl ?_
    have h := gw_some h
    have ho := Option.some.inj h
    subst ho
    exact gw_zret C (Or.inl rfl) dX1_moveChildren_34
  · refine gw_iconst (v := (0 : Int32)) C dX1_moveChildren_35 rfl ?_
    refine gw_istore C dX1_moveChildren_36 [(6, .int (0 : Int32)), (5, .int q3), (4, .int v2), (3, .int v1), (0, .ref (b 0)), (1, .int p1), (2, .int p2)] (by decide) rfl ?_
    refine gw_sub [4, 5, 3, 2, 1, 0] rfl ?_
    refine gw_lpb (x0 := ((0 : Int32), t)) (Go := fun x5 : Int32 × TS => gw_G p l e (rmOf 2 46) s m args below meth c D A (CtM D below (some (.int o.1)) (wT cI cJ b o.2) A args s) 7 0 0 (wT cI cJ b x5.2) [(0, .ref (b 0)), (1, .int p1), (3, .int v1), (4, .int v2), (5, .int q3), (6, .int x5.1)] 38 []) (GoX := fun v5 : TS => gw_G p l e (rmOf 2 46) s m args below meth c D A (CtM D below (some (.int o.1)) (wT cI cJ b o.2) A args s) 7 0 0 (wT cI cJ b v5) [(0, .ref (b 0)), (1, .int p1), (5, .int q3)] 107 []) h (fun v5 h => ?_) (fun x5 K5 X5 I5 h => ?_)
    · refine gw_aload_n C dX1_moveChildren_107 0 rfl ?_
      refine gw_get C dX1_moveChildren_108 0 1 4 rfl rfl iX1 (by decide) f28 rfl ?_
      refine gw_iload_n C dX1_moveChildren_111 1 rfl ?_
      refine gw_iload C dX1_moveChildren_112 2 rfl ?_
      refine gw_lt h (fun t12 et12 h => ?_)
      refine gw_one (st2 := []) (ws' := wT cI cJ b t12) C 4 rfl (run_SN (rest := []) C (c_X3_put l D cI cJ cO (b 4) 160 (tO v5) p1 q3 (by decide)) n_X3_put rfl rfl (Nat.le_of_ble_eq_true rfl) dX1_moveChildren_114 ⟨Nat.zero_le _, Nat.zero_le _⟩) (by subst et12; rfl) rfl ?_
      refine gw_iconst (v := (1 : Int32)) C dX1_moveChildren_117 rfl ?_
      have h := gw_some h
      have ho := Option.some.inj h
      subst ho
      exact gw_zret C (Or.inr rfl) dX1_moveChildren_118
    · refine gw_iload C dX1_moveChildren_38 5 rfl ?_
      refine gw_bipush (v := (8 : Int32)) C dX1_moveChildren_40 rfl ?_
      refine gw_icmp_gt (tgt := 107) C dX1_moveChildren_42 (by decide) h (fun c6 h => ?_) (fun c6 h => ?_)
      · refine gw_sub [0, 1, 4] rfl ?_
        have h := gw_some h
        exact X5 _ h
      · refine gw_iload_n C dX1_moveChildren_45 2 rfl ?_
        refine gw_iload C dX1_moveChildren_46 5 rfl ?_
        refine gw_ishr C dX1_moveChildren_48 ?_
        refine gw_iconst (v := (1 : Int32)) C dX1_moveChildren_49 rfl ?_
        refine gw_iand C dX1_moveChildren_50 ?_
        refine gw_if_eq (tgt := 101) C dX1_moveChildren_51 (by decide) h (fun c7 h => ?_) (fun c7 h => ?_)
        · refine gw_iinc (v := (x5.1 + (1 : Int32))) C dX1_moveChildren_101 [(6, .int (x5.1 + (1 : Int32))), (0, .ref (b 0)), (1, .int p1), (3, .int v1), (4, .int v2), (5, .int q3)] 5 rfl rfl (by decide) rfl ?_
          refine gw_goto (tgt := 38) C dX1_moveChildren_104 (by decide) ?_
          refine gw_sub [1, 2, 3, 4, 5, 0] rfl ?_
          have h := gw_some h
          exact I5 _ h
        · refine gw_aload_n C dX1_moveChildren_54 0 rfl ?_
          refine gw_iload C dX1_moveChildren_55 3 rfl ?_
          refine gw_iload C dX1_moveChildren_57 5 rfl ?_
          refine gw_iadd C dX1_moveChildren_59 ?_
          refine gw_iload C dX1_moveChildren_60 4 rfl ?_
          refine gw_iload C dX1_moveChildren_62 5 rfl ?_
          refine gw_iadd C dX1_moveChildren_64 ?_
          refine gw_bind h (fun q8 hq8 h => ?_)
          refine gw_whole (st2 := []) C (run_V (rest := []) C (c_X1_handChildrenOver l D cI cJ cO b x5.2 (v2 + x5.1) (q3 + x5.1) hq8) w_X1_handChildrenOver 0 1 rfl rfl rfl rfl rfl (Nat.le_of_ble_eq_true rfl) dX1_moveChildren_65 ⟨Nat.zero_le _, Nat.zero_le _⟩) rfl ?_
          refine gw_aload_n C dX1_moveChildren_68 0 rfl ?_
          refine gw_iload C dX1_moveChildren_69 3 rfl ?_
          refine gw_iload C dX1_moveChildren_71 5 rfl ?_
          refine gw_iadd C dX1_moveChildren_73 ?_
          refine gw_iload C dX1_moveChildren_74 4 rfl ?_
          refine gw_iload C dX1_moveChildren_76 5 rfl ?_
          refine gw_iadd C dX1_moveChildren_78 ?_
          refine gw_lt h (fun q9 hq9 h => ?_)
          refine gw_whole (st2 := []) C (run_V (rest := []) C (c_X1_copyCell l D cI cJ cO b q8 (v2 + x5.1) (q3 + x5.1) hq9) w_X1_copyCell 0 1 rfl rfl rfl rfl rfl (Nat.le_of_ble_eq_true rfl) dX1_moveChildren_79 ⟨Nat.zero_le _, Nat.zero_le _⟩) rfl ?_
          refine gw_aload_n C dX1_moveChildren_82 0 rfl ?_
          refine gw_iload C dX1_moveChildren_83 3 rfl ?_
          refine gw_iload C dX1_moveChildren_85 5 rfl ?_
          refine gw_iadd C dX1_moveChildren_87 ?_
          refine gw_lt h (fun q10 hq10 h => ?_)
          refine gw_whole (st2 := []) C (run_V (rest := []) C (c_X1_clearCell l D cI cJ cO b q9 (v2 + x5.1) hq10) w_X1_clearCell 0 1 rfl rfl rfl rfl rfl (Nat.le_of_ble_eq_true rfl) dX1_moveChildren_88 ⟨Nat.zero_le _, Nat.zero_le _⟩) rfl ?_
          refine gw_aload_n C dX1_moveChildren_91 0 rfl ?_
          refine gw_dup C dX1_moveChildren_92 rfl ?_
          refine gw_get C dX1_moveChildren_93 0 1 8 rfl rfl iX1 (by decide) f40 rfl ?_
          refine gw_iconst (v := (1 : Int32)) C dX1_moveChildren_96 rfl ?_
          refine gw_iadd C dX1_moveChildren_97 ?_
          refine gw_lt h (fun t11 et11 h => ?_)
          refine gw_put (ws' := wT cI cJ b t11) (ty := .int) C dX1_moveChildren_98 0 1 8 tyX1 tyX1_ok nmX1 rfl rfl iX1 (by decide) f40 rfl (tyX1_ok 8 (by decide)) rfl rfl (Nat.le_of_ble_eq_true rfl) (by subst et11; rfl) ?_
          refine gw_iinc (v := (x5.1 + (1 : Int32))) C dX1_moveChildren_101 [(6, .int (x5.1 + (1 : Int32))), (0, .ref (b 0)), (1, .int p1), (3, .int v1), (4, .int v2), (5, .int q3)] 5 rfl rfl (by decide) rfl ?_
          refine gw_goto (tgt := 38) C dX1_moveChildren_104 (by decide) ?_
          refine gw_sub [1, 2, 3, 4, 5, 0] rfl ?_
          have h := gw_some h
          exact I5 _ h
theorem hd_X1_makeRoom : yX1_makeRoom.cls = RX1 ∧ yX1_makeRoom.cls ≠ "java/lang/invoke/MethodHandle" ∧ yX1_makeRoom.cls ≠ "java/lang/invoke/VarHandle" ∧ (parseMethodDescriptor yX1_makeRoom.desc).map (fun d => d.parameters.length) = some 2 := by decide +kernel
set_option maxHeartbeats 4000000 in
set_option maxRecDepth 100000 in
theorem c_X1_makeRoom (l : Launch) (D : va_G) (cI cJ cO : ClassId) (b : Nat → Nat) (t : TS) (p1 : Int32) (p2 : Int32) {o : Int32 × TS} (h : fT_makeRoom p1 p2 t = some o) : Ct l D (tysA cI cJ cO) yX1_makeRoom wsX1_makeRoom (rmOf 3 72) [.ref (b 0), .int p1, .int p2] (wT cI cJ b t) (some (.int o.1)) (wT cI cJ b o.2) := by
  refine Ct_of (own := RX1) cX1_makeRoom 7 (some .int) (by decide +kernel) rfl rfl (Nat.le_of_ble_eq_true rfl) ?_
  intro p e s m args below meth c A C hnm
  have iX1 : ∀ w ∈ u_ws RX1 TX1 9, w ∈ wsX1_makeRoom := fun w h => List.mem_cons_of_mem _ (List.mem_append_right _ h)
  have f18 : Cond.fieldLink RX1 18 (TX1 1).1 (TX1 1).2.1 (TX1 1).2.2.1 ∈ wsX1_makeRoom := List.mem_of_getElem? (i := 3) rfl
  have f22 : Cond.fieldLink RX1 22 (TX1 2).1 (TX1 2).2.1 (TX1 2).2.2.1 ∈ wsX1_makeRoom := List.mem_of_getElem? (i := 4) rfl
  have f25 : Cond.fieldLink RX1 25 (TX1 3).1 (TX1 3).2.1 (TX1 3).2.2.1 ∈ wsX1_makeRoom := List.mem_of_getElem? (i := 5) rfl
  have f28 : Cond.fieldLink RX1 28 (TX1 4).1 (TX1 4).2.1 (TX1 4).2.2.1 ∈ wsX1_makeRoom := List.mem_of_getElem? (i := 2) rfl
  have f34 : Cond.fieldLink RX1 34 (TX1 6).1 (TX1 6).2.1 (TX1 6).2.2.1 ∈ wsX1_makeRoom := List.mem_of_getElem? (i := 1) rfl
  have w_X1_childrenOf := cwV (R := (rmOf 3 72)) (rm := rmOf 1 21) (s := s) (args := args) 1 C.1.2.2.2.2 gX1_makeRoom_X1_childrenOf rfl rfl rfl hd_X1_childrenOf ⟨Nat.le_of_ble_eq_true rfl, Nat.le_of_ble_eq_true rfl⟩
  have w_X1_moveChildren := cwV (R := (rmOf 3 72)) (rm := rmOf 2 46) (s := s) (args := args) 2 C.1.2.2.2.2 gX1_makeRoom_X1_moveChildren rfl rfl rfl hd_X1_moveChildren ⟨Nat.le_of_ble_eq_true rfl, Nat.le_of_ble_eq_true rfl⟩
  have w_X1_placeFirst := cwV (R := (rmOf 3 72)) (rm := rmOf 1 25) (s := s) (args := args) 2 C.1.2.2.2.2 gX1_makeRoom_X1_placeFirst rfl rfl rfl hd_X1_placeFirst ⟨Nat.le_of_ble_eq_true rfl, Nat.le_of_ble_eq_true rfl⟩
  have n_X3_at := gw_cn (R := (rmOf 3 72)) (rm := rmOf 0 0) (index := 85) (n := 2) C gX1_makeRoom_X3_at_n85 rfl rfl rfl (by simp [nestW]) (List.mem_of_getElem? (i := 7) rfl) (List.mem_of_getElem? (i := 6) rfl) hd_X3_at.2 ⟨Nat.le_of_ble_eq_true rfl, Nat.le_of_ble_eq_true rfl⟩
  have h := gw_top h
  unfold fT_makeRoom at h
  show gw_G p l e (rmOf 3 72) s m args below meth c D A (CtM D below (some (.int o.1)) (wT cI cJ b o.2) A args s) 7 0 0 (wT cI cJ b t) [(0, .ref (b 0)), (1, .int p1), (2, .int p2)] 0 []
  refine gw_aload_n C dX1_makeRoom_0 0 rfl ?_
  refine gw_get C dX1_makeRoom_1 0 1 6 rfl rfl iX1 (by decide) f34 rfl ?_
  refine gw_iload_n C dX1_makeRoom_4 1 rfl ?_
  refine gw_one (st2 := [.int (J_at 160 (tC t) p1)]) (ws' := wT cI cJ b t) C 6 rfl (run_SN (rest := []) C (c_X3_at l D cI cJ cO (b 6) 160 (tC t) p1 (by decide)) n_X3_at rfl rfl (Nat.le_of_ble_eq_true rfl) dX1_makeRoom_5 ⟨Nat.zero_le _, Nat.zero_le _⟩) rfl rfl ?_
  refine gw_if_ne (tgt := 28) C dX1_makeRoom_8 (by decide) h (fun c1 h => ?_) (fun c1 h => ?_)
  · refine gw_aload_n C dX1_makeRoom_11 0 rfl ?_
    refine gw_iload_n C dX1_makeRoom_12 1 rfl ?_
    refine gw_iconst (v := (1 : Int32)) C dX1_makeRoom_13 rfl ?_
    refine gw_iload_n C dX1_makeRoom_14 2 rfl ?_
    refine gw_ishl C dX1_makeRoom_15 ?_
    refine gw_bind h (fun q2 hq2 h => ?_)
    refine gw_whole (st2 := [.int q2.1]) C (run_V (rest := []) C (c_X1_placeFirst l D cI cJ cO b t p1 ((1 : Int32) <<< (p2 &&& 31)) hq2) w_X1_placeFirst 0 1 rfl rfl rfl rfl rfl (Nat.le_of_ble_eq_true rfl) dX1_makeRoom_16 ⟨Nat.zero_le _, Nat.zero_le _⟩) rfl ?_
    refine gw_if_eq (tgt := 26) C dX1_makeRoom_19 (by decide) h (fun c3 h => ?_) (fun c3 h => ?_)
    · refine gw_iconst (v := (-1 : Int32)) C dX1_makeRoom_26 rfl ?_
      have h := gw_some h
      have ho := Option.some.inj h
      subst ho
      exact gw_iret C dX1_makeRoom_27
    · refine gw_iload_n C dX1_makeRoom_22 1 rfl ?_
      refine gw_goto (tgt := 27) C dX1_makeRoom_23 (by decide) ?_
      have h := gw_some h
      have ho := Option.some.inj h
      subst ho
      exact gw_iret C dX1_makeRoom_27
  · refine gw_aload_n C dX1_makeRoom_28 0 rfl ?_
    refine gw_get C dX1_makeRoom_29 0 1 4 rfl rfl iX1 (by decide) f28 rfl ?_
    refine gw_iload_n C dX1_makeRoom_32 1 rfl ?_
    refine gw_one (st2 := [.int (J_at 160 (tO t) p1)]) (ws' := wT cI cJ b t) C 4 rfl (run_SN (rest := []) C (c_X3_at l D cI cJ cO (b 4) 160 (tO t) p1 (by decide)) n_X3_at rfl rfl (Nat.le_of_ble_eq_true rfl) dX1_makeRoom_33 ⟨Nat.zero_le _, Nat.zero_le _⟩) rfl rfl ?_
    refine gw_iload_n C dX1_makeRoom_36 2 rfl ?_
    refine gw_iadd C dX1_makeRoom_37 ?_
    refine gw_lt h (fun v4 ev4 h => ?_)
    rw [ev4]
    refine gw_istore_n C dX1_makeRoom_38 [(3, .int v4), (0, .ref (b 0)), (1, .int p1), (2, .int p2)] rfl (by decide) rfl ?_
    refine gw_aload_n C dX1_makeRoom_39 1 rfl ?_
    refine gw_get C dX1_makeRoom_40 0 1 1 rfl rfl iX1 (by decide) f18 rfl ?_
    refine gw_iload_n C dX1_makeRoom_43 0 rfl ?_
    refine gw_one (st2 := [.int (J_at 160 (tK t) v4)]) (ws' := wT cI cJ b t) C 1 rfl (run_SN (rest := []) C (c_X3_at l D cI cJ cO (b 1) 160 (tK t) v4 (by decide)) n_X3_at rfl rfl (Nat.le_of_ble_eq_true rfl) dX1_makeRoom_44 ⟨Nat.zero_le _, Nat.zero_le _⟩) rfl rfl ?_
    refine gw_if_ne (tgt := 52) C dX1_makeRoom_47 (by decide) h (fun c5 h => ?_) (fun c5 h => ?_)
    · refine gw_iload_n C dX1_makeRoom_50 2 rfl ?_
      have h := gw_some h
      have ho := Option.some.inj h
      subst ho
      exact gw_iret C dX1_makeRoom_51
    · refine gw_aload_n C dX1_makeRoom_52 1 rfl ?_
      refine gw_get C dX1_makeRoom_53 0 1 2 rfl rfl iX1 (by decide) f22 rfl ?_
      refine gw_iload_n C dX1_makeRoom_56 0 rfl ?_
      refine gw_one (st2 := [.int (J_at 160 (tP t) v4)]) (ws' := wT cI cJ b t) C 2 rfl (run_SN (rest := []) C (c_X3_at l D cI cJ cO (b 2) 160 (tP t) v4 (by decide)) n_X3_at rfl rfl (Nat.le_of_ble_eq_true rfl) dX1_makeRoom_57 ⟨Nat.zero_le _, Nat.zero_le _⟩) rfl rfl ?_
      refine gw_lt h (fun v6 ev6 h => ?_)
      rw [ev6]
      refine gw_istore C dX1_makeRoom_60 [(4, .int v6), (3, .int v4), (0, .ref (b 0)), (1, .int p1), (2, .int p2)] (by decide) rfl ?_
      refine gw_iload C dX1_makeRoom_62 0 rfl ?_
      refine gw_iconst (v := (-1 : Int32)) C dX1_makeRoom_64 rfl ?_
      refine gw_lt h (fun j7 ej7 h => ?_)
      have J7 : ∀ v7 : Unit, Rs some o (j7 v7) → gw_G p l e (rmOf 3 72) s m args below meth c D A (CtM D below (some (.int o.1)) (wT cI cJ b o.2) A args s) 7 0 0 (wT cI cJ b t) [(0, .ref (b 0)), (1, .int p1), (2, .int p2)] 84 [] := by
        intro v7 h
        have h := gw_app ej7 h
        refine gw_aload_n C dX1_makeRoom_84 0 rfl ?_
        refine gw_iload_n C dX1_makeRoom_85 1 rfl ?_
        refine gw_iconst (v := (1 : Int32)) C dX1_makeRoom_86 rfl ?_
        refine gw_iload_n C dX1_makeRoom_87 2 rfl ?_
        refine gw_ishl C dX1_makeRoom_88 ?_
        refine gw_bind h (fun q16 hq16 h => ?_)
        refine gw_whole (st2 := [.int q16.1]) C (run_V (rest := []) C (c_X1_moveChildren l D cI cJ cO b t p1 ((1 : Int32) <<< (p2 &&& 31)) hq16) w_X1_moveChildren 0 1 rfl rfl rfl rfl rfl (Nat.le_of_ble_eq_true rfl) dX1_makeRoom_89 ⟨Nat.zero_le _, Nat.zero_le _⟩) rfl ?_
        refine gw_if_eq (tgt := 99) C dX1_makeRoom_92 (by decide) h (fun c17 h => ?_) (fun c17 h => ?_)
        · refine gw_iconst (v := (-1 : Int32)) C dX1_makeRoom_99 rfl ?_
          have h := gw_some h
          have ho := Option.some.inj h
          subst ho
          exact gw_iret C dX1_makeRoom_100
        · refine gw_iload_n C dX1_makeRoom_95 1 rfl ?_
          refine gw_goto (tgt := 100) C dX1_makeRoom_96 (by decide) ?_
          have h := gw_some h
          have ho := Option.some.inj h
          subst ho
          exact gw_iret C dX1_makeRoom_100
      refine gw_icmp_eq (tgt := 84) C dX1_makeRoom_65 (by decide) h (fun c8 h => ?_) (fun c8 h => ?_)
      · refine gw_sub [2, 3, 4] rfl ?_
        exact J7 _ h
      · refine gw_aload_n C dX1_makeRoom_68 2 rfl ?_
        refine gw_iload C dX1_makeRoom_69 0 rfl ?_
        refine gw_whole (st2 := [.int (fT_childrenOf v6 t)]) C (run_V (rest := []) C (c_X1_childrenOf l D cI cJ cO b t v6 rfl) w_X1_childrenOf 0 1 rfl rfl rfl rfl rfl (Nat.le_of_ble_eq_true rfl) dX1_makeRoom_71 ⟨Nat.zero_le _, Nat.zero_le _⟩) rfl ?_
        refine gw_aload_n C dX1_makeRoom_74 2 rfl ?_
        refine gw_iload_n C dX1_makeRoom_75 3 rfl ?_
        refine gw_whole (st2 := [.int (fT_childrenOf p1 t), .int (fT_childrenOf v6 t)]) C (run_V (rest := [.int (fT_childrenOf v6 t)]) C (c_X1_childrenOf l D cI cJ cO b t p1 rfl) w_X1_childrenOf 0 1 rfl rfl rfl rfl rfl (Nat.le_of_ble_eq_true rfl) dX1_makeRoom_76 ⟨Nat.zero_le _, Nat.zero_le _⟩) rfl ?_
        refine gw_iconst (v := (1 : Int32)) C dX1_makeRoom_79 rfl ?_
        refine gw_iadd C dX1_makeRoom_80 ?_
        refine gw_icmp_lt (tgt := 101) C dX1_makeRoom_81 (by decide) h (fun c9 h => ?_) (fun c9 h => ?_)
        · refine gw_aload_n C dX1_makeRoom_101 2 rfl ?_
          refine gw_get C dX1_makeRoom_102 0 1 2 rfl rfl iX1 (by decide) f22 rfl ?_
          refine gw_iload_n C dX1_makeRoom_105 3 rfl ?_
          refine gw_one (st2 := [.int (J_at 160 (tP t) p1)]) (ws' := wT cI cJ b t) C 2 rfl (run_SN (rest := []) C (c_X3_at l D cI cJ cO (b 2) 160 (tP t) p1 (by decide)) n_X3_at rfl rfl (Nat.le_of_ble_eq_true rfl) dX1_makeRoom_106 ⟨Nat.zero_le _, Nat.zero_le _⟩) rfl rfl ?_
          refine gw_iload C dX1_makeRoom_109 0 rfl ?_
          refine gw_lt h (fun j10 ej10 h => ?_)
          have J10 : ∀ v10 : Int32, Rs some o (j10 v10) → gw_G p l e (rmOf 3 72) s m args below meth c D A (CtM D below (some (.int o.1)) (wT cI cJ b o.2) A args s) 7 0 0 (wT cI cJ b t) [(0, .ref (b 0)), (1, .int p1), (4, .int v6)] 119 [.int v10] := by
            intro v10 h
            have h := gw_app ej10 h
            refine gw_istore C dX1_makeRoom_119 [(5, .int v10), (0, .ref (b 0)), (1, .int p1), (4, .int v6)] (by decide) rfl ?_
            refine gw_aload_n C dX1_makeRoom_121 1 rfl ?_
            refine gw_get C dX1_makeRoom_122 0 1 3 rfl rfl iX1 (by decide) f25 rfl ?_
            refine gw_iload_n C dX1_makeRoom_125 2 rfl ?_
            refine gw_one (st2 := [.int (J_at 160 (tB t) p1)]) (ws' := wT cI cJ b t) C 3 rfl (run_SN (rest := []) C (c_X3_at l D cI cJ cO (b 3) 160 (tB t) p1 (by decide)) n_X3_at rfl rfl (Nat.le_of_ble_eq_true rfl) dX1_makeRoom_126 ⟨Nat.zero_le _, Nat.zero_le _⟩) rfl rfl ?_
            refine gw_lt h (fun v12 ev12 h => ?_)
            rw [ev12]
            refine gw_istore C dX1_makeRoom_129 [(6, .int v12), (5, .int v10), (0, .ref (b 0)), (1, .int p1), (4, .int v6)] (by decide) rfl ?_
            refine gw_aload_n C dX1_makeRoom_131 2 rfl ?_
            refine gw_iload C dX1_makeRoom_132 4 rfl ?_
            refine gw_iconst (v := (0 : Int32)) C dX1_makeRoom_134 rfl ?_
            refine gw_bind h (fun q13 hq13 h => ?_)
            refine gw_whole (st2 := [.int q13.1]) C (run_V (rest := []) C (c_X1_moveChildren l D cI cJ cO b t v6 (0 : Int32) hq13) w_X1_moveChildren 0 1 rfl rfl rfl rfl rfl (Nat.le_of_ble_eq_true rfl) dX1_makeRoom_135 ⟨Nat.zero_le _, Nat.zero_le _⟩) rfl ?_
            refine gw_if_ne (tgt := 143) C dX1_makeRoom_138 (by decide) h (fun c14 h => ?_) (fun c14 h => ?_)
            · refine gw_iconst (v := (-1 : Int32)) C dX1_makeRoom_141 rfl ?_
              have h := gw_some h
              have ho := Option.some.inj h
              subst ho
              exact gw_iret C dX1_makeRoom_142
            · refine gw_iload C dX1_makeRoom_143 1 rfl ?_
              refine gw_if_eq (tgt := 163) C dX1_makeRoom_145 (by decide) h (fun c15 h => ?_) (fun c15 h => ?_)
              · refine gw_iload_n C dX1_makeRoom_163 3 rfl ?_
                have h := gw_some h
                have ho := Option.some.inj h
                subst ho
                exact gw_iret C dX1_makeRoom_164
              · refine gw_aload_n C dX1_makeRoom_148 2 rfl ?_
                refine gw_get C dX1_makeRoom_149 0 1 4 rfl rfl iX1 (by decide) f28 rfl ?_
                refine gw_iload C dX1_makeRoom_152 4 rfl ?_
                refine gw_one (st2 := [.int (J_at 160 (tO q13.2) v6)]) (ws' := wT cI cJ b q13.2) C 4 rfl (run_SN (rest := []) C (c_X3_at l D cI cJ cO (b 4) 160 (tO q13.2) v6 (by decide)) n_X3_at rfl rfl (Nat.le_of_ble_eq_true rfl) dX1_makeRoom_154 ⟨Nat.zero_le _, Nat.zero_le _⟩) rfl rfl ?_
                refine gw_iload C dX1_makeRoom_157 0 rfl ?_
                refine gw_iadd C dX1_makeRoom_159 ?_
                refine gw_goto (tgt := 164) C dX1_makeRoom_160 (by decide) ?_
                have h := gw_some h
                have ho := Option.some.inj h
                subst ho
                exact gw_iret C dX1_makeRoom_164
          refine gw_icmp_ne (tgt := 118) C dX1_makeRoom_111 (by decide) h (fun c11 h => ?_) (fun c11 h => ?_)
          · refine gw_iconst (v := (1 : Int32)) C dX1_makeRoom_114 rfl ?_
            refine gw_goto (tgt := 119) C dX1_makeRoom_115 (by decide) ?_
            refine gw_sub [2, 3, 0] rfl ?_
            exact J10 _ h
          · refine gw_iconst (v := (0 : Int32)) C dX1_makeRoom_118 rfl ?_
            refine gw_sub [2, 3, 0] rfl ?_
            exact J10 _ h
        · refine gw_sub [2, 3, 4] rfl ?_
          exact J7 _ h
theorem hd_X1_hangLeaf : yX1_hangLeaf.cls = RX1 ∧ yX1_hangLeaf.cls ≠ "java/lang/invoke/MethodHandle" ∧ yX1_hangLeaf.cls ≠ "java/lang/invoke/VarHandle" ∧ (parseMethodDescriptor yX1_hangLeaf.desc).map (fun d => d.parameters.length) = some 3 := by decide +kernel
set_option maxHeartbeats 4000000 in
set_option maxRecDepth 100000 in
theorem c_X1_hangLeaf (l : Launch) (D : va_G) (cI cJ cO : ClassId) (b : Nat → Nat) (t : TS) (p1 : Int32) (p2 : Int32) (p3 : Int64) {o : Int32 × TS} (h : fT_hangLeaf p1 p2 p3 t = some o) : Ct l D (tysA cI cJ cO) yX1_hangLeaf wsX1_hangLeaf (rmOf 2 47) [.ref (b 0), .int p1, .int p2, .long p3] (wT cI cJ b t) (some (.int o.1)) (wT cI cJ b o.2) := by
  refine Ct_of (own := RX1) cX1_hangLeaf 6 (some .int) (by decide +kernel) rfl rfl (Nat.le_of_ble_eq_true rfl) ?_
  intro p e s m args below meth c A C hnm
  have iX1 : ∀ w ∈ u_ws RX1 TX1 9, w ∈ wsX1_hangLeaf := fun w h => List.mem_cons_of_mem _ (List.mem_append_left _ (List.mem_append_right _ h))
  have f12 : Cond.fieldLink RX1 12 (TX1 0).1 (TX1 0).2.1 (TX1 0).2.2.1 ∈ wsX1_hangLeaf := List.mem_of_getElem? (i := 1) rfl
  have w_X0_keep := cwV (R := (rmOf 2 47)) (rm := rmOf 1 24) (s := s) (args := args) 1 C.1.2.2.2.2 gX1_hangLeaf_X0_keep rfl rfl rfl hd_X0_keep ⟨Nat.le_of_ble_eq_true rfl, Nat.le_of_ble_eq_true rfl⟩
  have w_X1_addBelow := cwV (R := (rmOf 2 47)) (rm := rmOf 1 22) (s := s) (args := args) 2 C.1.2.2.2.2 gX1_hangLeaf_X1_addBelow rfl rfl rfl hd_X1_addBelow ⟨Nat.le_of_ble_eq_true rfl, Nat.le_of_ble_eq_true rfl⟩
  have w_X1_putChild := cwV (R := (rmOf 2 47)) (rm := rmOf 1 22) (s := s) (args := args) 4 C.1.2.2.2.2 gX1_hangLeaf_X1_putChild rfl rfl rfl hd_X1_putChild ⟨Nat.le_of_ble_eq_true rfl, Nat.le_of_ble_eq_true rfl⟩
  have h := gw_top h
  unfold fT_hangLeaf at h
  show gw_G p l e (rmOf 2 47) s m args below meth c D A (CtM D below (some (.int o.1)) (wT cI cJ b o.2) A args s) 6 0 0 (wT cI cJ b t) [(0, .ref (b 0)), (1, .int p1), (2, .int p2), (3, .long p3)] 0 []
  refine gw_iload_n C dX1_hangLeaf_0 1 rfl ?_
  refine gw_iconst (v := (-1 : Int32)) C dX1_hangLeaf_1 rfl ?_
  refine gw_icmp_ne (tgt := 7) C dX1_hangLeaf_2 (by decide) h (fun c1 h => ?_) (fun c1 h => ?_)
  · refine gw_iconst (v := (-1 : Int32)) C dX1_hangLeaf_5 rfl ?_
    have h := gw_some h
    have ho := Option.some.inj h
    subst ho
    exact gw_iret C dX1_hangLeaf_6
  · refine gw_aload_n C dX1_hangLeaf_7 0 rfl ?_
    refine gw_get C dX1_hangLeaf_8 0 1 0 rfl rfl iX1 (by decide) f12 rfl ?_
    refine gw_lload_n C dX1_hangLeaf_11 3 rfl ?_
    refine gw_bind h (fun q2 hq2 h => ?_)
    refine gw_lt h (fun t3 et3 h => ?_)
    refine gw_sub_call (st2 := [.int q2.1]) (ws' := wT cI cJ b t3) C [8, 9, 10] [0, 1, 2, 3, 4, 5, 6, 7] [0, 1, 2, 3, 4, 5, 6, 7, 8, 9, 10] rfl rfl rfl rfl (by decide) (by subst et3; rfl) rfl (run_V (rest := []) C (c_X0_keep l D cI cJ cO (b 8) (b 9) (b 10) (tN t) p3 hq2) w_X0_keep 0 0 rfl rfl rfl rfl rfl (Nat.le_of_ble_eq_true rfl) dX1_hangLeaf_12 ⟨Nat.zero_le _, Nat.zero_le _⟩) rfl ?_
    refine gw_istore C dX1_hangLeaf_15 [(5, .int q2.1), (0, .ref (b 0)), (1, .int p1), (2, .int p2), (3, .long p3)] (by decide) rfl ?_
    refine gw_iload C dX1_hangLeaf_17 0 rfl ?_
    refine gw_iconst (v := (-1 : Int32)) C dX1_hangLeaf_19 rfl ?_
    refine gw_icmp_ne (tgt := 25) C dX1_hangLeaf_20 (by decide) h (fun c4 h => ?_) (fun c4 h => ?_)
    · refine gw_iconst (v := (-1 : Int32)) C dX1_hangLeaf_23 rfl ?_
      have h := gw_some h
      have ho := Option.some.inj h
      subst ho
      exact gw_iret C dX1_hangLeaf_24
    · refine gw_aload_n C dX1_hangLeaf_25 1 rfl ?_
      refine gw_iload_n C dX1_hangLeaf_26 2 rfl ?_
      refine gw_iconst (v := (1 : Int32)) C dX1_hangLeaf_27 rfl ?_
      refine gw_bind h (fun q5 hq5 h => ?_)
      refine gw_whole (st2 := []) C (run_V (rest := []) C (c_X1_addBelow l D cI cJ cO b t3 p1 (1 : Int32) hq5) w_X1_addBelow 0 1 rfl rfl rfl rfl rfl (Nat.le_of_ble_eq_true rfl) dX1_hangLeaf_28 ⟨Nat.zero_le _, Nat.zero_le _⟩) rfl ?_
      refine gw_aload_n C dX1_hangLeaf_31 1 rfl ?_
      refine gw_iload_n C dX1_hangLeaf_32 2 rfl ?_
      refine gw_iload_n C dX1_hangLeaf_33 3 rfl ?_
      refine gw_iconst (v := (2 : Int32)) C dX1_hangLeaf_34 rfl ?_
      refine gw_iload C dX1_hangLeaf_35 0 rfl ?_
      refine gw_lt h (fun q6 hq6 h => ?_)
      refine gw_whole (st2 := [.int q6.1]) C (run_V (rest := []) C (c_X1_putChild l D cI cJ cO b q5 p1 p2 (2 : Int32) q2.1 hq6) w_X1_putChild 0 1 rfl rfl rfl rfl rfl (Nat.le_of_ble_eq_true rfl) dX1_hangLeaf_37 ⟨Nat.zero_le _, Nat.zero_le _⟩) rfl ?_
      have h := gw_some h
      have ho := Option.some.inj h
      subst ho
      exact gw_iret C dX1_hangLeaf_40
theorem hd_X1_fork : yX1_fork.cls = RX1 ∧ yX1_fork.cls ≠ "java/lang/invoke/MethodHandle" ∧ yX1_fork.cls ≠ "java/lang/invoke/VarHandle" ∧ (parseMethodDescriptor yX1_fork.desc).map (fun d => d.parameters.length) = some 3 := by decide +kernel
set_option maxHeartbeats 4000000 in
set_option maxRecDepth 100000 in
theorem c_X1_fork (l : Launch) (D : va_G) (cI cJ cO : ClassId) (b : Nat → Nat) (t : TS) (p1 : Int32) (p2 : Int64) (p3 : Int64) {o : Int32 × TS} (h : fT_fork p1 p2 p3 t = some o) : Ct l D (tysA cI cJ cO) yX1_fork wsX1_fork (rmOf 2 48) [.ref (b 0), .int p1, .long p2, .long p3] (wT cI cJ b t) (some (.int o.1)) (wT cI cJ b o.2) := by
  refine Ct_of (own := RX1) cX1_fork 10 (some .int) (by decide +kernel) rfl rfl (Nat.le_of_ble_eq_true rfl) ?_
  intro p e s m args below meth c A C hnm
  have iX1 : ∀ w ∈ u_ws RX1 TX1 9, w ∈ wsX1_fork := fun w h => List.mem_cons_of_mem _ (List.mem_append_left _ (List.mem_append_right _ h))
  have f12 : Cond.fieldLink RX1 12 (TX1 0).1 (TX1 0).2.1 (TX1 0).2.2.1 ∈ wsX1_fork := List.mem_of_getElem? (i := 1) rfl
  have w_X0_keep := cwV (R := (rmOf 2 48)) (rm := rmOf 1 24) (s := s) (args := args) 1 C.1.2.2.2.2 gX1_fork_X0_keep rfl rfl rfl hd_X0_keep ⟨Nat.le_of_ble_eq_true rfl, Nat.le_of_ble_eq_true rfl⟩
  have w_X1_addBelow := cwV (R := (rmOf 2 48)) (rm := rmOf 1 22) (s := s) (args := args) 2 C.1.2.2.2.2 gX1_fork_X1_addBelow rfl rfl rfl hd_X1_addBelow ⟨Nat.le_of_ble_eq_true rfl, Nat.le_of_ble_eq_true rfl⟩
  have w_X1_placeFirst := cwV (R := (rmOf 2 48)) (rm := rmOf 1 25) (s := s) (args := args) 2 C.1.2.2.2.2 gX1_fork_X1_placeFirst rfl rfl rfl hd_X1_placeFirst ⟨Nat.le_of_ble_eq_true rfl, Nat.le_of_ble_eq_true rfl⟩
  have w_X1_putChild := cwV (R := (rmOf 2 48)) (rm := rmOf 1 22) (s := s) (args := args) 4 C.1.2.2.2.2 gX1_fork_X1_putChild rfl rfl rfl hd_X1_putChild ⟨Nat.le_of_ble_eq_true rfl, Nat.le_of_ble_eq_true rfl⟩
  have w_X2_firstOf := va_cwS (R := (rmOf 2 48)) (rm := rmOf 0 0) (s := s) (args := args) 1 C.1.2.2.2.2 gX1_fork_X2_firstOf rfl rfl rfl hd_X2_firstOf.2 ⟨Nat.le_of_ble_eq_true rfl, Nat.le_of_ble_eq_true rfl⟩
  have w_X2_withoutFirst := va_cwS (R := (rmOf 2 48)) (rm := rmOf 0 0) (s := s) (args := args) 1 C.1.2.2.2.2 gX1_fork_X2_withoutFirst rfl rfl rfl hd_X2_withoutFirst.2 ⟨Nat.le_of_ble_eq_true rfl, Nat.le_of_ble_eq_true rfl⟩
  have h := gw_top h
  unfold fT_fork at h
  show gw_G p l e (rmOf 2 48) s m args below meth c D A (CtM D below (some (.int o.1)) (wT cI cJ b o.2) A args s) 10 0 0 (wT cI cJ b t) [(0, .ref (b 0)), (1, .int p1), (2, .long p2), (4, .long p3)] 0 []
  refine gw_lload_n C dX1_fork_0 2 rfl ?_
  refine gw_none (st2 := [.int (fX_firstOf p2)]) C (run_S (rest := []) C (c_X2_firstOf l D cI cJ cO p2 rfl) w_X2_firstOf rfl rfl (Nat.le_of_ble_eq_true rfl) dX1_fork_1 ⟨Nat.zero_le _, Nat.zero_le _⟩) rfl ?_
  refine gw_lt h (fun v1 ev1 h => ?_)
  rw [ev1]
  refine gw_istore C dX1_fork_4 [(6, .int v1), (0, .ref (b 0)), (1, .int p1), (2, .long p2), (4, .long p3)] (by decide) rfl ?_
  refine gw_lload C dX1_fork_6 4 rfl ?_
  refine gw_none (st2 := [.int (fX_firstOf p3)]) C (run_S (rest := []) C (c_X2_firstOf l D cI cJ cO p3 rfl) w_X2_firstOf rfl rfl (Nat.le_of_ble_eq_true rfl) dX1_fork_8 ⟨Nat.zero_le _, Nat.zero_le _⟩) rfl ?_
  refine gw_lt h (fun v2 ev2 h => ?_)
  rw [ev2]
  refine gw_istore C dX1_fork_11 [(7, .int v2), (6, .int v1), (0, .ref (b 0)), (1, .int p1), (2, .long p2), (4, .long p3)] (by decide) rfl ?_
  refine gw_aload_n C dX1_fork_13 2 rfl ?_
  refine gw_iload_n C dX1_fork_14 3 rfl ?_
  refine gw_iconst (v := (1 : Int32)) C dX1_fork_15 rfl ?_
  refine gw_iload C dX1_fork_16 1 rfl ?_
  refine gw_ishl C dX1_fork_18 ?_
  refine gw_iconst (v := (1 : Int32)) C dX1_fork_19 rfl ?_
  refine gw_iload C dX1_fork_20 0 rfl ?_
  refine gw_ishl C dX1_fork_22 ?_
  refine gw_ior C dX1_fork_23 ?_
  refine gw_bind h (fun q3 hq3 h => ?_)
  refine gw_whole (st2 := [.int q3.1]) C (run_V (rest := []) C (c_X1_placeFirst l D cI cJ cO b t p1 (((1 : Int32) <<< (v1 &&& 31)) ||| ((1 : Int32) <<< (v2 &&& 31))) hq3) w_X1_placeFirst 0 1 rfl rfl rfl rfl rfl (Nat.le_of_ble_eq_true rfl) dX1_fork_24 ⟨Nat.zero_le _, Nat.zero_le _⟩) rfl ?_
  refine gw_if_ne (tgt := 32) C dX1_fork_27 (by decide) h (fun c4 h => ?_) (fun c4 h => ?_)
  · refine gw_iconst (v := (-1 : Int32)) C dX1_fork_30 rfl ?_
    have h := gw_some h
    have ho := Option.some.inj h
    subst ho
    exact gw_iret C dX1_fork_31
  · refine gw_aload_n C dX1_fork_32 2 rfl ?_
    refine gw_get C dX1_fork_33 0 1 0 rfl rfl iX1 (by decide) f12 rfl ?_
    refine gw_lload_n C dX1_fork_36 4 rfl ?_
    refine gw_none (st2 := [.long (fX_withoutFirst p2), .ref (b 8)]) C (run_S (rest := [.ref (b 8)]) C (c_X2_withoutFirst l D cI cJ cO p2 rfl) w_X2_withoutFirst rfl rfl (Nat.le_of_ble_eq_true rfl) dX1_fork_37 ⟨Nat.zero_le _, Nat.zero_le _⟩) rfl ?_
    refine gw_bind h (fun q5 hq5 h => ?_)
    refine gw_lt h (fun t6 et6 h => ?_)
    refine gw_sub_call (st2 := [.int q5.1]) (ws' := wT cI cJ b t6) C [8, 9, 10] [0, 1, 2, 3, 4, 5, 6, 7] [0, 1, 2, 3, 4, 5, 6, 7, 8, 9, 10] rfl rfl rfl rfl (by decide) (by subst et6; rfl) rfl (run_V (rest := []) C (c_X0_keep l D cI cJ cO (b 8) (b 9) (b 10) (tN q3.2) (fX_withoutFirst p2) hq5) w_X0_keep 0 0 rfl rfl rfl rfl rfl (Nat.le_of_ble_eq_true rfl) dX1_fork_40 ⟨Nat.zero_le _, Nat.zero_le _⟩) rfl ?_
    refine gw_istore C dX1_fork_43 [(8, .int q5.1), (7, .int v2), (6, .int v1), (0, .ref (b 0)), (1, .int p1), (2, .long p2), (4, .long p3)] (by decide) rfl ?_
    refine gw_aload_n C dX1_fork_45 3 rfl ?_
    refine gw_get C dX1_fork_46 0 1 0 rfl rfl iX1 (by decide) f12 rfl ?_
    refine gw_lload C dX1_fork_49 6 rfl ?_
    refine gw_none (st2 := [.long (fX_withoutFirst p3), .ref (b 8)]) C (run_S (rest := [.ref (b 8)]) C (c_X2_withoutFirst l D cI cJ cO p3 rfl) w_X2_withoutFirst rfl rfl (Nat.le_of_ble_eq_true rfl) dX1_fork_51 ⟨Nat.zero_le _, Nat.zero_le _⟩) rfl ?_
    refine gw_bind h (fun q7 hq7 h => ?_)
    refine gw_lt h (fun t8 et8 h => ?_)
    refine gw_sub_call (st2 := [.int q7.1]) (ws' := wT cI cJ b t8) C [8, 9, 10] [0, 1, 2, 3, 4, 5, 6, 7] [0, 1, 2, 3, 4, 5, 6, 7, 8, 9, 10] rfl rfl rfl rfl (by decide) (by subst et8; rfl) rfl (run_V (rest := []) C (c_X0_keep l D cI cJ cO (b 8) (b 9) (b 10) (tN t6) (fX_withoutFirst p3) hq7) w_X0_keep 0 0 rfl rfl rfl rfl rfl (Nat.le_of_ble_eq_true rfl) dX1_fork_54 ⟨Nat.zero_le _, Nat.zero_le _⟩) rfl ?_
    refine gw_istore C dX1_fork_57 [(9, .int q7.1), (8, .int q5.1), (7, .int v2), (6, .int v1), (0, .ref (b 0)), (1, .int p1), (2, .long p2), (4, .long p3)] (by decide) rfl ?_
    refine gw_iload C dX1_fork_59 1 rfl ?_
    refine gw_iconst (v := (-1 : Int32)) C dX1_fork_61 rfl ?_
    refine gw_icmp_eq (tgt := 71) C dX1_fork_62 (by decide) h (fun c9 h => ?_) (fun c9 h => ?_)
    · refine gw_iconst (v := (-1 : Int32)) C dX1_fork_71 rfl ?_
      have h := gw_some h
      have ho := Option.some.inj h
      subst ho
      exact gw_iret C dX1_fork_72
    · refine gw_iload C dX1_fork_65 0 rfl ?_
      refine gw_iconst (v := (-1 : Int32)) C dX1_fork_67 rfl ?_
      refine gw_icmp_ne (tgt := 73) C dX1_fork_68 (by decide) h (fun c10 h => ?_) (fun c10 h => ?_)
      · refine gw_iconst (v := (-1 : Int32)) C dX1_fork_71 rfl ?_
        have h := gw_some h
        have ho := Option.some.inj h
        subst ho
        exact gw_iret C dX1_fork_72
      · refine gw_aload_n C dX1_fork_73 4 rfl ?_
        refine gw_iload_n C dX1_fork_74 5 rfl ?_
        refine gw_iconst (v := (1 : Int32)) C dX1_fork_75 rfl ?_
        refine gw_bind h (fun q11 hq11 h => ?_)
        refine gw_whole (st2 := []) C (run_V (rest := []) C (c_X1_addBelow l D cI cJ cO b t8 p1 (1 : Int32) hq11) w_X1_addBelow 0 1 rfl rfl rfl rfl rfl (Nat.le_of_ble_eq_true rfl) dX1_fork_76 ⟨Nat.zero_le _, Nat.zero_le _⟩) rfl ?_
        refine gw_aload_n C dX1_fork_79 4 rfl ?_
        refine gw_iload_n C dX1_fork_80 5 rfl ?_
        refine gw_iload C dX1_fork_81 3 rfl ?_
        refine gw_iconst (v := (2 : Int32)) C dX1_fork_83 rfl ?_
        refine gw_iload C dX1_fork_84 1 rfl ?_
        refine gw_lt h (fun q12 hq12 h => ?_)
        refine gw_whole (st2 := [.int q12.1]) C (run_V (rest := []) C (c_X1_putChild l D cI cJ cO b q11 p1 v1 (2 : Int32) q5.1 hq12) w_X1_putChild 0 1 rfl rfl rfl rfl rfl (Nat.le_of_ble_eq_true rfl) dX1_fork_86 ⟨Nat.zero_le _, Nat.zero_le _⟩) rfl ?_
        refine gw_pop C dX1_fork_89 rfl ?_
        refine gw_aload_n C dX1_fork_90 4 rfl ?_
        refine gw_iload_n C dX1_fork_91 5 rfl ?_
        refine gw_iload C dX1_fork_92 2 rfl ?_
        refine gw_iconst (v := (2 : Int32)) C dX1_fork_94 rfl ?_
        refine gw_iload C dX1_fork_95 0 rfl ?_
        refine gw_lt h (fun q13 hq13 h => ?_)
        refine gw_whole (st2 := [.int q13.1]) C (run_V (rest := []) C (c_X1_putChild l D cI cJ cO b q12.2 p1 v2 (2 : Int32) q7.1 hq13) w_X1_putChild 0 1 rfl rfl rfl rfl rfl (Nat.le_of_ble_eq_true rfl) dX1_fork_97 ⟨Nat.zero_le _, Nat.zero_le _⟩) rfl ?_
        have h := gw_some h
        have ho := Option.some.inj h
        subst ho
        exact gw_iret C dX1_fork_100
theorem hd_X1_splitLeaf : yX1_splitLeaf.cls = RX1 ∧ yX1_splitLeaf.cls ≠ "java/lang/invoke/MethodHandle" ∧ yX1_splitLeaf.cls ≠ "java/lang/invoke/VarHandle" ∧ (parseMethodDescriptor yX1_splitLeaf.desc).map (fun d => d.parameters.length) = some 2 := by decide +kernel
set_option maxHeartbeats 4000000 in
set_option maxRecDepth 100000 in
theorem c_X1_splitLeaf (l : Launch) (D : va_G) (cI cJ cO : ClassId) (b : Nat → Nat) (t : TS) (p1 : Int32) (p2 : Int64) {o : Int32 × TS} (h : fT_splitLeaf p1 p2 t = some o) : Ct l D (tysA cI cJ cO) yX1_splitLeaf wsX1_splitLeaf (rmOf 3 77) [.ref (b 0), .int p1, .long p2] (wT cI cJ b t) (some (.int o.1)) (wT cI cJ b o.2) := by
  refine Ct_of (own := RX1) cX1_splitLeaf 11 (some .int) (by decide +kernel) rfl rfl (Nat.le_of_ble_eq_true rfl) ?_
  intro p e s m args below meth c A C hnm
  have iX1 : ∀ w ∈ u_ws RX1 TX1 9, w ∈ wsX1_splitLeaf := fun w h => List.mem_cons_of_mem _ (List.mem_append_left _ (List.mem_append_right _ h))
  have f12 : Cond.fieldLink RX1 12 (TX1 0).1 (TX1 0).2.1 (TX1 0).2.2.1 ∈ wsX1_splitLeaf := List.mem_of_getElem? (i := 1) rfl
  have f18 : Cond.fieldLink RX1 18 (TX1 1).1 (TX1 1).2.1 (TX1 1).2.2.1 ∈ wsX1_splitLeaf := List.mem_of_getElem? (i := 3) rfl
  have f31 : Cond.fieldLink RX1 31 (TX1 5).1 (TX1 5).2.1 (TX1 5).2.2.1 ∈ wsX1_splitLeaf := List.mem_of_getElem? (i := 2) rfl
  have w_X0_release := cwV (R := (rmOf 3 77)) (rm := rmOf 1 22) (s := s) (args := args) 1 C.1.2.2.2.2 gX1_splitLeaf_X0_release rfl rfl rfl hd_X0_release ⟨Nat.le_of_ble_eq_true rfl, Nat.le_of_ble_eq_true rfl⟩
  have w_X0_textAt := cwV (R := (rmOf 3 77)) (rm := rmOf 0 0) (s := s) (args := args) 1 C.1.2.2.2.2 gX1_splitLeaf_X0_textAt rfl rfl rfl hd_X0_textAt ⟨Nat.le_of_ble_eq_true rfl, Nat.le_of_ble_eq_true rfl⟩
  have w_X1_fork := cwV (R := (rmOf 3 77)) (rm := rmOf 2 48) (s := s) (args := args) 3 C.1.2.2.2.2 gX1_splitLeaf_X1_fork rfl rfl rfl hd_X1_fork ⟨Nat.le_of_ble_eq_true rfl, Nat.le_of_ble_eq_true rfl⟩
  have w_X1_placeFirst := cwV (R := (rmOf 3 77)) (rm := rmOf 1 25) (s := s) (args := args) 2 C.1.2.2.2.2 gX1_splitLeaf_X1_placeFirst rfl rfl rfl hd_X1_placeFirst ⟨Nat.le_of_ble_eq_true rfl, Nat.le_of_ble_eq_true rfl⟩
  have w_X1_putChild := cwV (R := (rmOf 3 77)) (rm := rmOf 1 22) (s := s) (args := args) 4 C.1.2.2.2.2 gX1_splitLeaf_X1_putChild rfl rfl rfl hd_X1_putChild ⟨Nat.le_of_ble_eq_true rfl, Nat.le_of_ble_eq_true rfl⟩
  have w_X2_firstOf := va_cwS (R := (rmOf 3 77)) (rm := rmOf 0 0) (s := s) (args := args) 1 C.1.2.2.2.2 gX1_splitLeaf_X2_firstOf rfl rfl rfl hd_X2_firstOf.2 ⟨Nat.le_of_ble_eq_true rfl, Nat.le_of_ble_eq_true rfl⟩
  have w_X2_withoutFirst := va_cwS (R := (rmOf 3 77)) (rm := rmOf 0 0) (s := s) (args := args) 1 C.1.2.2.2.2 gX1_splitLeaf_X2_withoutFirst rfl rfl rfl hd_X2_withoutFirst.2 ⟨Nat.le_of_ble_eq_true rfl, Nat.le_of_ble_eq_true rfl⟩
  have n_X3_at := gw_cn (R := (rmOf 3 77)) (rm := rmOf 0 0) (index := 85) (n := 2) C gX1_splitLeaf_X3_at_n85 rfl rfl rfl (by simp [nestW]) (List.mem_of_getElem? (i := 5) rfl) (List.mem_of_getElem? (i := 4) rfl) hd_X3_at.2 ⟨Nat.le_of_ble_eq_true rfl, Nat.le_of_ble_eq_true rfl⟩
  have n_X3_put := gw_cn (R := (rmOf 3 77)) (rm := rmOf 0 0) (index := 50) (n := 3) C gX1_splitLeaf_X3_put_n50 rfl rfl rfl (by simp [nestW]) (List.mem_of_getElem? (i := 5) rfl) (List.mem_of_getElem? (i := 18) rfl) hd_X3_put.2 ⟨Nat.le_of_ble_eq_true rfl, Nat.le_of_ble_eq_true rfl⟩
  have h := gw_top h
  unfold fT_splitLeaf at h
  show gw_G p l e (rmOf 3 77) s m args below meth c D A (CtM D below (some (.int o.1)) (wT cI cJ b o.2) A args s) 11 0 0 (wT cI cJ b t) [(0, .ref (b 0)), (1, .int p1), (2, .long p2)] 0 []
  refine gw_aload_n C dX1_splitLeaf_0 0 rfl ?_
  refine gw_get C dX1_splitLeaf_1 0 1 0 rfl rfl iX1 (by decide) f12 rfl ?_
  refine gw_aload_n C dX1_splitLeaf_4 0 rfl ?_
  refine gw_get C dX1_splitLeaf_5 0 1 5 rfl rfl iX1 (by decide) f31 rfl ?_
  refine gw_iload_n C dX1_splitLeaf_8 1 rfl ?_
  refine gw_one (st2 := [.int (J_at 160 (tE t) p1), .ref (b 8)]) (ws' := wT cI cJ b t) C 5 rfl (run_SN (rest := [.ref (b 8)]) C (c_X3_at l D cI cJ cO (b 5) 160 (tE t) p1 (by decide)) n_X3_at rfl rfl (Nat.le_of_ble_eq_true rfl) dX1_splitLeaf_9 ⟨Nat.zero_le _, Nat.zero_le _⟩) rfl rfl ?_
  refine gw_bind h (fun q1 hq1 h => ?_)
  refine gw_sub_call (st2 := [.long q1]) (ws' := wT cI cJ b t) C [8, 9, 10] [0, 1, 2, 3, 4, 5, 6, 7] [0, 1, 2, 3, 4, 5, 6, 7, 8, 9, 10] rfl rfl rfl rfl (by decide) rfl rfl (run_V (rest := []) C (c_X0_textAt l D cI cJ cO (b 8) (b 9) (b 10) (tN t) (J_at 160 (tE t) p1) hq1) w_X0_textAt 0 0 rfl rfl rfl rfl rfl (Nat.le_of_ble_eq_true rfl) dX1_splitLeaf_12 ⟨Nat.zero_le _, Nat.zero_le _⟩) rfl ?_
  refine gw_lstore C dX1_splitLeaf_15 [(4, .long q1), (0, .ref (b 0)), (1, .int p1), (2, .long p2)] (by decide) rfl ?_
  refine gw_lload_n C dX1_splitLeaf_17 3 rfl ?_
  refine gw_lstore C dX1_splitLeaf_18 [(6, .long p2), (4, .long q1), (0, .ref (b 0)), (1, .int p1), (2, .long p2)] (by decide) rfl ?_
  refine gw_aload_n C dX1_splitLeaf_20 2 rfl ?_
  refine gw_get C dX1_splitLeaf_21 0 1 0 rfl rfl iX1 (by decide) f12 rfl ?_
  refine gw_aload_n C dX1_splitLeaf_24 2 rfl ?_
  refine gw_get C dX1_splitLeaf_25 0 1 5 rfl rfl iX1 (by decide) f31 rfl ?_
  refine gw_iload_n C dX1_splitLeaf_28 3 rfl ?_
  refine gw_one (st2 := [.int (J_at 160 (tE t) p1), .ref (b 8)]) (ws' := wT cI cJ b t) C 5 rfl (run_SN (rest := [.ref (b 8)]) C (c_X3_at l D cI cJ cO (b 5) 160 (tE t) p1 (by decide)) n_X3_at rfl rfl (Nat.le_of_ble_eq_true rfl) dX1_splitLeaf_29 ⟨Nat.zero_le _, Nat.zero_le _⟩) rfl rfl ?_
  refine gw_bind h (fun q2 hq2 h => ?_)
  refine gw_lt h (fun t3 et3 h => ?_)
  refine gw_sub_call (st2 := []) (ws' := wT cI cJ b t3) C [8, 9, 10] [0, 1, 2, 3, 4, 5, 6, 7] [0, 1, 2, 3, 4, 5, 6, 7, 8, 9, 10] rfl rfl rfl rfl (by decide) (by subst et3; rfl) rfl (run_V (rest := []) C (c_X0_release l D cI cJ cO (b 8) (b 9) (b 10) (tN t) (J_at 160 (tE t) p1) hq2) w_X0_release 0 0 rfl rfl rfl rfl rfl (Nat.le_of_ble_eq_true rfl) dX1_splitLeaf_32 ⟨Nat.zero_le _, Nat.zero_le _⟩) rfl ?_
  refine gw_aload_n C dX1_splitLeaf_35 2 rfl ?_
  refine gw_get C dX1_splitLeaf_36 0 1 1 rfl rfl iX1 (by decide) f18 rfl ?_
  refine gw_iload_n C dX1_splitLeaf_39 3 rfl ?_
  refine gw_iconst (v := (1 : Int32)) C dX1_splitLeaf_40 rfl ?_
  refine gw_lt h (fun t4 et4 h => ?_)
  refine gw_one (st2 := []) (ws' := wT cI cJ b t4) C 1 rfl (run_SN (rest := []) C (c_X3_put l D cI cJ cO (b 1) 160 (tK t3) p1 (1 : Int32) (by decide)) n_X3_put rfl rfl (Nat.le_of_ble_eq_true rfl) dX1_splitLeaf_41 ⟨Nat.zero_le _, Nat.zero_le _⟩) (by subst et4; rfl) rfl ?_
  refine gw_aload_n C dX1_splitLeaf_44 2 rfl ?_
  refine gw_get C dX1_splitLeaf_45 0 1 5 rfl rfl iX1 (by decide) f31 rfl ?_
  refine gw_iload_n C dX1_splitLeaf_48 3 rfl ?_
  refine gw_iconst (v := (-1 : Int32)) C dX1_splitLeaf_49 rfl ?_
  refine gw_lt h (fun t5 et5 h => ?_)
  refine gw_one (st2 := []) (ws' := wT cI cJ b t5) C 5 rfl (run_SN (rest := []) C (c_X3_put l D cI cJ cO (b 5) 160 (tE t4) p1 (-1 : Int32) (by decide)) n_X3_put rfl rfl (Nat.le_of_ble_eq_true rfl) dX1_splitLeaf_50 ⟨Nat.zero_le _, Nat.zero_le _⟩) (by subst et5; rfl) rfl ?_
  refine gw_iload_n C dX1_splitLeaf_53 3 rfl ?_
  refine gw_istore C dX1_splitLeaf_54 [(8, .int p1), (6, .long p2), (4, .long q1), (0, .ref (b 0)), (1, .int p1), (2, .long p2)] (by decide) rfl ?_
  refine gw_iconst (v := (0 : Int32)) C dX1_splitLeaf_56 rfl ?_
  refine gw_istore C dX1_splitLeaf_57 [(9, .int (0 : Int32)), (8, .int p1), (6, .long p2), (4, .long q1), (0, .ref (b 0)), (1, .int p1), (2, .long p2)] (by decide) rfl ?_
  refine gw_sub [4, 3, 2, 1, 0] rfl ?_
  refine gw_lpt (x0 := (q1, p2, p1, (0 : Int32), t5)) (Go := fun x6 : Int64 × Int64 × Int32 × Int32 × TS => gw_G p l e (rmOf 3 77) s m args below meth c D A (CtM D below (some (.int o.1)) (wT cI cJ b o.2) A args s) 11 0 0 (wT cI cJ b x6.2.2.2.2) [(0, .ref (b 0)), (4, .long x6.1), (6, .long x6.2.1), (8, .int x6.2.2.1), (9, .int x6.2.2.2.1)] 59 []) h (fun x6 K6 X6 I6 h => ?_)
  refine gw_iload C dX1_splitLeaf_59 4 rfl ?_
  refine gw_bipush (v := (12 : Int32)) C dX1_splitLeaf_61 rfl ?_
  refine gw_lt h (fun j7 ej7 h => ?_)
  have J7 : ∀ v7 : Unit, Rs K6 o (j7 v7) → gw_G p l e (rmOf 3 77) s m args below meth c D A (CtM D below (some (.int o.1)) (wT cI cJ b o.2) A args s) 11 0 0 (wT cI cJ b x6.2.2.2.2) [(0, .ref (b 0)), (4, .long x6.1), (6, .long x6.2.1), (8, .int x6.2.2.1)] 133 [] := by
    intro v7 h
    have h := gw_app ej7 h
    refine gw_aload_n C dX1_splitLeaf_133 0 rfl ?_
    refine gw_iload C dX1_splitLeaf_134 3 rfl ?_
    refine gw_lload C dX1_splitLeaf_136 1 rfl ?_
    refine gw_lload C dX1_splitLeaf_138 2 rfl ?_
    refine gw_bind h (fun q16 hq16 h => ?_)
    refine gw_whole (st2 := [.int q16.1]) C (run_V (rest := []) C (c_X1_fork l D cI cJ cO b x6.2.2.2.2 x6.2.2.1 x6.1 x6.2.1 hq16) w_X1_fork 0 1 rfl rfl rfl rfl rfl (Nat.le_of_ble_eq_true rfl) dX1_splitLeaf_140 ⟨Nat.zero_le _, Nat.zero_le _⟩) rfl ?_
    have h := gw_some h
    have h := X6 _ h
    have ho := Option.some.inj h
    subst ho
    exact gw_iret C dX1_splitLeaf_143
  refine gw_icmp_ge (tgt := 133) C dX1_splitLeaf_63 (by decide) h (fun c8 h => ?_) (fun c8 h => ?_)
  · refine gw_sub [0, 1, 2, 3] rfl ?_
    exact J7 _ h
  · refine gw_lload C dX1_splitLeaf_66 1 rfl ?_
    refine gw_none (st2 := [.int (fX_firstOf x6.1)]) C (run_S (rest := []) C (c_X2_firstOf l D cI cJ cO x6.1 rfl) w_X2_firstOf rfl rfl (Nat.le_of_ble_eq_true rfl) dX1_splitLeaf_68 ⟨Nat.zero_le _, Nat.zero_le _⟩) rfl ?_
    refine gw_lload C dX1_splitLeaf_71 2 rfl ?_
    refine gw_none (st2 := [.int (fX_firstOf x6.2.1), .int (fX_firstOf x6.1)]) C (run_S (rest := [.int (fX_firstOf x6.1)]) C (c_X2_firstOf l D cI cJ cO x6.2.1 rfl) w_X2_firstOf rfl rfl (Nat.le_of_ble_eq_true rfl) dX1_splitLeaf_73 ⟨Nat.zero_le _, Nat.zero_le _⟩) rfl ?_
    refine gw_icmp_ne (tgt := 133) C dX1_splitLeaf_76 (by decide) h (fun c9 h => ?_) (fun c9 h => ?_)
    · refine gw_lload C dX1_splitLeaf_79 1 rfl ?_
      refine gw_none (st2 := [.int (fX_firstOf x6.1)]) C (run_S (rest := []) C (c_X2_firstOf l D cI cJ cO x6.1 rfl) w_X2_firstOf rfl rfl (Nat.le_of_ble_eq_true rfl) dX1_splitLeaf_81 ⟨Nat.zero_le _, Nat.zero_le _⟩) rfl ?_
      refine gw_lt h (fun v10 ev10 h => ?_)
      rw [ev10]
      refine gw_istore C dX1_splitLeaf_84 [(10, .int v10), (0, .ref (b 0)), (4, .long x6.1), (6, .long x6.2.1), (8, .int x6.2.2.1), (9, .int x6.2.2.2.1)] (by decide) rfl ?_
      refine gw_aload_n C dX1_splitLeaf_86 1 rfl ?_
      refine gw_iload C dX1_splitLeaf_87 4 rfl ?_
      refine gw_iconst (v := (1 : Int32)) C dX1_splitLeaf_89 rfl ?_
      refine gw_iload C dX1_splitLeaf_90 0 rfl ?_
      refine gw_ishl C dX1_splitLeaf_92 ?_
      refine gw_bind h (fun q11 hq11 h => ?_)
      refine gw_whole (st2 := [.int q11.1]) C (run_V (rest := []) C (c_X1_placeFirst l D cI cJ cO b x6.2.2.2.2 x6.2.2.1 ((1 : Int32) <<< (v10 &&& 31)) hq11) w_X1_placeFirst 0 1 rfl rfl rfl rfl rfl (Nat.le_of_ble_eq_true rfl) dX1_splitLeaf_93 ⟨Nat.zero_le _, Nat.zero_le _⟩) rfl ?_
      refine gw_if_ne (tgt := 101) C dX1_splitLeaf_96 (by decide) h (fun c12 h => ?_) (fun c12 h => ?_)
      · refine gw_iconst (v := (-1 : Int32)) C dX1_splitLeaf_99 rfl ?_
        have h := gw_some h
        have h := X6 _ h
        have ho := Option.some.inj h
        subst ho
        exact gw_iret C dX1_splitLeaf_100
      · refine gw_aload_n C dX1_splitLeaf_101 1 rfl ?_
        refine gw_iload C dX1_splitLeaf_102 4 rfl ?_
        refine gw_iload C dX1_splitLeaf_104 0 rfl ?_
        refine gw_iconst (v := (1 : Int32)) C dX1_splitLeaf_106 rfl ?_
        refine gw_iconst (v := (-1 : Int32)) C dX1_splitLeaf_107 rfl ?_
        refine gw_lt h (fun q13 hq13 h => ?_)
        refine gw_whole (st2 := [.int q13.1]) C (run_V (rest := []) C (c_X1_putChild l D cI cJ cO b q11.2 x6.2.2.1 v10 (1 : Int32) (-1 : Int32) hq13) w_X1_putChild 0 1 rfl rfl rfl rfl rfl (Nat.le_of_ble_eq_true rfl) dX1_splitLeaf_108 ⟨Nat.zero_le _, Nat.zero_le _⟩) rfl ?_
        refine gw_istore C dX1_splitLeaf_111 [(8, .int q13.1), (10, .int v10), (0, .ref (b 0)), (4, .long x6.1), (6, .long x6.2.1), (9, .int x6.2.2.2.1)] (by decide) rfl ?_
        refine gw_lload C dX1_splitLeaf_113 3 rfl ?_
        refine gw_none (st2 := [.long (fX_withoutFirst x6.1)]) C (run_S (rest := []) C (c_X2_withoutFirst l D cI cJ cO x6.1 rfl) w_X2_withoutFirst rfl rfl (Nat.le_of_ble_eq_true rfl) dX1_splitLeaf_115 ⟨Nat.zero_le _, Nat.zero_le _⟩) rfl ?_
        refine gw_lt h (fun v14 ev14 h => ?_)
        rw [ev14]
        refine gw_lstore C dX1_splitLeaf_118 [(4, .long v14), (8, .int q13.1), (10, .int v10), (0, .ref (b 0)), (6, .long x6.2.1), (9, .int x6.2.2.2.1)] (by decide) rfl ?_
        refine gw_lload C dX1_splitLeaf_120 4 rfl ?_
        refine gw_none (st2 := [.long (fX_withoutFirst x6.2.1)]) C (run_S (rest := []) C (c_X2_withoutFirst l D cI cJ cO x6.2.1 rfl) w_X2_withoutFirst rfl rfl (Nat.le_of_ble_eq_true rfl) dX1_splitLeaf_122 ⟨Nat.zero_le _, Nat.zero_le _⟩) rfl ?_
        refine gw_lt h (fun v15 ev15 h => ?_)
        rw [ev15]
        refine gw_lstore C dX1_splitLeaf_125 [(6, .long v15), (4, .long v14), (8, .int q13.1), (10, .int v10), (0, .ref (b 0)), (9, .int x6.2.2.2.1)] (by decide) rfl ?_
        refine gw_iinc (v := (x6.2.2.2.1 + (1 : Int32))) C dX1_splitLeaf_127 [(9, .int (x6.2.2.2.1 + (1 : Int32))), (6, .long v15), (4, .long v14), (8, .int q13.1), (10, .int v10), (0, .ref (b 0))] 5 rfl rfl (by decide) rfl ?_
        refine gw_goto (tgt := 59) C dX1_splitLeaf_130 (by decide) ?_
        refine gw_sub [5, 2, 1, 3, 0] rfl ?_
        have h := gw_some h
        exact I6 _ h
    · refine gw_sub [0, 1, 2, 3] rfl ?_
      exact J7 _ h
theorem hd_X1_insert : yX1_insert.cls = RX1 ∧ yX1_insert.cls ≠ "java/lang/invoke/MethodHandle" ∧ yX1_insert.cls ≠ "java/lang/invoke/VarHandle" ∧ (parseMethodDescriptor yX1_insert.desc).map (fun d => d.parameters.length) = some 1 := by decide +kernel
set_option maxHeartbeats 4000000 in
set_option maxRecDepth 100000 in
theorem c_X1_insert (l : Launch) (D : va_G) (cI cJ cO : ClassId) (b : Nat → Nat) (t : TS) (p1 : Int64) {o : Int32 × TS} (h : fT_insert p1 t = some o) : Ct l D (tysA cI cJ cO) yX1_insert wsX1_insert (rmOf 4 107) [.ref (b 0), .long p1] (wT cI cJ b t) (some (.int o.1)) (wT cI cJ b o.2) := by
  refine Ct_of (own := RX1) cX1_insert 9 (some .int) (by decide +kernel) rfl rfl (Nat.le_of_ble_eq_true rfl) ?_
  intro p e s m args below meth c A C hnm
  have iX1 : ∀ w ∈ u_ws RX1 TX1 9, w ∈ wsX1_insert := fun w h => List.mem_cons_of_mem _ (List.mem_append_left _ (List.mem_append_right _ h))
  have f18 : Cond.fieldLink RX1 18 (TX1 1).1 (TX1 1).2.1 (TX1 1).2.2.1 ∈ wsX1_insert := List.mem_of_getElem? (i := 1) rfl
  have w_X1_childOf := cwV (R := (rmOf 4 107)) (rm := rmOf 1 21) (s := s) (args := args) 2 C.1.2.2.2.2 gX1_insert_X1_childOf rfl rfl rfl hd_X1_childOf ⟨Nat.le_of_ble_eq_true rfl, Nat.le_of_ble_eq_true rfl⟩
  have w_X1_hangLeaf := cwV (R := (rmOf 4 107)) (rm := rmOf 2 47) (s := s) (args := args) 3 C.1.2.2.2.2 gX1_insert_X1_hangLeaf rfl rfl rfl hd_X1_hangLeaf ⟨Nat.le_of_ble_eq_true rfl, Nat.le_of_ble_eq_true rfl⟩
  have w_X1_makeRoom := cwV (R := (rmOf 4 107)) (rm := rmOf 3 72) (s := s) (args := args) 2 C.1.2.2.2.2 gX1_insert_X1_makeRoom rfl rfl rfl hd_X1_makeRoom ⟨Nat.le_of_ble_eq_true rfl, Nat.le_of_ble_eq_true rfl⟩
  have w_X1_splitLeaf := cwV (R := (rmOf 4 107)) (rm := rmOf 3 77) (s := s) (args := args) 2 C.1.2.2.2.2 gX1_insert_X1_splitLeaf rfl rfl rfl hd_X1_splitLeaf ⟨Nat.le_of_ble_eq_true rfl, Nat.le_of_ble_eq_true rfl⟩
  have w_X2_firstOf := va_cwS (R := (rmOf 4 107)) (rm := rmOf 0 0) (s := s) (args := args) 1 C.1.2.2.2.2 gX1_insert_X2_firstOf rfl rfl rfl hd_X2_firstOf.2 ⟨Nat.le_of_ble_eq_true rfl, Nat.le_of_ble_eq_true rfl⟩
  have w_X2_withoutFirst := va_cwS (R := (rmOf 4 107)) (rm := rmOf 0 0) (s := s) (args := args) 1 C.1.2.2.2.2 gX1_insert_X2_withoutFirst rfl rfl rfl hd_X2_withoutFirst.2 ⟨Nat.le_of_ble_eq_true rfl, Nat.le_of_ble_eq_true rfl⟩
  have n_X3_at := gw_cn (R := (rmOf 4 107)) (rm := rmOf 0 0) (index := 85) (n := 2) C gX1_insert_X3_at_n85 rfl rfl rfl (by simp [nestW]) (List.mem_of_getElem? (i := 3) rfl) (List.mem_of_getElem? (i := 2) rfl) hd_X3_at.2 ⟨Nat.le_of_ble_eq_true rfl, Nat.le_of_ble_eq_true rfl⟩
  have h := gw_top h
  unfold fT_insert at h
  show gw_G p l e (rmOf 4 107) s m args below meth c D A (CtM D below (some (.int o.1)) (wT cI cJ b o.2) A args s) 9 0 0 (wT cI cJ b t) [(0, .ref (b 0)), (1, .long p1)] 0 []
  refine gw_iconst (v := (0 : Int32)) C dX1_insert_0 rfl ?_
  refine gw_istore_n C dX1_insert_1 [(3, .int (0 : Int32)), (0, .ref (b 0)), (1, .long p1)] rfl (by decide) rfl ?_
  refine gw_lload_n C dX1_insert_2 2 rfl ?_
  refine gw_lstore C dX1_insert_3 [(4, .long p1), (3, .int (0 : Int32)), (0, .ref (b 0)), (1, .long p1)] (by decide) rfl ?_
  refine gw_iconst (v := (0 : Int32)) C dX1_insert_5 rfl ?_
  refine gw_istore C dX1_insert_6 [(6, .int (0 : Int32)), (4, .long p1), (3, .int (0 : Int32)), (0, .ref (b 0)), (1, .long p1)] (by decide) rfl ?_
  refine gw_sub [3, 2, 1, 0] rfl ?_
  refine gw_lpt (x0 := ((0 : Int32), p1, (0 : Int32))) (Go := fun x1 : Int32 × Int64 × Int32 => gw_G p l e (rmOf 4 107) s m args below meth c D A (CtM D below (some (.int o.1)) (wT cI cJ b o.2) A args s) 9 0 0 (wT cI cJ b t) [(0, .ref (b 0)), (3, .int x1.1), (4, .long x1.2.1), (6, .int x1.2.2)] 8 []) h (fun x1 K1 X1 I1 h => ?_)
  refine gw_iload C dX1_insert_8 3 rfl ?_
  refine gw_bipush (v := (12 : Int32)) C dX1_insert_10 rfl ?_
  refine gw_icmp_gt (tgt := 89) C dX1_insert_12 (by decide) h (fun c2 h => ?_) (fun c2 h => ?_)
  · refine gw_iconst (v := (-1 : Int32)) C dX1_insert_89 rfl ?_
    have h := gw_some h
    have h := X1 _ h
    have ho := Option.some.inj h
    subst ho
    exact gw_iret C dX1_insert_90
  · refine gw_aload_n C dX1_insert_15 0 rfl ?_
    refine gw_get C dX1_insert_16 0 1 1 rfl rfl iX1 (by decide) f18 rfl ?_
    refine gw_iload_n C dX1_insert_19 1 rfl ?_
    refine gw_one (st2 := [.int (J_at 160 (tK t) x1.1)]) (ws' := wT cI cJ b t) C 1 rfl (run_SN (rest := []) C (c_X3_at l D cI cJ cO (b 1) 160 (tK t) x1.1 (by decide)) n_X3_at rfl rfl (Nat.le_of_ble_eq_true rfl) dX1_insert_20 ⟨Nat.zero_le _, Nat.zero_le _⟩) rfl rfl ?_
    refine gw_iconst (v := (2 : Int32)) C dX1_insert_23 rfl ?_
    refine gw_icmp_ne (tgt := 35) C dX1_insert_24 (by decide) h (fun c3 h => ?_) (fun c3 h => ?_)
    · refine gw_aload_n C dX1_insert_27 0 rfl ?_
      refine gw_iload_n C dX1_insert_28 1 rfl ?_
      refine gw_lload C dX1_insert_29 2 rfl ?_
      refine gw_bind h (fun q4 hq4 h => ?_)
      refine gw_whole (st2 := [.int q4.1]) C (run_V (rest := []) C (c_X1_splitLeaf l D cI cJ cO b t x1.1 x1.2.1 hq4) w_X1_splitLeaf 0 1 rfl rfl rfl rfl rfl (Nat.le_of_ble_eq_true rfl) dX1_insert_31 ⟨Nat.zero_le _, Nat.zero_le _⟩) rfl ?_
      have h := gw_some h
      have h := X1 _ h
      have ho := Option.some.inj h
      subst ho
      exact gw_iret C dX1_insert_34
    · refine gw_lload C dX1_insert_35 2 rfl ?_
      refine gw_none (st2 := [.int (fX_firstOf x1.2.1)]) C (run_S (rest := []) C (c_X2_firstOf l D cI cJ cO x1.2.1 rfl) w_X2_firstOf rfl rfl (Nat.le_of_ble_eq_true rfl) dX1_insert_37 ⟨Nat.zero_le _, Nat.zero_le _⟩) rfl ?_
      refine gw_lt h (fun v5 ev5 h => ?_)
      rw [ev5]
      refine gw_istore C dX1_insert_40 [(7, .int v5), (0, .ref (b 0)), (3, .int x1.1), (4, .long x1.2.1), (6, .int x1.2.2)] (by decide) rfl ?_
      refine gw_lload C dX1_insert_42 3 rfl ?_
      refine gw_none (st2 := [.long (fX_withoutFirst x1.2.1)]) C (run_S (rest := []) C (c_X2_withoutFirst l D cI cJ cO x1.2.1 rfl) w_X2_withoutFirst rfl rfl (Nat.le_of_ble_eq_true rfl) dX1_insert_44 ⟨Nat.zero_le _, Nat.zero_le _⟩) rfl ?_
      refine gw_lt h (fun v6 ev6 h => ?_)
      rw [ev6]
      refine gw_lstore C dX1_insert_47 [(4, .long v6), (7, .int v5), (0, .ref (b 0)), (3, .int x1.1), (6, .int x1.2.2)] (by decide) rfl ?_
      refine gw_aload_n C dX1_insert_49 2 rfl ?_
      refine gw_iload_n C dX1_insert_50 3 rfl ?_
      refine gw_iload C dX1_insert_51 1 rfl ?_
      refine gw_whole (st2 := [.int (fT_childOf x1.1 v5 t)]) C (run_V (rest := []) C (c_X1_childOf l D cI cJ cO b t x1.1 v5 rfl) w_X1_childOf 0 1 rfl rfl rfl rfl rfl (Nat.le_of_ble_eq_true rfl) dX1_insert_53 ⟨Nat.zero_le _, Nat.zero_le _⟩) rfl ?_
      refine gw_lt h (fun v7 ev7 h => ?_)
      rw [ev7]
      refine gw_istore C dX1_insert_56 [(8, .int v7), (4, .long v6), (7, .int v5), (0, .ref (b 0)), (3, .int x1.1), (6, .int x1.2.2)] (by decide) rfl ?_
      refine gw_iload C dX1_insert_58 0 rfl ?_
      refine gw_iconst (v := (-1 : Int32)) C dX1_insert_60 rfl ?_
      refine gw_icmp_ne (tgt := 80) C dX1_insert_61 (by decide) h (fun c8 h => ?_) (fun c8 h => ?_)
      · refine gw_aload_n C dX1_insert_64 3 rfl ?_
        refine gw_aload_n C dX1_insert_65 3 rfl ?_
        refine gw_iload_n C dX1_insert_66 4 rfl ?_
        refine gw_iload C dX1_insert_67 2 rfl ?_
        refine gw_bind h (fun q9 hq9 h => ?_)
        refine gw_whole (st2 := [.int q9.1, .ref (b 0)]) C (run_V (rest := [.ref (b 0)]) C (c_X1_makeRoom l D cI cJ cO b t x1.1 v5 hq9) w_X1_makeRoom 0 1 rfl rfl rfl rfl rfl (Nat.le_of_ble_eq_true rfl) dX1_insert_69 ⟨Nat.zero_le _, Nat.zero_le _⟩) rfl ?_
        refine gw_iload C dX1_insert_72 2 rfl ?_
        refine gw_lload C dX1_insert_74 1 rfl ?_
        refine gw_bind h (fun q10 hq10 h => ?_)
        refine gw_whole (st2 := [.int q10.1]) C (run_V (rest := []) C (c_X1_hangLeaf l D cI cJ cO b q9.2 q9.1 v5 v6 hq10) w_X1_hangLeaf 0 1 rfl rfl rfl rfl rfl (Nat.le_of_ble_eq_true rfl) dX1_insert_76 ⟨Nat.zero_le _, Nat.zero_le _⟩) rfl ?_
        have h := gw_some h
        have h := X1 _ h
        have ho := Option.some.inj h
        subst ho
        exact gw_iret C dX1_insert_79
      · refine gw_iload C dX1_insert_80 0 rfl ?_
        refine gw_istore_n C dX1_insert_82 [(3, .int v7), (8, .int v7), (4, .long v6), (7, .int v5), (0, .ref (b 0)), (6, .int x1.2.2)] rfl (by decide) rfl ?_
        refine gw_iinc (v := (x1.2.2 + (1 : Int32))) C dX1_insert_83 [(6, .int (x1.2.2 + (1 : Int32))), (3, .int v7), (8, .int v7), (4, .long v6), (7, .int v5), (0, .ref (b 0))] 5 rfl rfl (by decide) rfl ?_
        refine gw_goto (tgt := 8) C dX1_insert_86 (by decide) ?_
        refine gw_sub [5, 1, 3, 0] rfl ?_
        have h := gw_some h
        exact I1 _ h
