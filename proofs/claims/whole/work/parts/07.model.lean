/-! the model -/
abbrev MS : Type := Int32 × (Nat → Int32) × (Nat → Int32) × Int32 × (Nat → Int32) × (Nat → Int32) × Int32 × (Nat → Int32) × Int32 × (Nat → Int32) × (Nat → Int32) × Int32 × Int32 × (Nat → Int32) × (Nat → Int32) × Int64
abbrev mT (t : MS) : Int32 := t.1
abbrev mZ (t : MS) : Nat → Int32 := t.2.1
abbrev mSv (t : MS) : Nat → Int32 := t.2.2.1
abbrev mSm (t : MS) : Int32 := t.2.2.2.1
abbrev mSp (t : MS) : Nat → Int32 := t.2.2.2.2.1
abbrev mBu (t : MS) : Nat → Int32 := t.2.2.2.2.2.1
abbrev mTy (t : MS) : Int32 := t.2.2.2.2.2.2.1
abbrev mOl (t : MS) : Nat → Int32 := t.2.2.2.2.2.2.2.1
abbrev mLn (t : MS) : Int32 := t.2.2.2.2.2.2.2.2.1
abbrev mBe (t : MS) : Nat → Int32 := t.2.2.2.2.2.2.2.2.2.1
abbrev mWd (t : MS) : Nat → Int32 := t.2.2.2.2.2.2.2.2.2.2.1
abbrev mWl (t : MS) : Int32 := t.2.2.2.2.2.2.2.2.2.2.2.1
abbrev mWf (t : MS) : Int32 := t.2.2.2.2.2.2.2.2.2.2.2.2.1
abbrev mWs (t : MS) : Nat → Int32 := t.2.2.2.2.2.2.2.2.2.2.2.2.2.1
abbrev mRo (t : MS) : Nat → Int32 := t.2.2.2.2.2.2.2.2.2.2.2.2.2.2.1
abbrev mH (t : MS) : Int64 := t.2.2.2.2.2.2.2.2.2.2.2.2.2.2.2
abbrev sMT (t : MS) (x : Int32) : MS := (x, t.2)
abbrev sMZ (t : MS) (x : Nat → Int32) : MS := (t.1, x, t.2.2)
abbrev sMSv (t : MS) (x : Nat → Int32) : MS := (t.1, t.2.1, x, t.2.2.2)
abbrev sMSm (t : MS) (x : Int32) : MS := (t.1, t.2.1, t.2.2.1, x, t.2.2.2.2)
abbrev sMSp (t : MS) (x : Nat → Int32) : MS := (t.1, t.2.1, t.2.2.1, t.2.2.2.1, x, t.2.2.2.2.2)
abbrev sMBu (t : MS) (x : Nat → Int32) : MS := (t.1, t.2.1, t.2.2.1, t.2.2.2.1, t.2.2.2.2.1, x, t.2.2.2.2.2.2)
abbrev sMTy (t : MS) (x : Int32) : MS := (t.1, t.2.1, t.2.2.1, t.2.2.2.1, t.2.2.2.2.1, t.2.2.2.2.2.1, x, t.2.2.2.2.2.2.2)
abbrev sMOl (t : MS) (x : Nat → Int32) : MS := (t.1, t.2.1, t.2.2.1, t.2.2.2.1, t.2.2.2.2.1, t.2.2.2.2.2.1, t.2.2.2.2.2.2.1, x, t.2.2.2.2.2.2.2.2)
abbrev sMLn (t : MS) (x : Int32) : MS := (t.1, t.2.1, t.2.2.1, t.2.2.2.1, t.2.2.2.2.1, t.2.2.2.2.2.1, t.2.2.2.2.2.2.1, t.2.2.2.2.2.2.2.1, x, t.2.2.2.2.2.2.2.2.2)
abbrev sMBe (t : MS) (x : Nat → Int32) : MS := (t.1, t.2.1, t.2.2.1, t.2.2.2.1, t.2.2.2.2.1, t.2.2.2.2.2.1, t.2.2.2.2.2.2.1, t.2.2.2.2.2.2.2.1, t.2.2.2.2.2.2.2.2.1, x, t.2.2.2.2.2.2.2.2.2.2)
abbrev sMWd (t : MS) (x : Nat → Int32) : MS := (t.1, t.2.1, t.2.2.1, t.2.2.2.1, t.2.2.2.2.1, t.2.2.2.2.2.1, t.2.2.2.2.2.2.1, t.2.2.2.2.2.2.2.1, t.2.2.2.2.2.2.2.2.1, t.2.2.2.2.2.2.2.2.2.1, x, t.2.2.2.2.2.2.2.2.2.2.2)
abbrev sMWl (t : MS) (x : Int32) : MS := (t.1, t.2.1, t.2.2.1, t.2.2.2.1, t.2.2.2.2.1, t.2.2.2.2.2.1, t.2.2.2.2.2.2.1, t.2.2.2.2.2.2.2.1, t.2.2.2.2.2.2.2.2.1, t.2.2.2.2.2.2.2.2.2.1, t.2.2.2.2.2.2.2.2.2.2.1, x, t.2.2.2.2.2.2.2.2.2.2.2.2)
abbrev sMWf (t : MS) (x : Int32) : MS := (t.1, t.2.1, t.2.2.1, t.2.2.2.1, t.2.2.2.2.1, t.2.2.2.2.2.1, t.2.2.2.2.2.2.1, t.2.2.2.2.2.2.2.1, t.2.2.2.2.2.2.2.2.1, t.2.2.2.2.2.2.2.2.2.1, t.2.2.2.2.2.2.2.2.2.2.1, t.2.2.2.2.2.2.2.2.2.2.2.1, x, t.2.2.2.2.2.2.2.2.2.2.2.2.2)
abbrev sMWs (t : MS) (x : Nat → Int32) : MS := (t.1, t.2.1, t.2.2.1, t.2.2.2.1, t.2.2.2.2.1, t.2.2.2.2.2.1, t.2.2.2.2.2.2.1, t.2.2.2.2.2.2.2.1, t.2.2.2.2.2.2.2.2.1, t.2.2.2.2.2.2.2.2.2.1, t.2.2.2.2.2.2.2.2.2.2.1, t.2.2.2.2.2.2.2.2.2.2.2.1, t.2.2.2.2.2.2.2.2.2.2.2.2.1, x, t.2.2.2.2.2.2.2.2.2.2.2.2.2.2)
abbrev sMRo (t : MS) (x : Nat → Int32) : MS := (t.1, t.2.1, t.2.2.1, t.2.2.2.1, t.2.2.2.2.1, t.2.2.2.2.2.1, t.2.2.2.2.2.2.1, t.2.2.2.2.2.2.2.1, t.2.2.2.2.2.2.2.2.1, t.2.2.2.2.2.2.2.2.2.1, t.2.2.2.2.2.2.2.2.2.2.1, t.2.2.2.2.2.2.2.2.2.2.2.1, t.2.2.2.2.2.2.2.2.2.2.2.2.1, t.2.2.2.2.2.2.2.2.2.2.2.2.2.1, x, t.2.2.2.2.2.2.2.2.2.2.2.2.2.2.2)
abbrev sMH (t : MS) (x : Int64) : MS := (t.1, t.2.1, t.2.2.1, t.2.2.2.1, t.2.2.2.2.1, t.2.2.2.2.2.1, t.2.2.2.2.2.2.1, t.2.2.2.2.2.2.2.1, t.2.2.2.2.2.2.2.2.1, t.2.2.2.2.2.2.2.2.2.1, t.2.2.2.2.2.2.2.2.2.2.1, t.2.2.2.2.2.2.2.2.2.2.2.1, t.2.2.2.2.2.2.2.2.2.2.2.2.1, t.2.2.2.2.2.2.2.2.2.2.2.2.2.1, t.2.2.2.2.2.2.2.2.2.2.2.2.2.2.1, x)
def wM (cI : ClassId) (a : Nat → Nat) (t : MS) : va_W := [(a 0, .inr (3, [.int (mT t), .ref (a 1), .ref (a 2), .int (mSm t), .ref (a 3), .ref (a 4), .int (mTy t), .ref (a 5), .int (mLn t), .ref (a 6), .ref (a 7), .int (mWl t), .int (mWf t), .ref (a 8), .ref (a 9), .long (mH t)])), (a 1, .inl (cI, 1361, .inl (mZ t))), (a 2, .inl (cI, 8166, .inl (mSv t))), (a 3, .inl (cI, 1361, .inl (mSp t))), (a 4, .inl (cI, 12, .inl (mBu t))), (a 5, .inl (cI, 12, .inl (mOl t))), (a 6, .inl (cI, 160, .inl (mBe t))), (a 7, .inl (cI, 13, .inl (mWd t))), (a 8, .inl (cI, 2080, .inl (mWs t))), (a 9, .inl (cI, 12, .inl (mRo t)))]
def fM_thrown  (t : MS) : Int32 :=
 (mT t)
def fM_in (p1 : Int32) (p2 : Int32) (p3 : Int32) : Int32 :=
 if p1 < p2 then
  (0 : Int32)
 else
  if p3 < p1 then
   (0 : Int32)
  else
   (1 : Int32)
def fM_isUsed (p1 : Int32) (t : MS) : Option Int32 :=
 if inb ((0 : Int32) + p1) 1361 then
 if (mZ t ((0 : Int32) + p1).toNatClampNeg) = 0 then
  some (0 : Int32)
 else
  some (1 : Int32)
 else none
def fM_isLeaf (p1 : Int32) (t : MS) : Option Int32 :=
 if inb ((0 : Int32) + p1) 1361 then
 if (mZ t ((0 : Int32) + p1).toNatClampNeg) = (2 : Int32) then
  some (1 : Int32)
 else
  some (0 : Int32)
 else none
def fM_offset (p1 : Int32) (t : MS) : Option Int32 :=
 if inb ((480 : Int32) + p1) 1361 then
 some (mZ t ((480 : Int32) + p1).toNatClampNeg)
 else none
def fM_free (p1 : Int32) (t : MS) : Option MS :=
 if inb ((0 : Int32) + p1) 1361 then
 gw_let (sMZ t (upd (mZ t) ((0 : Int32) + p1).toNatClampNeg (0 : Int32))) fun t2 =>
 if inb ((160 : Int32) + p1) 1361 then
 gw_let (sMZ t2 (upd (mZ t2) ((160 : Int32) + p1).toNatClampNeg (-1 : Int32))) fun t4 =>
 if inb ((320 : Int32) + p1) 1361 then
 gw_let (sMZ t4 (upd (mZ t4) ((320 : Int32) + p1).toNatClampNeg (-1 : Int32))) fun t6 =>
 if inb ((480 : Int32) + p1) 1361 then
 gw_let (sMZ t6 (upd (mZ t6) ((480 : Int32) + p1).toNatClampNeg (0 : Int32))) fun t8 =>
 if inb ((640 : Int32) + p1) 1361 then
 gw_let (sMZ t8 (upd (mZ t8) ((640 : Int32) + p1).toNatClampNeg (-1 : Int32))) fun t10 =>
 some t10
 else none
 else none
 else none
 else none
 else none
def fM_clearTable  (t : MS) : Option MS :=
 (gw_lp (σ := Int32 × MS) (ω := MS) (fun x1 =>
  if (160 : Int32) ≤ x1.1 then
   some (.inl x1.2)
  else
   (fM_free x1.1 x1.2).bind fun q3 =>
   some (.inr ((x1.1 + (1 : Int32)), q3))
 ) gw_fl ((0 : Int32), t)).bind fun v1 =>
 if inb (0 : Int32) 1361 then
 gw_let (sMZ v1 (upd (mZ v1) (0 : Int32).toNatClampNeg (1 : Int32))) fun t5 =>
 (gw_lp (σ := Int32 × MS) (ω := MS) (fun x6 =>
  if (1360 : Int32) ≤ x6.1 then
   some (.inl x6.2)
  else
   if inb x6.1 1361 then
   gw_let (sMZ x6.2 (upd (mZ x6.2) x6.1.toNatClampNeg (0 : Int32))) fun t9 =>
   some (.inr ((x6.1 + (1 : Int32)), t9))
   else none
 ) gw_fl ((800 : Int32), t5)).bind fun v6 =>
 some v6
 else none
def fM_save  (t : MS) : Option MS :=
 gw_let (α := MS → Option MS) (fun v1 =>
  (gw_lp (σ := Int32 × MS) (ω := MS) (fun x9 =>
   if (1361 : Int32) ≤ x9.1 then
    some (.inl x9.2)
   else
    if inb x9.1 1361 then
    if inb (((mSm x9.2) * (1361 : Int32)) + x9.1) 8166 then
    gw_let (sMSv x9.2 (upd (mSv x9.2) (((mSm x9.2) * (1361 : Int32)) + x9.1).toNatClampNeg (mZ x9.2 x9.1.toNatClampNeg))) fun t13 =>
    some (.inr ((x9.1 + (1 : Int32)), t13))
    else none
    else none
  ) gw_fl ((0 : Int32), v1)).bind fun v9 =>
  gw_let (sMSm v9 ((mSm v9) + (1 : Int32))) fun t14 =>
  some t14
 ) fun j1 =>
 if (mSm t) = (6 : Int32) then
  (gw_lp (σ := Int32 × MS) (ω := MS) (fun x3 =>
   if (6805 : Int32) ≤ x3.1 then
    some (.inl x3.2)
   else
    if inb (x3.1 + (1361 : Int32)) 8166 then
    if inb x3.1 8166 then
    gw_let (sMSv x3.2 (upd (mSv x3.2) x3.1.toNatClampNeg (mSv x3.2 (x3.1 + (1361 : Int32)).toNatClampNeg))) fun t7 =>
    some (.inr ((x3.1 + (1 : Int32)), t7))
    else none
    else none
  ) gw_fl ((0 : Int32), t)).bind fun v3 =>
  gw_let (sMSm v3 ((mSm v3) - (1 : Int32))) fun t8 =>
  j1 t8
 else
  j1 t
def fM_undo  (t : MS) : Option (Int32 × MS) :=
 gw_let (α := Int32 → Option (Int32 × MS)) (fun v1 =>
  gw_let (sMT t v1) fun t3 =>
  if (mT t3) ≤ 0 then
   gw_let (sMSm t3 ((mSm t3) - (1 : Int32))) fun t5 =>
   (gw_lp (σ := Int32 × MS) (ω := MS) (fun x6 =>
    if (1361 : Int32) ≤ x6.1 then
     some (.inl x6.2)
    else
     if inb (((mSm x6.2) * (1361 : Int32)) + x6.1) 8166 then
     if inb x6.1 1361 then
     gw_let (sMZ x6.2 (upd (mZ x6.2) x6.1.toNatClampNeg (mSv x6.2 (((mSm x6.2) * (1361 : Int32)) + x6.1).toNatClampNeg))) fun t10 =>
     some (.inr ((x6.1 + (1 : Int32)), t10))
     else none
     else none
   ) gw_fl ((0 : Int32), t5)).bind fun v6 =>
   some ((mSm v6), v6)
  else
   some ((0 : Int32), t3)
 ) fun j1 =>
 if (mSm t) = 0 then
  j1 (1 : Int32)
 else
  j1 (0 : Int32)
def fM_putAside  (t : MS) : Option MS :=
 (gw_lp (σ := Int32 × MS) (ω := MS) (fun x1 =>
  if (1361 : Int32) ≤ x1.1 then
   some (.inl x1.2)
  else
   if inb x1.1 1361 then
   if inb x1.1 1361 then
   gw_let (sMSp x1.2 (upd (mSp x1.2) x1.1.toNatClampNeg (mZ x1.2 x1.1.toNatClampNeg))) fun t5 =>
   some (.inr ((x1.1 + (1 : Int32)), t5))
   else none
   else none
 ) gw_fl ((0 : Int32), t)).bind fun v1 =>
 some v1
def fM_bringBack  (t : MS) : Option MS :=
 (gw_lp (σ := Int32 × MS) (ω := MS) (fun x1 =>
  if (1361 : Int32) ≤ x1.1 then
   some (.inl x1.2)
  else
   if inb x1.1 1361 then
   if inb x1.1 1361 then
   gw_let (sMZ x1.2 (upd (mZ x1.2) x1.1.toNatClampNeg (mSp x1.2 x1.1.toNatClampNeg))) fun t5 =>
   some (.inr ((x1.1 + (1 : Int32)), t5))
   else none
   else none
 ) gw_fl ((0 : Int32), t)).bind fun v1 =>
 some v1
def fM_child (p1 : Int32) (p2 : Int32) (t : MS) : Option Int32 :=
 (fM_offset p1 t).bind fun q1 =>
 gw_let (q1 + p2) fun v2 =>
 (fM_offset p1 t).bind fun q3 =>
 gw_let (α := Int32 → Option Int32) (fun v5 =>
  if v5 = 0 then
   some (-1 : Int32)
  else
   some v2
 ) fun j5 =>
 gw_let (α := Unit → Option Int32) (fun v4 =>
  j5 (0 : Int32)
 ) fun j4 =>
 if q3 ≤ 0 then
  j4 ()
 else
  if (160 : Int32) ≤ v2 then
   j4 ()
  else
   (fM_isUsed v2 t).bind fun q8 =>
   if q8 = 0 then
    j4 ()
   else
    if inb ((160 : Int32) + v2) 1361 then
    if (mZ t ((160 : Int32) + v2).toNatClampNeg) = p1 then
     j5 (1 : Int32)
    else
     j4 ()
    else none
def fM_lettersOf (p1 : Int32) (t : MS) : Option Int32 :=
 (gw_lp (σ := Int32 × Int32) (ω := Int32) (fun x1 =>
  if (9 : Int32) ≤ x1.2 then
   some (.inl x1.1)
  else
   (fM_child p1 x1.2 t).bind fun q3 =>
   gw_let (α := Int32 → Option (Int32 ⊕ Int32 × Int32)) (fun v4 =>
    gw_let (x1.1 ||| v4) fun v6 =>
    some (.inr (v6, (x1.2 + (1 : Int32))))
   ) fun j4 =>
   if q3 = (-1 : Int32) then
    j4 (0 : Int32)
   else
    j4 ((1 : Int32) <<< (x1.2 &&& 31))
 ) gw_fl ((0 : Int32), (0 : Int32))).bind fun v1 =>
 some v1
def fM_bits (p1 : Int32) : Option Int32 :=
 (gw_lp (σ := Int32 × Int32) (ω := Int32) (fun x1 =>
  if x1.2 = 0 then
   some (.inl x1.1)
  else
   gw_let (x1.2 &&& (x1.2 - (1 : Int32))) fun v3 =>
   some (.inr ((x1.1 + (1 : Int32)), v3))
 ) gw_fl ((0 : Int32), p1)).bind fun v1 =>
 some v1
def fM_fits (p1 : Int32) (p2 : Int32) (t : MS) : Option Int32 :=
 (gw_lp (σ := Int32 × Int32) (ω := Int32) (fun x1 =>
  if (9 : Int32) ≤ x1.2 then
   some (.inl x1.1)
  else
   gw_let (α := Int32 → Option (Int32 ⊕ Int32 × Int32)) (fun v3 =>
    gw_let (α := Int32 → Option (Int32 ⊕ Int32 × Int32)) (fun v6 =>
     some (.inr (v6, (x1.2 + (1 : Int32))))
    ) fun j6 =>
    gw_let (α := Unit → Option (Int32 ⊕ Int32 × Int32)) (fun v5 =>
     j6 (0 : Int32)
    ) fun j5 =>
    if x1.1 = 0 then
     j5 ()
    else
     gw_let (α := Unit → Option (Int32 ⊕ Int32 × Int32)) (fun v8 =>
      j6 (1 : Int32)
     ) fun j8 =>
     if v3 = 0 then
      j8 ()
     else
      if (160 : Int32) ≤ (p1 + x1.2) then
       j5 ()
      else
       (fM_isUsed (p1 + x1.2) t).bind fun q11 =>
       if q11 = 0 then
        j8 ()
       else
        j5 ()
   ) fun j3 =>
   if ((p2 >>> (x1.2 &&& 31)) &&& (1 : Int32)) = (1 : Int32) then
    j3 (1 : Int32)
   else
    j3 (0 : Int32)
 ) gw_fl ((1 : Int32), (0 : Int32))).bind fun v1 =>
 if (v1 = 0 ∨ v1 = 1) then
 some v1
 else none
def fM_leastOffset (p1 : Int32) (t : MS) : Option Int32 :=
 gw_lp (σ := Int32) (ω := Int32) (fun x1 =>
  if (160 : Int32) ≤ x1 then
   some (.inl (-1 : Int32))
  else
   (fM_fits x1 p1 t).bind fun q3 =>
   if q3 = 0 then
    some (.inr (x1 + (1 : Int32)))
   else
    some (.inl x1)
 ) gw_fl (1 : Int32)
def fM_adopt (p1 : Int32) (p2 : Int32) (t : MS) : Option MS :=
 (gw_lp (σ := Int32 × MS) (ω := MS) (fun x1 =>
  if (9 : Int32) ≤ x1.1 then
   some (.inl x1.2)
  else
   (fM_child p1 x1.1 x1.2).bind fun q3 =>
   if q3 = (-1 : Int32) then
    some (.inr ((x1.1 + (1 : Int32)), x1.2))
   else
    if inb ((160 : Int32) + q3) 1361 then
    gw_let (sMZ x1.2 (upd (mZ x1.2) ((160 : Int32) + q3).toNatClampNeg p2)) fun t6 =>
    some (.inr ((x1.1 + (1 : Int32)), t6))
    else none
 ) gw_fl ((0 : Int32), t)).bind fun v1 =>
 some v1
def fM_moveChildren (p1 : Int32) (p2 : Int32) (t : MS) : Option MS :=
 (fM_lettersOf p1 t).bind fun q1 =>
 (fM_offset p1 t).bind fun q2 =>
 (gw_lp (σ := Int32 × MS) (ω := MS) (fun x3 =>
  if (9 : Int32) ≤ x3.1 then
   some (.inl x3.2)
  else
   if ((q1 >>> (x3.1 &&& 31)) &&& (1 : Int32)) = (1 : Int32) then
    gw_let (q2 + x3.1) fun v6 =>
    gw_let (p2 + x3.1) fun v7 =>
    if inb ((0 : Int32) + v6) 1361 then
    if inb ((0 : Int32) + v7) 1361 then
    gw_let (sMZ x3.2 (upd (mZ x3.2) ((0 : Int32) + v7).toNatClampNeg (mZ x3.2 ((0 : Int32) + v6).toNatClampNeg))) fun t10 =>
    if inb ((160 : Int32) + v7) 1361 then
    gw_let (sMZ t10 (upd (mZ t10) ((160 : Int32) + v7).toNatClampNeg p1)) fun t12 =>
    if inb ((320 : Int32) + v7) 1361 then
    gw_let (sMZ t12 (upd (mZ t12) ((320 : Int32) + v7).toNatClampNeg x3.1)) fun t14 =>
    if inb ((480 : Int32) + v6) 1361 then
    if inb ((480 : Int32) + v7) 1361 then
    gw_let (sMZ t14 (upd (mZ t14) ((480 : Int32) + v7).toNatClampNeg (mZ t14 ((480 : Int32) + v6).toNatClampNeg))) fun t17 =>
    if inb ((640 : Int32) + v6) 1361 then
    if inb ((640 : Int32) + v7) 1361 then
    gw_let (sMZ t17 (upd (mZ t17) ((640 : Int32) + v7).toNatClampNeg (mZ t17 ((640 : Int32) + v6).toNatClampNeg))) fun t20 =>
    (fM_adopt v6 v7 t20).bind fun q21 =>
    (fM_free v6 q21).bind fun q22 =>
    if inb (1360 : Int32) 1361 then
    if inb (1360 : Int32) 1361 then
    gw_let (sMZ q22 (upd (mZ q22) (1360 : Int32).toNatClampNeg ((mZ q22 (1360 : Int32).toNatClampNeg) + (1 : Int32)))) fun t25 =>
    some (.inr ((x3.1 + (1 : Int32)), t25))
    else none
    else none
    else none
    else none
    else none
    else none
    else none
    else none
    else none
    else none
   else
    some (.inr ((x3.1 + (1 : Int32)), x3.2))
 ) gw_fl ((0 : Int32), t)).bind fun v3 =>
 if inb ((480 : Int32) + p1) 1361 then
 gw_let (sMZ v3 (upd (mZ v3) ((480 : Int32) + p1).toNatClampNeg p2)) fun t27 =>
 some t27
 else none
def fM_makeRoom (p1 : Int32) (p2 : Int32) (t : MS) : Option (Int32 × MS) :=
 (fM_offset p1 t).bind fun q1 =>
 gw_let (q1 + p2) fun v2 =>
 gw_let (α := Unit → Option (Int32 × MS)) (fun v3 =>
  (fM_lettersOf p1 t).bind fun q7 =>
  gw_let (α := Int32 → Option (Int32 × MS)) (fun v8 =>
   gw_let (α := Int32 → Option (Int32 × MS)) (fun v12 =>
    gw_let (α := Int32 → Option (Int32 × MS)) (fun v18 =>
     gw_let (α := Int32 → Option (Int32 × MS)) (fun v20 =>
      (fM_leastOffset v20 t).bind fun q23 =>
      if q23 = (-1 : Int32) then
       some ((-1 : Int32), t)
      else
       gw_let (α := Int32 → Option (Int32 × MS)) (fun v26 =>
        gw_let (α := Int32 → Option (Int32 × MS)) (fun v31 =>
         (fM_moveChildren v18 q23 t).bind fun q34 =>
         some (v31, q34)
        ) fun j31 =>
        if v26 = 0 then
         j31 p1
        else
         if inb ((320 : Int32) + p1) 1361 then
         j31 (q23 + (mZ t ((320 : Int32) + p1).toNatClampNeg))
         else none
       ) fun j26 =>
       gw_let (α := Unit → Option (Int32 × MS)) (fun v25 =>
        j26 (0 : Int32)
       ) fun j25 =>
       if v12 = 0 then
        j25 ()
       else
        if p1 = 0 then
         j25 ()
        else
         if inb ((160 : Int32) + p1) 1361 then
         if (mZ t ((160 : Int32) + p1).toNatClampNeg) = v8 then
          j26 (1 : Int32)
         else
          j25 ()
         else none
     ) fun j20 =>
     if v12 = 0 then
      j20 (q7 ||| ((1 : Int32) <<< (p2 &&& 31)))
     else
      (fM_lettersOf v8 t).bind fun q22 =>
      j20 q22
    ) fun j18 =>
    if v12 = 0 then
     j18 p1
    else
     j18 v8
   ) fun j12 =>
   gw_let (α := Unit → Option (Int32 × MS)) (fun v11 =>
    j12 (0 : Int32)
   ) fun j11 =>
   if v8 = p1 then
    j11 ()
   else
    (fM_lettersOf v8 t).bind fun q14 =>
    (fM_bits q14).bind fun q15 =>
    (fM_bits q7).bind fun q16 =>
    if (q16 + (1 : Int32)) ≤ q15 then
     j11 ()
    else
     j12 (1 : Int32)
  ) fun j8 =>
  if (160 : Int32) ≤ v2 then
   j8 p1
  else
   if inb ((160 : Int32) + v2) 1361 then
   j8 (mZ t ((160 : Int32) + v2).toNatClampNeg)
   else none
 ) fun j3 =>
 if (160 : Int32) ≤ v2 then
  j3 ()
 else
  (fM_isUsed v2 t).bind fun q5 =>
  if q5 = 0 then
   some (p1, t)
  else
   j3 ()
def fM_open (p1 : Int32) (p2 : Int32) (t : MS) : Option (Int32 × MS) :=
 (fM_leastOffset p2 t).bind fun q1 =>
 gw_let (α := MS → Option (Int32 × MS)) (fun v2 =>
  if q1 = (-1 : Int32) then
   some ((0 : Int32), v2)
  else
   some ((1 : Int32), v2)
 ) fun j2 =>
 if q1 = (-1 : Int32) then
  j2 t
 else
  if inb ((480 : Int32) + p1) 1361 then
  gw_let (sMZ t (upd (mZ t) ((480 : Int32) + p1).toNatClampNeg q1)) fun t5 =>
  j2 t5
  else none
def fM_putChild (p1 : Int32) (p2 : Int32) (p3 : Int32) (t : MS) : Option (Int32 × MS) :=
 (fM_offset p1 t).bind fun q1 =>
 gw_let (q1 + p2) fun v2 =>
 if inb ((0 : Int32) + v2) 1361 then
 gw_let (sMZ t (upd (mZ t) ((0 : Int32) + v2).toNatClampNeg p3)) fun t4 =>
 if inb ((160 : Int32) + v2) 1361 then
 gw_let (sMZ t4 (upd (mZ t4) ((160 : Int32) + v2).toNatClampNeg p1)) fun t6 =>
 if inb ((320 : Int32) + v2) 1361 then
 gw_let (sMZ t6 (upd (mZ t6) ((320 : Int32) + v2).toNatClampNeg p2)) fun t8 =>
 if inb ((480 : Int32) + v2) 1361 then
 gw_let (sMZ t8 (upd (mZ t8) ((480 : Int32) + v2).toNatClampNeg (0 : Int32))) fun t10 =>
 if inb ((640 : Int32) + v2) 1361 then
 gw_let (sMZ t10 (upd (mZ t10) ((640 : Int32) + v2).toNatClampNeg (-1 : Int32))) fun t12 =>
 some (v2, t12)
 else none
 else none
 else none
 else none
 else none
def fM_usersOf (p1 : Int32) (t : MS) : Option Int32 :=
 if inb ((800 : Int32) + ((14 : Int32) * p1)) 1361 then
 some (mZ t ((800 : Int32) + ((14 : Int32) * p1)).toNatClampNeg)
 else none
def fM_lengthOf (p1 : Int32) (t : MS) : Option Int32 :=
 if inb (((800 : Int32) + ((14 : Int32) * p1)) + (1 : Int32)) 1361 then
 some (mZ t (((800 : Int32) + ((14 : Int32) * p1)) + (1 : Int32)).toNatClampNeg)
 else none
def fM_letterOf (p1 : Int32) (p2 : Int32) (t : MS) : Option Int32 :=
 if inb ((((800 : Int32) + ((14 : Int32) * p1)) + (2 : Int32)) + p2) 1361 then
 some (mZ t ((((800 : Int32) + ((14 : Int32) * p1)) + (2 : Int32)) + p2).toNatClampNeg)
 else none
def fM_isEnd (ra : MS → Nat → Int32) (p1 : Int32) (p2 : Int32) (p3 : Int32) (t : MS) : Option Int32 :=
 (fM_usersOf p1 t).bind fun q1 =>
 gw_let (α := Int32 → Option Int32) (fun v3 =>
  (gw_lp (σ := Int32 × Int32) (ω := Int32) (fun x7 =>
   if p3 ≤ x7.2 then
    some (.inl x7.1)
   else
    if x7.1 = 0 then
     some (.inl x7.1)
    else
     (fM_letterOf p1 (x7.2 - p2) t).bind fun q10 =>
     if inb x7.2 12 then
     gw_let (α := Int32 → Option (Int32 ⊕ Int32 × Int32)) (fun v12 =>
      some (.inr (v12, (x7.2 + (1 : Int32))))
     ) fun j12 =>
     if q10 = (ra t x7.2.toNatClampNeg) then
      j12 (1 : Int32)
     else
      j12 (0 : Int32)
     else none
  ) gw_fl (v3, p2)).bind fun v7 =>
  if (v7 = 0 ∨ v7 = 1) then
  some v7
  else none
 ) fun j3 =>
 gw_let (α := Unit → Option Int32) (fun v2 =>
  j3 (0 : Int32)
 ) fun j2 =>
 if q1 ≤ 0 then
  j2 ()
 else
  (fM_lengthOf p1 t).bind fun q5 =>
  if q5 = (p3 - p2) then
   j3 (1 : Int32)
  else
   j2 ()
def fM_placeFor (ra : MS → Nat → Int32) (p1 : Int32) (p2 : Int32) (t : MS) : Option Int32 :=
 (gw_lp (σ := Int32 × Int32) (ω := Int32) (fun x1 =>
  if x1.2 < 0 then
   some (.inl x1.1)
  else
   (fM_usersOf x1.2 t).bind fun q3 =>
   gw_let (α := Int32 → Option (Int32 ⊕ Int32 × Int32)) (fun v4 =>
    some (.inr (v4, (x1.2 + (-1 : Int32))))
   ) fun j4 =>
   if q3 = 0 then
    j4 x1.2
   else
    j4 x1.1
 ) gw_fl ((-1 : Int32), (39 : Int32))).bind fun v1 =>
 (gw_lp (σ := Int32 × Int32) (ω := Int32) (fun x6 =>
  if (40 : Int32) ≤ x6.2 then
   some (.inl x6.1)
  else
   (fM_isEnd ra x6.2 p1 p2 t).bind fun q8 =>
   gw_let (α := Int32 → Option (Int32 ⊕ Int32 × Int32)) (fun v9 =>
    some (.inr (v9, (x6.2 + (1 : Int32))))
   ) fun j9 =>
   if q8 = 0 then
    j9 x6.1
   else
    j9 x6.2
 ) gw_fl (v1, (0 : Int32))).bind fun v6 =>
 some v6
def fM_giveEnd (ra : MS → Nat → Int32) (p1 : Int32) (p2 : Int32) (p3 : Int32) (t : MS) : Option (Int32 × MS) :=
 (fM_placeFor ra p2 p3 t).bind fun q1 =>
 if q1 = (-1 : Int32) then
  some ((0 : Int32), t)
 else
  gw_let ((800 : Int32) + ((14 : Int32) * q1)) fun v3 =>
  if inb v3 1361 then
  if inb v3 1361 then
  gw_let (sMZ t (upd (mZ t) v3.toNatClampNeg ((mZ t v3.toNatClampNeg) + (1 : Int32)))) fun t6 =>
  if inb (v3 + (1 : Int32)) 1361 then
  gw_let (sMZ t6 (upd (mZ t6) (v3 + (1 : Int32)).toNatClampNeg (p3 - p2))) fun t8 =>
  (gw_lp (σ := Int32 × MS) (ω := MS) (fun x9 =>
   if (12 : Int32) ≤ x9.1 then
    some (.inl x9.2)
   else
    gw_let (α := Int32 → Option (MS ⊕ Int32 × MS)) (fun v11 =>
     if inb ((v3 + (2 : Int32)) + x9.1) 1361 then
     gw_let (sMZ x9.2 (upd (mZ x9.2) ((v3 + (2 : Int32)) + x9.1).toNatClampNeg v11)) fun t15 =>
     some (.inr ((x9.1 + (1 : Int32)), t15))
     else none
    ) fun j11 =>
    if p3 ≤ (p2 + x9.1) then
     j11 (0 : Int32)
    else
     if inb (p2 + x9.1) 12 then
     j11 (ra x9.2 (p2 + x9.1).toNatClampNeg)
     else none
  ) gw_fl ((0 : Int32), t8)).bind fun v9 =>
  if inb ((640 : Int32) + p1) 1361 then
  gw_let (sMZ v9 (upd (mZ v9) ((640 : Int32) + p1).toNatClampNeg q1)) fun t17 =>
  some ((1 : Int32), t17)
  else none
  else none
  else none
  else none
def fM_dropEnd (p1 : Int32) (t : MS) : Option MS :=
 if inb ((640 : Int32) + p1) 1361 then
 gw_let ((800 : Int32) + ((14 : Int32) * (mZ t ((640 : Int32) + p1).toNatClampNeg))) fun v2 =>
 if inb ((640 : Int32) + p1) 1361 then
 gw_let (sMZ t (upd (mZ t) ((640 : Int32) + p1).toNatClampNeg (-1 : Int32))) fun t4 =>
 if inb v2 1361 then
 if inb v2 1361 then
 gw_let (sMZ t4 (upd (mZ t4) v2.toNatClampNeg ((mZ t4 v2.toNatClampNeg) - (1 : Int32)))) fun t7 =>
 (gw_lp (σ := Int32 × MS) (ω := MS) (fun x8 =>
  if (14 : Int32) ≤ x8.1 then
   some (.inl x8.2)
  else
   if inb v2 1361 then
   if (mZ x8.2 v2.toNatClampNeg) = 0 then
    if inb (v2 + x8.1) 1361 then
    gw_let (sMZ x8.2 (upd (mZ x8.2) (v2 + x8.1).toNatClampNeg (0 : Int32))) fun t13 =>
    some (.inr ((x8.1 + (1 : Int32)), t13))
    else none
   else
    some (.inl x8.2)
   else none
 ) gw_fl ((1 : Int32), t7)).bind fun v8 =>
 some v8
 else none
 else none
 else none
 else none
def fM_addLeaf (ra : MS → Nat → Int32) (p1 : Int32) (p2 : Int32) (p3 : Int32) (p4 : Int32) (t : MS) : Option (Int32 × MS) :=
 (fM_offset p1 t).bind fun q1 =>
 gw_let (α := Int32 × MS → Option (Int32 × MS)) (fun v2 =>
  if v2.1 = (-1 : Int32) then
   some ((2 : Int32), v2.2)
  else
   (fM_putChild v2.1 p2 (2 : Int32) v2.2).bind fun q9 =>
   gw_let (sMLn q9.2 q9.1) fun t10 =>
   gw_let (α := Int32 → Option (Int32 × MS)) (fun v11 =>
    (fM_giveEnd ra (mLn t10) v11 p4 t10).bind fun q13 =>
    if q13.1 = 0 then
     some ((2 : Int32), q13.2)
    else
     some ((0 : Int32), q13.2)
   ) fun j11 =>
   if p4 ≤ p3 then
    j11 p4
   else
    j11 (p3 + (1 : Int32))
 ) fun j2 =>
 if q1 = 0 then
  (fM_open p1 ((1 : Int32) <<< (p2 &&& 31)) t).bind fun q4 =>
  gw_let (α := Int32 → Option (Int32 × MS)) (fun v5 =>
   j2 (v5, q4.2)
  ) fun j5 =>
  if q4.1 = 0 then
   j5 (-1 : Int32)
  else
   j5 p1
 else
  (fM_makeRoom p1 p2 t).bind fun q7 =>
  j2 (q7.1, q7.2)
def fM_split (ra : MS → Nat → Int32) (p1 : Int32) (p2 : Int32) (p3 : Int32) (t : MS) : Option (Int32 × MS) :=
 if inb ((640 : Int32) + p1) 1361 then
 gw_let (mZ t ((640 : Int32) + p1).toNatClampNeg) fun v2 =>
 (fM_lengthOf v2 t).bind fun q3 =>
 (gw_lp (σ := Int32 × MS) (ω := MS) (fun x4 =>
  if q3 ≤ x4.1 then
   some (.inl x4.2)
  else
   (fM_letterOf v2 x4.1 x4.2).bind fun q6 =>
   if inb x4.1 12 then
   gw_let (sMOl x4.2 (upd (mOl x4.2) x4.1.toNatClampNeg q6)) fun t8 =>
   some (.inr ((x4.1 + (1 : Int32)), t8))
   else none
 ) gw_fl ((0 : Int32), t)).bind fun v4 =>
 (fM_dropEnd p1 v4).bind fun q9 =>
 if inb ((0 : Int32) + p1) 1361 then
 gw_let (sMZ q9 (upd (mZ q9) ((0 : Int32) + p1).toNatClampNeg (1 : Int32))) fun t11 =>
 gw_lp (σ := Int32 × Int32 × MS) (ω := (Int32 × MS)) (fun x12 =>
  gw_let (α := Unit → Option (Int32 × MS ⊕ Int32 × Int32 × MS)) (fun v13 =>
   gw_let (α := Int32 → Option (Int32 × MS ⊕ Int32 × Int32 × MS)) (fun v24 =>
    gw_let (α := Int32 → Option (Int32 × MS ⊕ Int32 × Int32 × MS)) (fun v27 =>
     (fM_open x12.1 (((1 : Int32) <<< (v24 &&& 31)) ||| ((1 : Int32) <<< (v27 &&& 31))) x12.2.2).bind fun q30 =>
     if q30.1 = 0 then
      some (.inl ((2 : Int32), q30.2))
     else
      (fM_putChild x12.1 v24 (2 : Int32) q30.2).bind fun q32 =>
      (fM_putChild x12.1 v27 (2 : Int32) q32.2).bind fun q33 =>
      gw_let (sMLn q33.2 q33.1) fun t34 =>
      gw_let (α := Int32 → Option (Int32 × MS ⊕ Int32 × Int32 × MS)) (fun v35 =>
       (fM_giveEnd mOl q32.1 v35 q3 t34).bind fun q37 =>
       if q37.1 = 0 then
        some (.inl ((2 : Int32), q37.2))
       else
        gw_let (α := Int32 → Option (Int32 × MS ⊕ Int32 × Int32 × MS)) (fun v39 =>
         (fM_giveEnd ra (mLn q37.2) v39 p3 q37.2).bind fun q41 =>
         if q41.1 = 0 then
          some (.inl ((2 : Int32), q41.2))
         else
          some (.inl ((0 : Int32), q41.2))
        ) fun j39 =>
        if p3 ≤ (p2 + x12.2.1) then
         j39 p3
        else
         j39 ((p2 + x12.2.1) + (1 : Int32))
      ) fun j35 =>
      if q3 ≤ x12.2.1 then
       j35 q3
      else
       j35 (x12.2.1 + (1 : Int32))
    ) fun j27 =>
    if p3 ≤ (p2 + x12.2.1) then
     j27 (0 : Int32)
    else
     if inb (p2 + x12.2.1) 12 then
     j27 (ra x12.2.2 (p2 + x12.2.1).toNatClampNeg)
     else none
   ) fun j24 =>
   if q3 ≤ x12.2.1 then
    j24 (0 : Int32)
   else
    if inb x12.2.1 12 then
    j24 (mOl x12.2.2 x12.2.1.toNatClampNeg)
    else none
  ) fun j13 =>
  if q3 ≤ x12.2.1 then
   j13 ()
  else
   if p3 ≤ (p2 + x12.2.1) then
    j13 ()
   else
    if inb x12.2.1 12 then
    if inb (p2 + x12.2.1) 12 then
    if (mOl x12.2.2 x12.2.1.toNatClampNeg) = (ra x12.2.2 (p2 + x12.2.1).toNatClampNeg) then
     if inb x12.2.1 12 then
     (fM_open x12.1 ((1 : Int32) <<< ((mOl x12.2.2 x12.2.1.toNatClampNeg) &&& 31)) x12.2.2).bind fun q20 =>
     if q20.1 = 0 then
      some (.inl ((2 : Int32), q20.2))
     else
      if inb x12.2.1 12 then
      (fM_putChild x12.1 (mOl q20.2 x12.2.1.toNatClampNeg) (1 : Int32) q20.2).bind fun q23 =>
      some (.inr (q23.1, (x12.2.1 + (1 : Int32)), q23.2))
      else none
     else none
    else
     j13 ()
    else none
    else none
 ) gw_fl (p1, (0 : Int32), t11)
 else none
 else none
def fM_addWord (ra : MS → Nat → Int32) (p1 : Int32) (t : MS) : Option (Int32 × MS) :=
 gw_lp (σ := Int32 × Int32) (ω := (Int32 × MS)) (fun x1 =>
  gw_let (α := Int32 → Option (Int32 × MS ⊕ Int32 × Int32)) (fun v2 =>
   (fM_child x1.1 v2 t).bind fun q5 =>
   if q5 = (-1 : Int32) then
    (fM_addLeaf ra x1.1 v2 x1.2 p1 t).bind fun q7 =>
    some (.inl (q7.1, q7.2))
   else
    gw_let (α := Int32 → Option (Int32 × MS ⊕ Int32 × Int32)) (fun v8 =>
     (fM_isLeaf q5 t).bind fun q10 =>
     if q10 = 0 then
      some (.inr (q5, (x1.2 + (1 : Int32))))
     else
      gw_let (sMLn t q5) fun t12 =>
      if inb ((640 : Int32) + q5) 1361 then
      (fM_isEnd ra (mZ t12 ((640 : Int32) + q5).toNatClampNeg) v8 p1 t12).bind fun q14 =>
      if q14 = 0 then
       (fM_split ra q5 v8 p1 t12).bind fun q16 =>
       some (.inl (q16.1, q16.2))
      else
       some (.inl ((1 : Int32), t12))
      else none
    ) fun j8 =>
    if p1 ≤ x1.2 then
     j8 p1
    else
     j8 (x1.2 + (1 : Int32))
  ) fun j2 =>
  if p1 ≤ x1.2 then
   j2 (0 : Int32)
  else
   if inb x1.2 12 then
   j2 (ra t x1.2.toNatClampNeg)
   else none
 ) gw_fl ((0 : Int32), (0 : Int32))
def fM_addIt  (t : MS) : Option (Int32 × MS) :=
 (fM_putAside t).bind fun q1 =>
 gw_let (α := Int32 × MS → Option (Int32 × MS)) (fun v2 =>
  if v2.1 = 0 then
   some (v2.1, v2.2)
  else
   (fM_bringBack v2.2).bind fun q6 =>
   some (v2.1, q6)
 ) fun j2 =>
 if (mTy q1) = 0 then
  j2 ((3 : Int32), q1)
 else
  (fM_addWord mBu (mTy q1) q1).bind fun q4 =>
  j2 (q4.1, q4.2)
def fM_append (p1 : Int32) (t : MS) : Option (Int32 × MS) :=
 gw_let (α := Int32 → Option (Int32 × MS)) (fun v1 =>
  gw_let (sMT t v1) fun t4 =>
  if (mT t4) ≤ 0 then
   if inb (mTy t4) 12 then
   gw_let (sMBu t4 (upd (mBu t4) (mTy t4).toNatClampNeg p1)) fun t7 =>
   gw_let (sMTy t7 ((mTy t7) + (1 : Int32))) fun t8 =>
   some ((mTy t8), t8)
   else none
  else
   some ((0 : Int32), t4)
 ) fun j1 =>
 if (fM_in p1 (1 : Int32) (8 : Int32)) = 0 then
  j1 (1 : Int32)
 else
  if (mTy t) = (12 : Int32) then
   j1 (2 : Int32)
  else
   j1 (0 : Int32)
def fM_clearBuffer  (t : MS) : Int32 × MS :=
 gw_let (sMT t (0 : Int32)) fun t1 =>
 gw_let (mTy t1) fun v2 =>
 gw_let (sMTy t1 (0 : Int32)) fun t3 =>
 (v2, t3)
def fM_drop  (t : MS) : Option (Int32 × MS) :=
 gw_let (α := Int32 → Option (Int32 × MS)) (fun v1 =>
  gw_let (sMT t v1) fun t3 =>
  if (mT t3) ≤ 0 then
   gw_let (sMTy t3 ((mTy t3) - (1 : Int32))) fun t5 =>
   if inb (mTy t5) 12 then
   some ((mBu t5 (mTy t5).toNatClampNeg), t5)
   else none
  else
   some ((0 : Int32), t3)
 ) fun j1 =>
 if (mTy t) = 0 then
  j1 (1 : Int32)
 else
  j1 (0 : Int32)
def fM_add  (t : MS) : Option (Int32 × MS) :=
 (fM_addIt t).bind fun q1 =>
 gw_let (α := Int32 → Option (Int32 × MS)) (fun v2 =>
  gw_let (sMT q1.2 v2) fun t5 =>
  if (mT t5) ≤ 0 then
   gw_let (mLn t5) fun v7 =>
   (fM_bringBack t5).bind fun q8 =>
   (fM_save q8).bind fun q9 =>
   (fM_addIt q9).bind fun q10 =>
   some (v7, q10.2)
  else
   some ((0 : Int32), t5)
 ) fun j2 =>
 if q1.1 = (3 : Int32) then
  j2 (1 : Int32)
 else
  if q1.1 = 0 then
   j2 (0 : Int32)
  else
   j2 (2 : Int32)
def fM_leafOf (ra : MS → Nat → Int32) (p1 : Int32) (t : MS) : Option Int32 :=
 (gw_lp (σ := Int32 × Int32) (ω := Int32 × Int32) (fun x1 =>
  if x1.1 = (-1 : Int32) then
   some (.inl (x1.1, x1.2))
  else
   (fM_isLeaf x1.1 t).bind fun q3 =>
   if q3 = 0 then
    gw_let (α := Int32 → Option ((Int32 × Int32) ⊕ Int32 × Int32)) (fun v5 =>
     (fM_child x1.1 v5 t).bind fun q8 =>
     some (.inr (q8, (x1.2 + (1 : Int32))))
    ) fun j5 =>
    if p1 ≤ x1.2 then
     j5 (0 : Int32)
    else
     if inb x1.2 12 then
     j5 (ra t x1.2.toNatClampNeg)
     else none
   else
    some (.inl (x1.1, x1.2))
 ) gw_fl ((0 : Int32), (0 : Int32))).bind fun v1 =>
 if v1.1 = (-1 : Int32) then
  some (-1 : Int32)
 else
  if p1 = 0 then
   some (-1 : Int32)
  else
   if inb ((640 : Int32) + v1.1) 1361 then
   gw_let (α := Int32 → Option Int32) (fun v12 =>
    (fM_isEnd ra (mZ t ((640 : Int32) + v1.1).toNatClampNeg) v12 p1 t).bind fun q14 =>
    if q14 = 0 then
     some (-1 : Int32)
    else
     some v1.1
   ) fun j12 =>
   if p1 ≤ v1.2 then
    j12 p1
   else
    j12 v1.2
   else none
def fM_removeLeaf (p1 : Int32) (t : MS) : Option (Int32 × MS) :=
 (fM_dropEnd p1 t).bind fun q1 =>
 (gw_lp (σ := Int32 × Int32 × MS) (ω := Int32 × Int32 × MS) (fun x2 =>
  if x2.2.1 = 0 then
   some (.inl (x2.1, x2.2.1, x2.2.2))
  else
   (fM_lettersOf x2.2.1 x2.2.2).bind fun q4 =>
   if q4 = 0 then
    if inb ((160 : Int32) + x2.2.1) 1361 then
    gw_let (mZ x2.2.2 ((160 : Int32) + x2.2.1).toNatClampNeg) fun v7 =>
    (fM_free x2.2.1 x2.2.2).bind fun q8 =>
    some (.inr ((x2.1 + (1 : Int32)), v7, q8))
    else none
   else
    some (.inl (x2.1, x2.2.1, x2.2.2))
 ) gw_fl ((0 : Int32), p1, q1)).bind fun v2 =>
 (fM_lettersOf v2.2.1 v2.2.2).bind fun q9 =>
 if q9 = 0 then
  if inb ((480 : Int32) + v2.2.1) 1361 then
  gw_let (sMZ v2.2.2 (upd (mZ v2.2.2) ((480 : Int32) + v2.2.1).toNatClampNeg (0 : Int32))) fun t12 =>
  some (v2.1, t12)
  else none
 else
  some (v2.1, v2.2.2)
def fM_remove  (t : MS) : Option (Int32 × MS) :=
 (fM_leafOf mBu (mTy t) t).bind fun q1 =>
 gw_let (α := Int32 → Option (Int32 × MS)) (fun v2 =>
  gw_let (sMT t v2) fun t5 =>
  if (mT t5) ≤ 0 then
   (fM_save t5).bind fun q7 =>
   (fM_removeLeaf q1 q7).bind fun q8 =>
   some (q8.1, q8.2)
  else
   some ((0 : Int32), t5)
 ) fun j2 =>
 if (mTy t) = 0 then
  j2 (1 : Int32)
 else
  if q1 = (-1 : Int32) then
   j2 (2 : Int32)
  else
   j2 (0 : Int32)
def fM_layBelow  (t : MS) : Option MS :=
 (gw_lp (σ := Int32 × MS) (ω := MS) (fun x1 =>
  if (160 : Int32) ≤ x1.1 then
   some (.inl x1.2)
  else
   if inb x1.1 160 then
   gw_let (sMBe x1.2 (upd (mBe x1.2) x1.1.toNatClampNeg (0 : Int32))) fun t4 =>
   some (.inr ((x1.1 + (1 : Int32)), t4))
   else none
 ) gw_fl ((0 : Int32), t)).bind fun v1 =>
 (gw_lp (σ := Int32 × MS) (ω := MS) (fun x5 =>
  if (160 : Int32) ≤ x5.1 then
   some (.inl x5.2)
  else
   (fM_isLeaf x5.1 x5.2).bind fun q7 =>
   if q7 = 0 then
    some (.inr ((x5.1 + (1 : Int32)), x5.2))
   else
    (gw_lp (σ := Int32 × MS) (ω := MS) (fun x9 =>
     if x9.1 = (-1 : Int32) then
      some (.inl x9.2)
     else
      if inb x9.1 160 then
      if inb x9.1 160 then
      gw_let (sMBe x9.2 (upd (mBe x9.2) x9.1.toNatClampNeg ((mBe x9.2 x9.1.toNatClampNeg) + (1 : Int32)))) fun t13 =>
      if inb ((160 : Int32) + x9.1) 1361 then
      gw_let (mZ t13 ((160 : Int32) + x9.1).toNatClampNeg) fun v15 =>
      some (.inr (v15, t13))
      else none
      else none
      else none
    ) gw_fl (x5.1, x5.2)).bind fun v9 =>
    some (.inr ((x5.1 + (1 : Int32)), v9))
 ) gw_fl ((0 : Int32), v1)).bind fun v5 =>
 some v5
def fM_layWord (p1 : Int32) (t : MS) : Option MS :=
 gw_let (sMWl t (0 : Int32)) fun t1 =>
 (gw_lp (σ := Int32 × Int32 × MS) (ω := Int32 × MS) (fun x2 =>
  (fM_isLeaf x2.2.1 x2.2.2).bind fun q3 =>
  if q3 = 0 then
   (gw_lp (σ := Int32 × Int32 × Int32) (ω := Int32 × Int32) (fun x5 =>
    if (9 : Int32) ≤ x5.2.2 then
     some (.inl (x5.1, x5.2.1))
    else
     if x5.2.1 = (-1 : Int32) then
      (fM_child x2.2.1 x5.2.2 x2.2.2).bind fun q8 =>
      gw_let (α := Unit → Option ((Int32 × Int32) ⊕ Int32 × Int32 × Int32)) (fun v9 =>
       gw_let (α := Int32 → Option ((Int32 × Int32) ⊕ Int32 × Int32 × Int32)) (fun v13 =>
        gw_let (x5.1 - v13) fun v16 =>
        some (.inr (v16, x5.2.1, (x5.2.2 + (1 : Int32))))
       ) fun j13 =>
       if q8 = (-1 : Int32) then
        j13 (0 : Int32)
       else
        if inb q8 160 then
        j13 (mBe x2.2.2 q8.toNatClampNeg)
        else none
      ) fun j9 =>
      if q8 = (-1 : Int32) then
       j9 ()
      else
       if inb q8 160 then
       if (mBe x2.2.2 q8.toNatClampNeg) ≤ x5.1 then
        j9 ()
       else
        some (.inr (x5.1, q8, (x5.2.2 + (1 : Int32))))
       else none
     else
      some (.inl (x5.1, x5.2.1))
   ) gw_fl (x2.1, (-1 : Int32), (0 : Int32))).bind fun v5 =>
   if inb ((320 : Int32) + v5.2) 1361 then
   if (mZ x2.2.2 ((320 : Int32) + v5.2).toNatClampNeg) ≤ 0 then
    some (.inr (v5.1, v5.2, x2.2.2))
   else
    if inb ((320 : Int32) + v5.2) 1361 then
    if inb (mWl x2.2.2) 13 then
    gw_let (sMWd x2.2.2 (upd (mWd x2.2.2) (mWl x2.2.2).toNatClampNeg (mZ x2.2.2 ((320 : Int32) + v5.2).toNatClampNeg))) fun t21 =>
    gw_let (sMWl t21 ((mWl t21) + (1 : Int32))) fun t22 =>
    some (.inr (v5.1, v5.2, t22))
    else none
    else none
   else none
  else
   some (.inl (x2.2.1, x2.2.2))
 ) gw_fl (p1, (0 : Int32), t1)).bind fun v2 =>
 gw_let (sMWf v2.2 v2.1) fun t23 =>
 (gw_lp (σ := Int32 × MS) (ω := MS) (fun x24 =>
  if inb ((640 : Int32) + v2.1) 1361 then
  (fM_lengthOf (mZ x24.2 ((640 : Int32) + v2.1).toNatClampNeg) x24.2).bind fun q26 =>
  if q26 ≤ x24.1 then
   some (.inl x24.2)
  else
   if inb ((640 : Int32) + v2.1) 1361 then
   (fM_letterOf (mZ x24.2 ((640 : Int32) + v2.1).toNatClampNeg) x24.1 x24.2).bind fun q29 =>
   if inb (mWl x24.2) 13 then
   gw_let (sMWd x24.2 (upd (mWd x24.2) (mWl x24.2).toNatClampNeg q29)) fun t31 =>
   gw_let (sMWl t31 ((mWl t31) + (1 : Int32))) fun t32 =>
   some (.inr ((x24.1 + (1 : Int32)), t32))
   else none
   else none
  else none
 ) gw_fl ((0 : Int32), t23)).bind fun v24 =>
 some v24
def fM_alike  (t : MS) : Option Int32 :=
 (gw_lp (σ := Int32) (ω := Int32) (fun x1 =>
  if (mTy t) ≤ x1 then
   some (.inl x1)
  else
   if (mWl t) ≤ x1 then
    some (.inl x1)
   else
    if inb x1 13 then
    if inb x1 12 then
    if (mWd t x1.toNatClampNeg) = (mBu t x1.toNatClampNeg) then
     some (.inr (x1 + (1 : Int32)))
    else
     some (.inl x1)
    else none
    else none
 ) gw_fl (0 : Int32)).bind fun v1 =>
 some v1
def fM_leafBeginning  (t : MS) : Option (Int32 × MS) :=
 (fM_layBelow t).bind fun q1 =>
 gw_lp (σ := Int32 × MS) (ω := (Int32 × MS)) (fun x2 =>
  if inb (0 : Int32) 160 then
  if (mBe x2.2 (0 : Int32).toNatClampNeg) ≤ x2.1 then
   some (.inl ((-1 : Int32), x2.2))
  else
   (fM_layWord x2.1 x2.2).bind fun q5 =>
   (fM_alike q5).bind fun q6 =>
   if q6 = (mTy q5) then
    some (.inl ((mWf q5), q5))
   else
    some (.inr ((x2.1 + (1 : Int32)), q5))
  else none
 ) gw_fl ((0 : Int32), q1)
def fM_removeAll  (t : MS) : Option (Int32 × MS) :=
 gw_let (sMT t (0 : Int32)) fun t1 =>
 (fM_save t1).bind fun q2 =>
 (fM_leafBeginning q2).bind fun q3 =>
 (gw_lp (σ := Int32 × Int32 × MS) (ω := Int32 × MS) (fun x4 =>
  if x4.2.1 = (-1 : Int32) then
   some (.inl (x4.1, x4.2.2))
  else
   (fM_removeLeaf x4.2.1 x4.2.2).bind fun q6 =>
   (fM_leafBeginning q6.2).bind fun q7 =>
   some (.inr ((x4.1 + (1 : Int32)), q7.1, q7.2))
 ) gw_fl ((0 : Int32), q3.1, q3.2)).bind fun v4 =>
 some (v4.1, v4.2)
def fM_used  (t : MS) : Option Int32 :=
 (gw_lp (σ := Int32 × Int32) (ω := Int32) (fun x1 =>
  if (160 : Int32) ≤ x1.2 then
   some (.inl x1.1)
  else
   (fM_isUsed x1.2 t).bind fun q3 =>
   gw_let (α := Int32 → Option (Int32 ⊕ Int32 × Int32)) (fun v4 =>
    gw_let (x1.1 + v4) fun v6 =>
    some (.inr (v6, (x1.2 + (1 : Int32))))
   ) fun j4 =>
   if q3 = 0 then
    j4 (0 : Int32)
   else
    j4 (1 : Int32)
 ) gw_fl ((0 : Int32), (0 : Int32))).bind fun v1 =>
 some v1
def fM_packIt  (t : MS) : Option (Int32 × MS) :=
 (fM_layBelow t).bind fun q1 =>
 if inb (0 : Int32) 160 then
 gw_let (mBe q1 (0 : Int32).toNatClampNeg) fun v3 =>
 (gw_lp (σ := Int32 × MS) (ω := MS) (fun x4 =>
  if v3 ≤ x4.1 then
   some (.inl x4.2)
  else
   (fM_layWord x4.1 x4.2).bind fun q6 =>
   if inb ((13 : Int32) * x4.1) 2080 then
   gw_let (sMWs q6 (upd (mWs q6) ((13 : Int32) * x4.1).toNatClampNeg (mWl q6))) fun t8 =>
   (gw_lp (σ := Int32 × MS) (ω := MS) (fun x9 =>
    if (mWl x9.2) ≤ x9.1 then
     some (.inl x9.2)
    else
     if inb x9.1 13 then
     if inb ((((13 : Int32) * x4.1) + (1 : Int32)) + x9.1) 2080 then
     gw_let (sMWs x9.2 (upd (mWs x9.2) ((((13 : Int32) * x4.1) + (1 : Int32)) + x9.1).toNatClampNeg (mWd x9.2 x9.1.toNatClampNeg))) fun t13 =>
     some (.inr ((x9.1 + (1 : Int32)), t13))
     else none
     else none
   ) gw_fl ((0 : Int32), t8)).bind fun v9 =>
   some (.inr ((x4.1 + (1 : Int32)), v9))
   else none
 ) gw_fl ((0 : Int32), q1)).bind fun v4 =>
 (fM_clearTable v4).bind fun q14 =>
 (gw_lp (σ := Int32 × Int32 × MS) (ω := Int32 × MS) (fun x15 =>
  if v3 ≤ x15.2.1 then
   some (.inl (x15.1, x15.2.2))
  else
   if x15.1 = 0 then
    some (.inl (x15.1, x15.2.2))
   else
    (gw_lp (σ := Int32 × MS) (ω := MS) (fun x18 =>
     if inb ((13 : Int32) * x15.2.1) 2080 then
     if (mWs x18.2 ((13 : Int32) * x15.2.1).toNatClampNeg) ≤ x18.1 then
      some (.inl x18.2)
     else
      if inb ((((13 : Int32) * x15.2.1) + (1 : Int32)) + x18.1) 2080 then
      if inb x18.1 12 then
      gw_let (sMRo x18.2 (upd (mRo x18.2) x18.1.toNatClampNeg (mWs x18.2 ((((13 : Int32) * x15.2.1) + (1 : Int32)) + x18.1).toNatClampNeg))) fun t23 =>
      some (.inr ((x18.1 + (1 : Int32)), t23))
      else none
      else none
     else none
    ) gw_fl ((0 : Int32), x15.2.2)).bind fun v18 =>
    if inb ((13 : Int32) * x15.2.1) 2080 then
    (fM_addWord mRo (mWs v18 ((13 : Int32) * x15.2.1).toNatClampNeg) v18).bind fun q25 =>
    gw_let (α := Int32 → Option ((Int32 × MS) ⊕ Int32 × Int32 × MS)) (fun v26 =>
     some (.inr (v26, (x15.2.1 + (1 : Int32)), q25.2))
    ) fun j26 =>
    if q25.1 = 0 then
     j26 (1 : Int32)
    else
     j26 (0 : Int32)
    else none
 ) gw_fl ((1 : Int32), (0 : Int32), q14)).bind fun v15 =>
 if (v15.1 = 0 ∨ v15.1 = 1) then
 some (v15.1, v15.2)
 else none
 else none
def fM_pack  (t : MS) : Option (Int32 × MS) :=
 (fM_used t).bind fun q1 =>
 (fM_putAside t).bind fun q2 =>
 (fM_packIt q2).bind fun q3 =>
 gw_let (α := Int32 → Option (Int32 × MS)) (fun v4 =>
  gw_let (sMT q3.2 v4) fun t6 =>
  (fM_bringBack t6).bind fun q7 =>
  if (mT q7) ≤ 0 then
   (fM_save q7).bind fun q9 =>
   (fM_packIt q9).bind fun q10 =>
   (fM_used q10.2).bind fun q11 =>
   some (((q1 - q11) + (1000 : Int32)), q10.2)
  else
   some ((0 : Int32), q7)
 ) fun j4 =>
 if q3.1 = 0 then
  j4 (1 : Int32)
 else
  j4 (0 : Int32)
def fM_toldCell (p1 : Int32) (p2 : Int32) (t : MS) : Option (Int32 × MS) :=
 if p2 = 0 then
  if inb ((0 : Int32) + p1) 1361 then
  some ((mZ t ((0 : Int32) + p1).toNatClampNeg), t)
  else none
 else if p2 = 1 then
  if inb ((160 : Int32) + p1) 1361 then
  some ((mZ t ((160 : Int32) + p1).toNatClampNeg), t)
  else none
 else if p2 = 2 then
  if inb ((320 : Int32) + p1) 1361 then
  some ((mZ t ((320 : Int32) + p1).toNatClampNeg), t)
  else none
 else if p2 = 3 then
  (fM_offset p1 t).bind fun q8 =>
  some (q8, t)
 else if p2 = 4 then
  if inb ((640 : Int32) + p1) 1361 then
  some ((mZ t ((640 : Int32) + p1).toNatClampNeg), t)
  else none
 else if p2 = 5 then
  (fM_lettersOf p1 t).bind fun q12 =>
  (fM_bits q12).bind fun q13 =>
  some (q13, t)
 else
  (fM_layBelow t).bind fun q14 =>
  if inb p1 160 then
  some ((mBe q14 p1.toNatClampNeg), q14)
  else none
def fM_cell (p1 : Int32) (p2 : Int32) (t : MS) : Option (Int32 × MS) :=
 gw_let (α := Int32 → Option (Int32 × MS)) (fun v1 =>
  gw_let (sMT t v1) fun t4 =>
  if (mT t4) ≤ 0 then
   (fM_toldCell p1 p2 t4).bind fun q6 =>
   some (q6.1, q6.2)
  else
   some ((0 : Int32), t4)
 ) fun j1 =>
 if (fM_in p1 (0 : Int32) (159 : Int32)) = 0 then
  j1 (1 : Int32)
 else
  if (fM_in p2 (0 : Int32) (6 : Int32)) = 0 then
   j1 (2 : Int32)
  else
   j1 (0 : Int32)
def fM_toldEnd (p1 : Int32) (p2 : Int32) (t : MS) : Option Int32 :=
 if p2 = 0 then
  (fM_usersOf p1 t).bind fun q2 =>
  some q2
 else
  (fM_usersOf p1 t).bind fun q3 =>
  if q3 = 0 then
   some (-1 : Int32)
  else
   (fM_lengthOf p1 t).bind fun q5 =>
   some q5
def fM_end (p1 : Int32) (p2 : Int32) (t : MS) : Option (Int32 × MS) :=
 gw_let (α := Int32 → Option (Int32 × MS)) (fun v1 =>
  gw_let (sMT t v1) fun t4 =>
  if (mT t4) ≤ 0 then
   (fM_toldEnd p1 p2 t4).bind fun q6 =>
   some (q6, t4)
  else
   some ((0 : Int32), t4)
 ) fun j1 =>
 if (fM_in p1 (0 : Int32) (39 : Int32)) = 0 then
  j1 (1 : Int32)
 else
  if (fM_in p2 (0 : Int32) (1 : Int32)) = 0 then
   j1 (2 : Int32)
  else
   j1 (0 : Int32)
def fM_letter (p1 : Int32) (p2 : Int32) (t : MS) : Option (Int32 × MS) :=
 gw_let (α := Int32 → Option (Int32 × MS)) (fun v1 =>
  gw_let (sMT t v1) fun t4 =>
  if (mT t4) ≤ 0 then
   (fM_usersOf p1 t4).bind fun q6 =>
   if q6 ≤ 0 then
    some ((-1 : Int32), t4)
   else
    (fM_lengthOf p1 t4).bind fun q8 =>
    if q8 ≤ p2 then
     some ((-1 : Int32), t4)
    else
     (fM_letterOf p1 p2 t4).bind fun q10 =>
     some (q10, t4)
  else
   some ((0 : Int32), t4)
 ) fun j1 =>
 if (fM_in p1 (0 : Int32) (39 : Int32)) = 0 then
  j1 (1 : Int32)
 else
  if (fM_in p2 (0 : Int32) (11 : Int32)) = 0 then
   j1 (2 : Int32)
  else
   j1 (0 : Int32)
def fM_cellsOf (p1 : Int32) (t : MS) : Option Int32 :=
 (gw_lp (σ := Int32 × Int32) (ω := Int32) (fun x1 =>
  if (160 : Int32) ≤ x1.2 then
   some (.inl x1.1)
  else
   if inb ((0 : Int32) + x1.2) 1361 then
   gw_let (α := Int32 → Option (Int32 ⊕ Int32 × Int32)) (fun v4 =>
    gw_let (x1.1 + v4) fun v6 =>
    some (.inr (v6, (x1.2 + (1 : Int32))))
   ) fun j4 =>
   if (mZ t ((0 : Int32) + x1.2).toNatClampNeg) = p1 then
    j4 (1 : Int32)
   else
    j4 (0 : Int32)
   else none
 ) gw_fl ((0 : Int32), (0 : Int32))).bind fun v1 =>
 some v1
def fM_ends  (t : MS) : Option Int32 :=
 (gw_lp (σ := Int32 × Int32) (ω := Int32) (fun x1 =>
  if (40 : Int32) ≤ x1.2 then
   some (.inl x1.1)
  else
   (fM_usersOf x1.2 t).bind fun q3 =>
   gw_let (α := Int32 → Option (Int32 ⊕ Int32 × Int32)) (fun v4 =>
    gw_let (x1.1 + v4) fun v6 =>
    some (.inr (v6, (x1.2 + (1 : Int32))))
   ) fun j4 =>
   if q3 ≤ 0 then
    j4 (0 : Int32)
   else
    j4 (1 : Int32)
 ) gw_fl ((0 : Int32), (0 : Int32))).bind fun v1 =>
 some v1
def fM_lettersOfEnds  (t : MS) : Option Int32 :=
 (gw_lp (σ := Int32 × Int32) (ω := Int32) (fun x1 =>
  if (40 : Int32) ≤ x1.2 then
   some (.inl x1.1)
  else
   (fM_usersOf x1.2 t).bind fun q3 =>
   gw_let (α := Int32 → Option (Int32 ⊕ Int32 × Int32)) (fun v4 =>
    gw_let (x1.1 + v4) fun v7 =>
    some (.inr (v7, (x1.2 + (1 : Int32))))
   ) fun j4 =>
   if q3 ≤ 0 then
    j4 (0 : Int32)
   else
    (fM_lengthOf x1.2 t).bind fun q6 =>
    j4 q6
 ) gw_fl ((0 : Int32), (0 : Int32))).bind fun v1 =>
 some v1
def fM_greatest  (t : MS) : Option Int32 :=
 (gw_lp (σ := Int32 × Int32) (ω := Int32) (fun x1 =>
  if (160 : Int32) ≤ x1.2 then
   some (.inl x1.1)
  else
   (fM_isUsed x1.2 t).bind fun q3 =>
   gw_let (α := Int32 → Option (Int32 ⊕ Int32 × Int32)) (fun v4 =>
    some (.inr (v4, (x1.2 + (1 : Int32))))
   ) fun j4 =>
   if q3 = 0 then
    j4 x1.1
   else
    j4 x1.2
 ) gw_fl ((0 : Int32), (0 : Int32))).bind fun v1 =>
 some v1
def fM_lettersOfWords  (t : MS) : Option (Int32 × MS) :=
 (fM_layBelow t).bind fun q1 =>
 (gw_lp (σ := Int32 × Int32 × MS) (ω := Int32 × MS) (fun x2 =>
  if inb (0 : Int32) 160 then
  if (mBe x2.2.2 (0 : Int32).toNatClampNeg) ≤ x2.2.1 then
   some (.inl (x2.1, x2.2.2))
  else
   (fM_layWord x2.2.1 x2.2.2).bind fun q5 =>
   gw_let (x2.1 + (mWl q5)) fun v6 =>
   some (.inr (v6, (x2.2.1 + (1 : Int32)), q5))
  else none
 ) gw_fl ((0 : Int32), (0 : Int32), q1)).bind fun v2 =>
 some (v2.1, v2.2)
def fM_counted (p1 : Int32) (t : MS) : Option (Int32 × MS) :=
 if p1 = 0 then
  (fM_cellsOf (2 : Int32) t).bind fun q2 =>
  some (q2, t)
 else if p1 = 1 then
  (fM_used t).bind fun q4 =>
  some (q4, t)
 else if p1 = 2 then
  (fM_cellsOf (1 : Int32) t).bind fun q6 =>
  some (q6, t)
 else if p1 = 3 then
  (fM_ends t).bind fun q8 =>
  some (q8, t)
 else if p1 = 4 then
  (fM_lettersOfEnds t).bind fun q10 =>
  some (q10, t)
 else if p1 = 5 then
  if inb (1360 : Int32) 1361 then
  some ((mZ t (1360 : Int32).toNatClampNeg), t)
  else none
 else if p1 = 6 then
  (fM_greatest t).bind fun q14 =>
  some (q14, t)
 else if p1 = 7 then
  (fM_lettersOfWords t).bind fun q16 =>
  some (q16.1, q16.2)
 else if p1 = 8 then
  some ((mTy t), t)
 else
  some ((mSm t), t)
def fM_count (p1 : Int32) (t : MS) : Option (Int32 × MS) :=
 gw_let (α := Int32 → Option (Int32 × MS)) (fun v1 =>
  gw_let (sMT t v1) fun t3 =>
  if (mT t3) ≤ 0 then
   (fM_counted p1 t3).bind fun q5 =>
   some (q5.1, q5.2)
  else
   some ((0 : Int32), t3)
 ) fun j1 =>
 if (fM_in p1 (0 : Int32) (9 : Int32)) = 0 then
  j1 (1 : Int32)
 else
  j1 (0 : Int32)
def fM_find  (t : MS) : Option (Int32 × MS) :=
 gw_let (sMT t (0 : Int32)) fun t1 =>
 (fM_leafOf mBu (mTy t1) t1).bind fun q2 =>
 some (q2, t1)
def fM_longestOne  (t : MS) : Option (Int32 × MS) :=
 (fM_layBelow t).bind fun q1 =>
 (gw_lp (σ := Int32 × Int32 × MS) (ω := Int32 × MS) (fun x2 =>
  if inb (0 : Int32) 160 then
  if (mBe x2.2.2 (0 : Int32).toNatClampNeg) ≤ x2.2.1 then
   some (.inl (x2.1, x2.2.2))
  else
   (fM_layWord x2.2.1 x2.2.2).bind fun q5 =>
   (fM_alike q5).bind fun q6 =>
   gw_let (α := Int32 → Option ((Int32 × MS) ⊕ Int32 × Int32 × MS)) (fun v8 =>
    some (.inr (v8, (x2.2.1 + (1 : Int32)), q5))
   ) fun j8 =>
   gw_let (α := Unit → Option ((Int32 × MS) ⊕ Int32 × Int32 × MS)) (fun v7 =>
    j8 x2.1
   ) fun j7 =>
   if q6 = (mWl q5) then
    if (mWl q5) ≤ x2.1 then
     j7 ()
    else
     j8 (mWl q5)
   else
    j7 ()
  else none
 ) gw_fl ((-1 : Int32), (0 : Int32), q1)).bind fun v2 =>
 some (v2.1, v2.2)
def fM_longest  (t : MS) : Option (Int32 × MS) :=
 gw_let (sMT t (0 : Int32)) fun t1 =>
 (fM_longestOne t1).bind fun q2 =>
 some (q2.1, q2.2)
def fM_beginningMany  (t : MS) : Option (Int32 × MS) :=
 (fM_layBelow t).bind fun q1 =>
 (gw_lp (σ := Int32 × Int32 × MS) (ω := Int32 × MS) (fun x2 =>
  if inb (0 : Int32) 160 then
  if (mBe x2.2.2 (0 : Int32).toNatClampNeg) ≤ x2.2.1 then
   some (.inl (x2.1, x2.2.2))
  else
   (fM_layWord x2.2.1 x2.2.2).bind fun q5 =>
   (fM_alike q5).bind fun q6 =>
   gw_let (α := Int32 → Option ((Int32 × MS) ⊕ Int32 × Int32 × MS)) (fun v7 =>
    gw_let (x2.1 + v7) fun v9 =>
    some (.inr (v9, (x2.2.1 + (1 : Int32)), q5))
   ) fun j7 =>
   if q6 = (mTy q5) then
    j7 (1 : Int32)
   else
    j7 (0 : Int32)
  else none
 ) gw_fl ((0 : Int32), (0 : Int32), q1)).bind fun v2 =>
 some (v2.1, v2.2)
def fM_beginning  (t : MS) : Option (Int32 × MS) :=
 gw_let (sMT t (0 : Int32)) fun t1 =>
 (fM_beginningMany t1).bind fun q2 =>
 some (q2.1, q2.2)
def fM_aheadMany  (t : MS) : Option (Int32 × MS) :=
 (fM_layBelow t).bind fun q1 =>
 (gw_lp (σ := Int32 × Int32 × MS) (ω := Int32 × MS) (fun x2 =>
  if inb (0 : Int32) 160 then
  if (mBe x2.2.2 (0 : Int32).toNatClampNeg) ≤ x2.2.1 then
   some (.inl (x2.1, x2.2.2))
  else
   (fM_layWord x2.2.1 x2.2.2).bind fun q5 =>
   (fM_alike q5).bind fun q6 =>
   gw_let (α := Int32 → Option ((Int32 × MS) ⊕ Int32 × Int32 × MS)) (fun v8 =>
    gw_let (α := Int32 → Option ((Int32 × MS) ⊕ Int32 × Int32 × MS)) (fun v15 =>
     gw_let (x2.1 + v15) fun v17 =>
     some (.inr (v17, (x2.2.1 + (1 : Int32)), q5))
    ) fun j15 =>
    if v8 = 0 then
     j15 (0 : Int32)
    else
     j15 (1 : Int32)
   ) fun j8 =>
   gw_let (α := Unit → Option ((Int32 × MS) ⊕ Int32 × Int32 × MS)) (fun v7 =>
    j8 (0 : Int32)
   ) fun j7 =>
   if (mTy q5) ≤ q6 then
    j7 ()
   else
    gw_let (α := Unit → Option ((Int32 × MS) ⊕ Int32 × Int32 × MS)) (fun v10 =>
     j8 (1 : Int32)
    ) fun j10 =>
    if q6 = (mWl q5) then
     j10 ()
    else
     if inb q6 13 then
     if inb q6 12 then
     if (mBu q5 q6.toNatClampNeg) ≤ (mWd q5 q6.toNatClampNeg) then
      j7 ()
     else
      j10 ()
     else none
     else none
  else none
 ) gw_fl ((0 : Int32), (0 : Int32), q1)).bind fun v2 =>
 some (v2.1, v2.2)
def fM_ahead  (t : MS) : Option (Int32 × MS) :=
 gw_let (sMT t (0 : Int32)) fun t1 =>
 (fM_aheadMany t1).bind fun q2 =>
 some (q2.1, q2.2)
def fM_toldWord (p1 : Int32) (p2 : Int32) (t : MS) : Option (Int32 × MS) :=
 (fM_layBelow t).bind fun q1 =>
 if inb (0 : Int32) 160 then
 if p1 < (mBe q1 (0 : Int32).toNatClampNeg) then
  (fM_layWord p1 q1).bind fun q4 =>
  if (mWl q4) ≤ p2 then
   if p2 = (mWl q4) then
    some ((0 : Int32), q4)
   else
    some ((-1 : Int32), q4)
  else
   if inb p2 13 then
   some ((mWd q4 p2.toNatClampNeg), q4)
   else none
 else
  some ((-1 : Int32), q1)
 else none
def fM_word (p1 : Int32) (p2 : Int32) (t : MS) : Option (Int32 × MS) :=
 gw_let (α := Int32 → Option (Int32 × MS)) (fun v2 =>
  gw_let (sMT t v2) fun t5 =>
  if (mT t5) ≤ 0 then
   (fM_toldWord p1 p2 t5).bind fun q7 =>
   some (q7.1, q7.2)
  else
   some ((0 : Int32), t5)
 ) fun j2 =>
 gw_let (α := Unit → Option (Int32 × MS)) (fun v1 =>
  j2 (1 : Int32)
 ) fun j1 =>
 if p1 < 0 then
  j1 ()
 else
  if (fM_in p2 (0 : Int32) (12 : Int32)) = 0 then
   j1 ()
  else
   j2 (0 : Int32)
def fM_wouldAdd (p1 : Int32) (t : MS) : Option (Int32 × MS) :=
 (fM_used t).bind fun q1 =>
 if inb (1360 : Int32) 1361 then
 gw_let (mZ t (1360 : Int32).toNatClampNeg) fun v3 =>
 (fM_ends t).bind fun q4 =>
 (fM_addIt t).bind fun q5 =>
 gw_let (α := Int32 → Option (Int32 × MS)) (fun v6 =>
  if q5.1 = 0 then
   gw_let (α := Int32 → Option (Int32 × MS)) (fun v9 =>
    (fM_bringBack q5.2).bind fun q16 =>
    some (v9, q16)
   ) fun j9 =>
   if p1 = 0 then
    j9 q5.1
   else
    if p1 = (1 : Int32) then
     (fM_used q5.2).bind fun q12 =>
     j9 (q12 - q1)
    else
     if p1 = (2 : Int32) then
      if inb (1360 : Int32) 1361 then
      j9 ((mZ q5.2 (1360 : Int32).toNatClampNeg) - v3)
      else none
     else
      (fM_ends q5.2).bind fun q15 =>
      j9 ((q15 - q4) + (100 : Int32))
  else
   some (v6, q5.2)
 ) fun j6 =>
 if p1 = 0 then
  j6 q5.1
 else
  j6 (-1 : Int32)
 else none
def fM_ifAdded (p1 : Int32) (t : MS) : Option (Int32 × MS) :=
 gw_let (α := Int32 → Option (Int32 × MS)) (fun v1 =>
  gw_let (sMT t v1) fun t3 =>
  if (mT t3) ≤ 0 then
   (fM_wouldAdd p1 t3).bind fun q5 =>
   some (q5.1, q5.2)
  else
   some ((0 : Int32), t3)
 ) fun j1 =>
 if (fM_in p1 (0 : Int32) (3 : Int32)) = 0 then
  j1 (1 : Int32)
 else
  j1 (0 : Int32)
def fM_wouldPack  (t : MS) : Option (Int32 × MS) :=
 (fM_putAside t).bind fun q1 =>
 (fM_packIt q1).bind fun q2 =>
 gw_let (α := Int32 → Option (Int32 × MS)) (fun v3 =>
  (fM_bringBack q2.2).bind fun q6 =>
  some (v3, q6)
 ) fun j3 =>
 if q2.1 = 0 then
  j3 (-1 : Int32)
 else
  (fM_used q2.2).bind fun q5 =>
  j3 q5
def fM_ifPacked  (t : MS) : Option (Int32 × MS) :=
 gw_let (sMT t (0 : Int32)) fun t1 =>
 (fM_wouldPack t1).bind fun q2 =>
 some (q2.1, q2.2)
def fM_full  (t : MS) : Option UInt64 :=
 (fM_used t).bind fun q1 =>
 (fM_greatest t).bind fun q2 =>
 if nn64 (FP.ddiv (FP.i2d q1) (FP.i2d (q2 + (1 : Int32)))) then
 some (FP.ddiv (FP.i2d q1) (FP.i2d (q2 + (1 : Int32))))
 else none
def fM_fullness  (t : MS) : Option (UInt64 × MS) :=
 gw_let (sMT t (0 : Int32)) fun t1 =>
 (fM_full t1).bind fun q2 =>
 some (q2, t1)
def fM_bitsOf (p1 : UInt64) : Option Int64 :=
 if (Op.cmpValue (FP.dcmp p1 (0 : UInt64)) .l) = 0 then
  some (0 : Int64)
 else
  (gw_lp (σ := UInt64 × Int64) (ω := UInt64 × Int64) (fun x2 =>
   if (Op.cmpValue (FP.dcmp x2.1 (4611686018427387904 : UInt64)) .l) < 0 then
    some (.inl (x2.1, x2.2))
   else
    if nn64 (FP.ddiv x2.1 (4611686018427387904 : UInt64)) then
    gw_let (FP.ddiv x2.1 (4611686018427387904 : UInt64)) fun v5 =>
    gw_let (x2.2 + (1 : Int64)) fun v6 =>
    some (.inr (v5, v6))
    else none
  ) gw_fl (p1, (1023 : Int64))).bind fun v2 =>
  (gw_lp (σ := UInt64 × Int64) (ω := UInt64 × Int64) (fun x7 =>
   if 0 ≤ (Op.cmpValue (FP.dcmp x7.1 (0x3ff0000000000000 : UInt64)) .g) then
    some (.inl (x7.1, x7.2))
   else
    if nn64 (FP.dmul x7.1 (4611686018427387904 : UInt64)) then
    gw_let (FP.dmul x7.1 (4611686018427387904 : UInt64)) fun v10 =>
    gw_let (x7.2 - (1 : Int64)) fun v11 =>
    some (.inr (v10, v11))
    else none
  ) gw_fl (v2.1, v2.2)).bind fun v7 =>
  if nn64 (FP.dmul v7.1 (4841369599423283200 : UInt64)) then
  some (((v7.2 <<< ((52 : Int32).toInt64 &&& 63)) + (FP.d2l (FP.dmul v7.1 (4841369599423283200 : UInt64)))) - (4503599627370496 : Int64))
  else none
def fM_mix (p1 : Int64) (t : MS) : MS :=
 gw_let (sMH t (((31 : Int64) * (mH t)) + p1)) fun t1 =>
 t1
def fM_mixTable  (t : MS) : Option MS :=
 (gw_lp (σ := Int32 × MS) (ω := MS) (fun x1 =>
  if (160 : Int32) ≤ x1.1 then
   some (.inl x1.2)
  else
   (fM_isUsed x1.1 x1.2).bind fun q3 =>
   if q3 = 0 then
    some (.inr ((x1.1 + (1 : Int32)), x1.2))
   else
    gw_let (fM_mix x1.1.toInt64 x1.2) fun q5 =>
    (gw_lp (σ := Int32 × MS) (ω := MS) (fun x6 =>
     if (6 : Int32) < x6.1 then
      some (.inl x6.2)
     else
      (fM_toldCell x1.1 x6.1 x6.2).bind fun q8 =>
      gw_let (fM_mix q8.1.toInt64 q8.2) fun q9 =>
      some (.inr ((x6.1 + (1 : Int32)), q9))
    ) gw_fl ((0 : Int32), q5)).bind fun v6 =>
    some (.inr ((x1.1 + (1 : Int32)), v6))
 ) gw_fl ((0 : Int32), t)).bind fun v1 =>
 (gw_lp (σ := Int32 × MS) (ω := MS) (fun x10 =>
  if (40 : Int32) ≤ x10.1 then
   some (.inl x10.2)
  else
   (fM_usersOf x10.1 x10.2).bind fun q12 =>
   if q12 ≤ 0 then
    some (.inr ((x10.1 + (1 : Int32)), x10.2))
   else
    gw_let (fM_mix x10.1.toInt64 x10.2) fun q14 =>
    (fM_toldEnd x10.1 (0 : Int32) q14).bind fun q15 =>
    gw_let (fM_mix q15.toInt64 q14) fun q16 =>
    (fM_toldEnd x10.1 (1 : Int32) q16).bind fun q17 =>
    gw_let (fM_mix q17.toInt64 q16) fun q18 =>
    (gw_lp (σ := Int32 × MS) (ω := MS) (fun x19 =>
     (fM_lengthOf x10.1 x19.2).bind fun q20 =>
     if q20 ≤ x19.1 then
      some (.inl x19.2)
     else
      (fM_letterOf x10.1 x19.1 x19.2).bind fun q22 =>
      gw_let (fM_mix q22.toInt64 x19.2) fun q23 =>
      some (.inr ((x19.1 + (1 : Int32)), q23))
    ) gw_fl ((0 : Int32), q18)).bind fun v19 =>
    some (.inr ((x10.1 + (1 : Int32)), v19))
 ) gw_fl ((0 : Int32), v1)).bind fun v10 =>
 some v10
def fM_digest  (t : MS) : Option (Int64 × MS) :=
 gw_let (sMT t (0 : Int32)) fun t1 =>
 gw_let (sMH t1 (2801 : Int64)) fun t2 =>
 (gw_lp (σ := Int32 × MS) (ω := MS) (fun x3 =>
  if (9 : Int32) < x3.1 then
   some (.inl x3.2)
  else
   (fM_counted x3.1 x3.2).bind fun q5 =>
   gw_let (fM_mix q5.1.toInt64 q5.2) fun q6 =>
   some (.inr ((x3.1 + (1 : Int32)), q6))
 ) gw_fl ((0 : Int32), t2)).bind fun v3 =>
 (fM_mixTable v3).bind fun q7 =>
 (fM_leafOf mBu (mTy q7) q7).bind fun q8 =>
 gw_let (fM_mix q8.toInt64 q7) fun q9 =>
 (fM_longestOne q9).bind fun q10 =>
 gw_let (fM_mix q10.1.toInt64 q10.2) fun q11 =>
 (fM_beginningMany q11).bind fun q12 =>
 gw_let (fM_mix q12.1.toInt64 q12.2) fun q13 =>
 (fM_aheadMany q13).bind fun q14 =>
 gw_let (fM_mix q14.1.toInt64 q14.2) fun q15 =>
 (gw_lp (σ := Int32 × MS) (ω := MS) (fun x16 =>
  if (2 : Int32) < x16.1 then
   some (.inl x16.2)
  else
   (gw_lp (σ := Int32 × MS) (ω := MS) (fun x18 =>
    if (12 : Int32) < x18.1 then
     some (.inl x18.2)
    else
     (fM_toldWord x16.1 x18.1 x18.2).bind fun q20 =>
     gw_let (fM_mix q20.1.toInt64 q20.2) fun q21 =>
     some (.inr ((x18.1 + (1 : Int32)), q21))
   ) gw_fl ((0 : Int32), x16.2)).bind fun v18 =>
   some (.inr ((x16.1 + (1 : Int32)), v18))
 ) gw_fl ((0 : Int32), q15)).bind fun v16 =>
 (gw_lp (σ := Int32 × MS) (ω := MS) (fun x22 =>
  if (3 : Int32) < x22.1 then
   some (.inl x22.2)
  else
   (fM_wouldAdd x22.1 x22.2).bind fun q24 =>
   gw_let (fM_mix q24.1.toInt64 q24.2) fun q25 =>
   some (.inr ((x22.1 + (1 : Int32)), q25))
 ) gw_fl ((0 : Int32), v16)).bind fun v22 =>
 (fM_wouldPack v22).bind fun q26 =>
 gw_let (fM_mix q26.1.toInt64 q26.2) fun q27 =>
 (fM_full q27).bind fun q28 =>
 (fM_bitsOf q28).bind fun q29 =>
 gw_let (fM_mix q29 q27) fun q30 =>
 (gw_lp (σ := Int32 × MS) (ω := MS) (fun x31 =>
  if (mTy x31.2) ≤ x31.1 then
   some (.inl x31.2)
  else
   if inb x31.1 12 then
   gw_let (fM_mix ((mBu x31.2 x31.1.toNatClampNeg).toInt64) x31.2) fun q34 =>
   some (.inr ((x31.1 + (1 : Int32)), q34))
   else none
 ) gw_fl ((0 : Int32), q30)).bind fun v31 =>
 some ((mH v31), v31)
theorem hd_X4_thrown : yX4_thrown.cls = RX4 ∧ yX4_thrown.cls ≠ "java/lang/invoke/MethodHandle" ∧ yX4_thrown.cls ≠ "java/lang/invoke/VarHandle" ∧ (parseMethodDescriptor yX4_thrown.desc).map (fun d => d.parameters.length) = some 0 := by decide +kernel
set_option maxHeartbeats 4000000 in
set_option maxRecDepth 100000 in
theorem c_X4_thrown (l : Launch) (D : va_G) (cI cJ cO : ClassId) (a : Nat → Nat) (t : MS)  {o : Int32} (h : fM_thrown t = o) : Ct l D (tysA cI cJ cO) yX4_thrown wsX4_thrown (rmOf 0 0) [.ref (a 0)] (wM cI a t) (some (.int o)) (wM cI a t) := by
  refine Ct_of (own := RX4) cX4_thrown 1 (some .int) (by decide +kernel) rfl rfl (Nat.le_of_ble_eq_true rfl) ?_
  intro p e s m args below meth c A C hnm
  have iX4 : ∀ w ∈ u_ws RX4 TX4 16, w ∈ wsX4_thrown := fun w h => List.mem_cons_of_mem _ (List.mem_append_right _ h)
  have f40 : Cond.fieldLink RX4 40 (TX4 0).1 (TX4 0).2.1 (TX4 0).2.2.1 ∈ wsX4_thrown := List.mem_of_getElem? (i := 1) rfl
  have h : Rt o (fM_thrown t) := h
  unfold fM_thrown at h
  show gw_G p l e (rmOf 0 0) s m args below meth c D A (CtM D below (some (.int o)) (wM cI a t) A args s) 1 0 0 (wM cI a t) [(0, .ref (a 0))] 0 []
  refine gw_aload_n C dX4_thrown_0 0 rfl ?_
  refine gw_get C dX4_thrown_1 0 3 0 rfl rfl iX4 (by decide) f40 rfl ?_
  have ho : _ = o := h
  subst ho
  exact gw_iret C dX4_thrown_4
theorem hd_X4_in : yX4_in.cls = RX4 ∧ yX4_in.cls ≠ "java/lang/invoke/MethodHandle" ∧ yX4_in.cls ≠ "java/lang/invoke/VarHandle" ∧ (parseMethodDescriptor yX4_in.desc).map (fun d => d.parameters.length) = some 3 := by decide +kernel
set_option maxHeartbeats 4000000 in
set_option maxRecDepth 100000 in
theorem c_X4_in (l : Launch) (D : va_G) (cI cJ cO : ClassId) (p1 : Int32) (p2 : Int32) (p3 : Int32) {o : Int32} (h : fM_in p1 p2 p3 = o) : Ct l D (tysA cI cJ cO) yX4_in wsX4_in (rmOf 0 0) [.int p1, .int p2, .int p3] ([]) (some (.int o)) ([]) := by
  refine Ct_of (own := RX4) cX4_in 3 (some .boolean) (by decide +kernel) rfl rfl (Nat.le_of_ble_eq_true rfl) ?_
  intro p e s m args below meth c A C hnm
  have h : Rt o (fM_in p1 p2 p3) := h
  unfold fM_in at h
  show gw_G p l e (rmOf 0 0) s m args below meth c D A (CtM D below (some (.int o)) ([]) A args s) 3 0 0 ([]) [(0, .int p1), (1, .int p2), (2, .int p3)] 0 []
  refine gw_iload_n C dX4_in_0 0 rfl ?_
  refine gw_iload_n C dX4_in_1 1 rfl ?_
  refine gw_icmp_lt (tgt := 14) C dX4_in_2 (by decide) h (fun c1 h => ?_) (fun c1 h => ?_)
  · refine gw_iconst (v := (0 : Int32)) C dX4_in_14 rfl ?_
    have ho : _ = o := h
    subst ho
    exact gw_zret C (Or.inl rfl) dX4_in_15
  · refine gw_iload_n C dX4_in_5 0 rfl ?_
    refine gw_iload_n C dX4_in_6 2 rfl ?_
    refine gw_icmp_gt (tgt := 14) C dX4_in_7 (by decide) h (fun c2 h => ?_) (fun c2 h => ?_)
    · refine gw_iconst (v := (0 : Int32)) C dX4_in_14 rfl ?_
      have ho : _ = o := h
      subst ho
      exact gw_zret C (Or.inl rfl) dX4_in_15
    · refine gw_iconst (v := (1 : Int32)) C dX4_in_10 rfl ?_
      refine gw_goto (tgt := 15) C dX4_in_11 (by decide) ?_
      have ho : _ = o := h
      subst ho
      exact gw_zret C (Or.inr rfl) dX4_in_15
theorem hd_X4_isUsed : yX4_isUsed.cls = RX4 ∧ yX4_isUsed.cls ≠ "java/lang/invoke/MethodHandle" ∧ yX4_isUsed.cls ≠ "java/lang/invoke/VarHandle" ∧ (parseMethodDescriptor yX4_isUsed.desc).map (fun d => d.parameters.length) = some 1 := by decide +kernel
set_option maxHeartbeats 4000000 in
set_option maxRecDepth 100000 in
theorem c_X4_isUsed (l : Launch) (D : va_G) (cI cJ cO : ClassId) (a : Nat → Nat) (t : MS) (p1 : Int32) {o : Int32} (h : fM_isUsed p1 t = some o) : Ct l D (tysA cI cJ cO) yX4_isUsed wsX4_isUsed (rmOf 0 0) [.ref (a 0), .int p1] (wM cI a t) (some (.int o)) (wM cI a t) := by
  refine Ct_of (own := RX4) cX4_isUsed 2 (some .boolean) (by decide +kernel) rfl rfl (Nat.le_of_ble_eq_true rfl) ?_
  intro p e s m args below meth c A C hnm
  have iX4 : ∀ w ∈ u_ws RX4 TX4 16, w ∈ wsX4_isUsed := fun w h => List.mem_cons_of_mem _ (List.mem_append_right _ h)
  have f7 : Cond.fieldLink RX4 7 (TX4 1).1 (TX4 1).2.1 (TX4 1).2.2.1 ∈ wsX4_isUsed := List.mem_of_getElem? (i := 1) rfl
  have h := gw_top h
  unfold fM_isUsed at h
  show gw_G p l e (rmOf 0 0) s m args below meth c D A (CtM D below (some (.int o)) (wM cI a t) A args s) 2 0 0 (wM cI a t) [(0, .ref (a 0)), (1, .int p1)] 0 []
  refine gw_aload_n C dX4_isUsed_0 0 rfl ?_
  refine gw_get C dX4_isUsed_1 0 3 1 rfl rfl iX4 (by decide) f7 rfl ?_
  refine gw_iconst (v := (0 : Int32)) C dX4_isUsed_4 rfl ?_
  refine gw_iload_n C dX4_isUsed_5 1 rfl ?_
  refine gw_iadd C dX4_isUsed_6 ?_
  refine gw_chk h (fun b1 h => ?_)
  refine gw_iald C dX4_isUsed_7 1 0 rfl rfl b1 ?_
  refine gw_if_eq (tgt := 15) C dX4_isUsed_8 (by decide) h (fun c2 h => ?_) (fun c2 h => ?_)
  · refine gw_iconst (v := (0 : Int32)) C dX4_isUsed_15 rfl ?_
    have h := gw_some h
    have ho := Option.some.inj h
    subst ho
    exact gw_zret C (Or.inl rfl) dX4_isUsed_16
  · refine gw_iconst (v := (1 : Int32)) C dX4_isUsed_11 rfl ?_
    refine gw_goto (tgt := 16) C dX4_isUsed_12 (by decide) ?_
    have h := gw_some h
    have ho := Option.some.inj h
    subst ho
    exact gw_zret C (Or.inr rfl) dX4_isUsed_16
theorem hd_X4_isLeaf : yX4_isLeaf.cls = RX4 ∧ yX4_isLeaf.cls ≠ "java/lang/invoke/MethodHandle" ∧ yX4_isLeaf.cls ≠ "java/lang/invoke/VarHandle" ∧ (parseMethodDescriptor yX4_isLeaf.desc).map (fun d => d.parameters.length) = some 1 := by decide +kernel
set_option maxHeartbeats 4000000 in
set_option maxRecDepth 100000 in
theorem c_X4_isLeaf (l : Launch) (D : va_G) (cI cJ cO : ClassId) (a : Nat → Nat) (t : MS) (p1 : Int32) {o : Int32} (h : fM_isLeaf p1 t = some o) : Ct l D (tysA cI cJ cO) yX4_isLeaf wsX4_isLeaf (rmOf 0 0) [.ref (a 0), .int p1] (wM cI a t) (some (.int o)) (wM cI a t) := by
  refine Ct_of (own := RX4) cX4_isLeaf 2 (some .boolean) (by decide +kernel) rfl rfl (Nat.le_of_ble_eq_true rfl) ?_
  intro p e s m args below meth c A C hnm
  have iX4 : ∀ w ∈ u_ws RX4 TX4 16, w ∈ wsX4_isLeaf := fun w h => List.mem_cons_of_mem _ (List.mem_append_right _ h)
  have f7 : Cond.fieldLink RX4 7 (TX4 1).1 (TX4 1).2.1 (TX4 1).2.2.1 ∈ wsX4_isLeaf := List.mem_of_getElem? (i := 1) rfl
  have h := gw_top h
  unfold fM_isLeaf at h
  show gw_G p l e (rmOf 0 0) s m args below meth c D A (CtM D below (some (.int o)) (wM cI a t) A args s) 2 0 0 (wM cI a t) [(0, .ref (a 0)), (1, .int p1)] 0 []
  refine gw_aload_n C dX4_isLeaf_0 0 rfl ?_
  refine gw_get C dX4_isLeaf_1 0 3 1 rfl rfl iX4 (by decide) f7 rfl ?_
  refine gw_iconst (v := (0 : Int32)) C dX4_isLeaf_4 rfl ?_
  refine gw_iload_n C dX4_isLeaf_5 1 rfl ?_
  refine gw_iadd C dX4_isLeaf_6 ?_
  refine gw_chk h (fun b1 h => ?_)
  refine gw_iald C dX4_isLeaf_7 1 0 rfl rfl b1 ?_
  refine gw_iconst (v := (2 : Int32)) C dX4_isLeaf_8 rfl ?_
  refine gw_icmp_ne (tgt := 16) C dX4_isLeaf_9 (by decide) h (fun c2 h => ?_) (fun c2 h => ?_)
  · refine gw_iconst (v := (1 : Int32)) C dX4_isLeaf_12 rfl ?_
    refine gw_goto (tgt := 17) C dX4_isLeaf_13 (by decide) ?_
    have h := gw_some h
    have ho := Option.some.inj h
    subst ho
    exact gw_zret C (Or.inr rfl) dX4_isLeaf_17
  · refine gw_iconst (v := (0 : Int32)) C dX4_isLeaf_16 rfl ?_
    have h := gw_some h
    have ho := Option.some.inj h
    subst ho
    exact gw_zret C (Or.inl rfl) dX4_isLeaf_17
theorem hd_X4_offset : yX4_offset.cls = RX4 ∧ yX4_offset.cls ≠ "java/lang/invoke/MethodHandle" ∧ yX4_offset.cls ≠ "java/lang/invoke/VarHandle" ∧ (parseMethodDescriptor yX4_offset.desc).map (fun d => d.parameters.length) = some 1 := by decide +kernel
set_option maxHeartbeats 4000000 in
set_option maxRecDepth 100000 in
theorem c_X4_offset (l : Launch) (D : va_G) (cI cJ cO : ClassId) (a : Nat → Nat) (t : MS) (p1 : Int32) {o : Int32} (h : fM_offset p1 t = some o) : Ct l D (tysA cI cJ cO) yX4_offset wsX4_offset (rmOf 0 0) [.ref (a 0), .int p1] (wM cI a t) (some (.int o)) (wM cI a t) := by
  refine Ct_of (own := RX4) cX4_offset 2 (some .int) (by decide +kernel) rfl rfl (Nat.le_of_ble_eq_true rfl) ?_
  intro p e s m args below meth c A C hnm
  have iX4 : ∀ w ∈ u_ws RX4 TX4 16, w ∈ wsX4_offset := fun w h => List.mem_cons_of_mem _ (List.mem_append_right _ h)
  have f7 : Cond.fieldLink RX4 7 (TX4 1).1 (TX4 1).2.1 (TX4 1).2.2.1 ∈ wsX4_offset := List.mem_of_getElem? (i := 1) rfl
  have h := gw_top h
  unfold fM_offset at h
  show gw_G p l e (rmOf 0 0) s m args below meth c D A (CtM D below (some (.int o)) (wM cI a t) A args s) 2 0 0 (wM cI a t) [(0, .ref (a 0)), (1, .int p1)] 0 []
  refine gw_aload_n C dX4_offset_0 0 rfl ?_
  refine gw_get C dX4_offset_1 0 3 1 rfl rfl iX4 (by decide) f7 rfl ?_
  refine gw_sipush (v := (480 : Int32)) C dX4_offset_4 rfl ?_
  refine gw_iload_n C dX4_offset_7 1 rfl ?_
  refine gw_iadd C dX4_offset_8 ?_
  refine gw_chk h (fun b1 h => ?_)
  refine gw_iald C dX4_offset_9 1 0 rfl rfl b1 ?_
  have h := gw_some h
  have ho := Option.some.inj h
  subst ho
  exact gw_iret C dX4_offset_10
theorem hd_X4_free : yX4_free.cls = RX4 ∧ yX4_free.cls ≠ "java/lang/invoke/MethodHandle" ∧ yX4_free.cls ≠ "java/lang/invoke/VarHandle" ∧ (parseMethodDescriptor yX4_free.desc).map (fun d => d.parameters.length) = some 1 := by decide +kernel
set_option maxHeartbeats 4000000 in
set_option maxRecDepth 100000 in
theorem c_X4_free (l : Launch) (D : va_G) (cI cJ cO : ClassId) (a : Nat → Nat) (t : MS) (p1 : Int32) {o : MS} (h : fM_free p1 t = some o) : Ct l D (tysA cI cJ cO) yX4_free wsX4_free (rmOf 0 0) [.ref (a 0), .int p1] (wM cI a t) none (wM cI a o) := by
  refine Ct_of (own := RX4) cX4_free 2 none (by decide +kernel) rfl rfl (Nat.le_of_ble_eq_true rfl) ?_
  intro p e s m args below meth c A C hnm
  have iX4 : ∀ w ∈ u_ws RX4 TX4 16, w ∈ wsX4_free := fun w h => List.mem_cons_of_mem _ (List.mem_append_right _ h)
  have f7 : Cond.fieldLink RX4 7 (TX4 1).1 (TX4 1).2.1 (TX4 1).2.2.1 ∈ wsX4_free := List.mem_of_getElem? (i := 1) rfl
  have h := gw_top h
  unfold fM_free at h
  show gw_G p l e (rmOf 0 0) s m args below meth c D A (CtM D below none (wM cI a o) A args s) 2 0 0 (wM cI a t) [(0, .ref (a 0)), (1, .int p1)] 0 []
  refine gw_aload_n C dX4_free_0 0 rfl ?_
  refine gw_get C dX4_free_1 0 3 1 rfl rfl iX4 (by decide) f7 rfl ?_
  refine gw_iconst (v := (0 : Int32)) C dX4_free_4 rfl ?_
  refine gw_iload_n C dX4_free_5 1 rfl ?_
  refine gw_iadd C dX4_free_6 ?_
  refine gw_iconst (v := (0 : Int32)) C dX4_free_7 rfl ?_
  refine gw_chk h (fun b1 h => ?_)
  refine gw_lt h (fun t2 et2 h => ?_)
  refine gw_iast (ws' := wM cI a t2) C dX4_free_8 1 0 rfl rfl b1 (by subst et2; rfl) ?_
  refine gw_aload_n C dX4_free_9 0 rfl ?_
  refine gw_get C dX4_free_10 0 3 1 rfl rfl iX4 (by decide) f7 rfl ?_
  refine gw_sipush (v := (160 : Int32)) C dX4_free_13 rfl ?_
  refine gw_iload_n C dX4_free_16 1 rfl ?_
  refine gw_iadd C dX4_free_17 ?_
  refine gw_iconst (v := (-1 : Int32)) C dX4_free_18 rfl ?_
  refine gw_chk h (fun b3 h => ?_)
  refine gw_lt h (fun t4 et4 h => ?_)
  refine gw_iast (ws' := wM cI a t4) C dX4_free_19 1 0 rfl rfl b3 (by subst et4; rfl) ?_
  refine gw_aload_n C dX4_free_20 0 rfl ?_
  refine gw_get C dX4_free_21 0 3 1 rfl rfl iX4 (by decide) f7 rfl ?_
  refine gw_sipush (v := (320 : Int32)) C dX4_free_24 rfl ?_
  refine gw_iload_n C dX4_free_27 1 rfl ?_
  refine gw_iadd C dX4_free_28 ?_
  refine gw_iconst (v := (-1 : Int32)) C dX4_free_29 rfl ?_
  refine gw_chk h (fun b5 h => ?_)
  refine gw_lt h (fun t6 et6 h => ?_)
  refine gw_iast (ws' := wM cI a t6) C dX4_free_30 1 0 rfl rfl b5 (by subst et6; rfl) ?_
  refine gw_aload_n C dX4_free_31 0 rfl ?_
  refine gw_get C dX4_free_32 0 3 1 rfl rfl iX4 (by decide) f7 rfl ?_
  refine gw_sipush (v := (480 : Int32)) C dX4_free_35 rfl ?_
  refine gw_iload_n C dX4_free_38 1 rfl ?_
  refine gw_iadd C dX4_free_39 ?_
  refine gw_iconst (v := (0 : Int32)) C dX4_free_40 rfl ?_
  refine gw_chk h (fun b7 h => ?_)
  refine gw_lt h (fun t8 et8 h => ?_)
  refine gw_iast (ws' := wM cI a t8) C dX4_free_41 1 0 rfl rfl b7 (by subst et8; rfl) ?_
  refine gw_aload_n C dX4_free_42 0 rfl ?_
  refine gw_get C dX4_free_43 0 3 1 rfl rfl iX4 (by decide) f7 rfl ?_
  refine gw_sipush (v := (640 : Int32)) C dX4_free_46 rfl ?_
  refine gw_iload_n C dX4_free_49 1 rfl ?_
  refine gw_iadd C dX4_free_50 ?_
  refine gw_iconst (v := (-1 : Int32)) C dX4_free_51 rfl ?_
  refine gw_chk h (fun b9 h => ?_)
  refine gw_lt h (fun t10 et10 h => ?_)
  refine gw_iast (ws' := wM cI a t10) C dX4_free_52 1 0 rfl rfl b9 (by subst et10; rfl) ?_
  have h := gw_some h
  have ho := Option.some.inj h
  subst ho
  exact gw_vret C dX4_free_53
theorem hd_X4_clearTable : yX4_clearTable.cls = RX4 ∧ yX4_clearTable.cls ≠ "java/lang/invoke/MethodHandle" ∧ yX4_clearTable.cls ≠ "java/lang/invoke/VarHandle" ∧ (parseMethodDescriptor yX4_clearTable.desc).map (fun d => d.parameters.length) = some 0 := by decide +kernel
set_option maxHeartbeats 4000000 in
set_option maxRecDepth 100000 in
theorem c_X4_clearTable (l : Launch) (D : va_G) (cI cJ cO : ClassId) (a : Nat → Nat) (t : MS)  {o : MS} (h : fM_clearTable t = some o) : Ct l D (tysA cI cJ cO) yX4_clearTable wsX4_clearTable (rmOf 1 21) [.ref (a 0)] (wM cI a t) none (wM cI a o) := by
  refine Ct_of (own := RX4) cX4_clearTable 2 none (by decide +kernel) rfl rfl (Nat.le_of_ble_eq_true rfl) ?_
  intro p e s m args below meth c A C hnm
  have iX4 : ∀ w ∈ u_ws RX4 TX4 16, w ∈ wsX4_clearTable := fun w h => List.mem_cons_of_mem _ (List.mem_append_right _ h)
  have f7 : Cond.fieldLink RX4 7 (TX4 1).1 (TX4 1).2.1 (TX4 1).2.2.1 ∈ wsX4_clearTable := List.mem_of_getElem? (i := 1) rfl
  have w_X4_free := cwV (R := (rmOf 1 21)) (rm := rmOf 0 0) (s := s) (args := args) 1 C.1.2.2.2.2 gX4_clearTable_X4_free rfl rfl rfl hd_X4_free ⟨Nat.le_of_ble_eq_true rfl, Nat.le_of_ble_eq_true rfl⟩
  have h := gw_top h
  unfold fM_clearTable at h
  show gw_G p l e (rmOf 1 21) s m args below meth c D A (CtM D below none (wM cI a o) A args s) 2 0 0 (wM cI a t) [(0, .ref (a 0))] 0 []
  refine gw_iconst (v := (0 : Int32)) C dX4_clearTable_0 rfl ?_
  refine gw_istore_n C dX4_clearTable_1 [(1, .int (0 : Int32)), (0, .ref (a 0))] rfl (by decide) rfl ?_
  refine gw_sub [1, 0] rfl ?_
  refine gw_lpb (x0 := ((0 : Int32), t)) (Go := fun x1 : Int32 × MS => gw_G p l e (rmOf 1 21) s m args below meth c D A (CtM D below none (wM cI a o) A args s) 2 0 0 (wM cI a x1.2) [(0, .ref (a 0)), (1, .int x1.1)] 2 []) (GoX := fun v1 : MS => gw_G p l e (rmOf 1 21) s m args below meth c D A (CtM D below none (wM cI a o) A args s) 2 0 0 (wM cI a v1) [(0, .ref (a 0))] 20 []) h (fun v1 h => ?_) (fun x1 K1 X1 I1 h => ?_)
  · refine gw_aload_n C dX4_clearTable_20 0 rfl ?_
    refine gw_get C dX4_clearTable_21 0 3 1 rfl rfl iX4 (by decide) f7 rfl ?_
    refine gw_iconst (v := (0 : Int32)) C dX4_clearTable_24 rfl ?_
    refine gw_iconst (v := (1 : Int32)) C dX4_clearTable_25 rfl ?_
    refine gw_chk h (fun b4 h => ?_)
    refine gw_lt h (fun t5 et5 h => ?_)
    refine gw_iast (ws' := wM cI a t5) C dX4_clearTable_26 1 0 rfl rfl b4 (by subst et5; rfl) ?_
    refine gw_sipush (v := (800 : Int32)) C dX4_clearTable_27 rfl ?_
    refine gw_istore_n C dX4_clearTable_30 [(1, .int (800 : Int32)), (0, .ref (a 0))] rfl (by decide) rfl ?_
    refine gw_sub [1, 0] rfl ?_
    refine gw_lpb (x0 := ((800 : Int32), t5)) (Go := fun x6 : Int32 × MS => gw_G p l e (rmOf 1 21) s m args below meth c D A (CtM D below none (wM cI a o) A args s) 2 0 0 (wM cI a x6.2) [(0, .ref (a 0)), (1, .int x6.1)] 31 []) (GoX := fun v6 : MS => gw_G p l e (rmOf 1 21) s m args below meth c D A (CtM D below none (wM cI a o) A args s) 2 0 0 (wM cI a v6) [] 51 []) h (fun v6 h => ?_) (fun x6 K6 X6 I6 h => ?_)
    · have h := gw_some h
      have ho := Option.some.inj h
      subst ho
      exact gw_vret C dX4_clearTable_51
    · refine gw_iload_n C dX4_clearTable_31 1 rfl ?_
      refine gw_sipush (v := (1360 : Int32)) C dX4_clearTable_32 rfl ?_
      refine gw_icmp_ge (tgt := 51) C dX4_clearTable_35 (by decide) h (fun c7 h => ?_) (fun c7 h => ?_)
      · refine gw_sub [] rfl ?_
        have h := gw_some h
        exact X6 _ h
      · refine gw_aload_n C dX4_clearTable_38 0 rfl ?_
        refine gw_get C dX4_clearTable_39 0 3 1 rfl rfl iX4 (by decide) f7 rfl ?_
        refine gw_iload_n C dX4_clearTable_42 1 rfl ?_
        refine gw_iconst (v := (0 : Int32)) C dX4_clearTable_43 rfl ?_
        refine gw_chk h (fun b8 h => ?_)
        refine gw_lt h (fun t9 et9 h => ?_)
        refine gw_iast (ws' := wM cI a t9) C dX4_clearTable_44 1 0 rfl rfl b8 (by subst et9; rfl) ?_
        refine gw_iinc (v := (x6.1 + (1 : Int32))) C dX4_clearTable_45 [(1, .int (x6.1 + (1 : Int32))), (0, .ref (a 0))] 1 rfl rfl (by decide) rfl ?_
        refine gw_goto (tgt := 31) C dX4_clearTable_48 (by decide) ?_
        refine gw_sub [1, 0] rfl ?_
        have h := gw_some h
        exact I6 _ h
  · refine gw_iload_n C dX4_clearTable_2 1 rfl ?_
    refine gw_sipush (v := (160 : Int32)) C dX4_clearTable_3 rfl ?_
    refine gw_icmp_ge (tgt := 20) C dX4_clearTable_6 (by decide) h (fun c2 h => ?_) (fun c2 h => ?_)
    · refine gw_sub [0] rfl ?_
      have h := gw_some h
      exact X1 _ h
    · refine gw_aload_n C dX4_clearTable_9 0 rfl ?_
      refine gw_iload_n C dX4_clearTable_10 1 rfl ?_
      refine gw_bind h (fun q3 hq3 h => ?_)
      refine gw_whole (st2 := []) C (run_V (rest := []) C (c_X4_free l D cI cJ cO a x1.2 x1.1 hq3) w_X4_free 0 3 rfl rfl rfl rfl rfl (Nat.le_of_ble_eq_true rfl) dX4_clearTable_11 ⟨Nat.zero_le _, Nat.zero_le _⟩) rfl ?_
      refine gw_iinc (v := (x1.1 + (1 : Int32))) C dX4_clearTable_14 [(1, .int (x1.1 + (1 : Int32))), (0, .ref (a 0))] 1 rfl rfl (by decide) rfl ?_
      refine gw_goto (tgt := 2) C dX4_clearTable_17 (by decide) ?_
      refine gw_sub [1, 0] rfl ?_
      have h := gw_some h
      exact I1 _ h
theorem hd_X4_save : yX4_save.cls = RX4 ∧ yX4_save.cls ≠ "java/lang/invoke/MethodHandle" ∧ yX4_save.cls ≠ "java/lang/invoke/VarHandle" ∧ (parseMethodDescriptor yX4_save.desc).map (fun d => d.parameters.length) = some 0 := by decide +kernel
set_option maxHeartbeats 4000000 in
set_option maxRecDepth 100000 in
theorem c_X4_save (l : Launch) (D : va_G) (cI cJ cO : ClassId) (a : Nat → Nat) (t : MS)  {o : MS} (h : fM_save t = some o) : Ct l D (tysA cI cJ cO) yX4_save wsX4_save (rmOf 0 0) [.ref (a 0)] (wM cI a t) none (wM cI a o) := by
  refine Ct_of (own := RX4) cX4_save 2 none (by decide +kernel) rfl rfl (Nat.le_of_ble_eq_true rfl) ?_
  intro p e s m args below meth c A C hnm
  have iX4 : ∀ w ∈ u_ws RX4 TX4 16, w ∈ wsX4_save := fun w h => List.mem_cons_of_mem _ (List.mem_append_right _ h)
  have f7 : Cond.fieldLink RX4 7 (TX4 1).1 (TX4 1).2.1 (TX4 1).2.2.1 ∈ wsX4_save := List.mem_of_getElem? (i := 3) rfl
  have f13 : Cond.fieldLink RX4 13 (TX4 2).1 (TX4 2).2.1 (TX4 2).2.2.1 ∈ wsX4_save := List.mem_of_getElem? (i := 2) rfl
  have f48 : Cond.fieldLink RX4 48 (TX4 3).1 (TX4 3).2.1 (TX4 3).2.2.1 ∈ wsX4_save := List.mem_of_getElem? (i := 1) rfl
  have h := gw_top h
  unfold fM_save at h
  show gw_G p l e (rmOf 0 0) s m args below meth c D A (CtM D below none (wM cI a o) A args s) 2 0 0 (wM cI a t) [(0, .ref (a 0))] 0 []
  refine gw_aload_n C dX4_save_0 0 rfl ?_
  refine gw_get C dX4_save_1 0 3 3 rfl rfl iX4 (by decide) f48 rfl ?_
  refine gw_bipush (v := (6 : Int32)) C dX4_save_4 rfl ?_
  refine gw_lt h (fun j1 ej1 h => ?_)
  have J1 : ∀ v1 : MS, Rs some o (j1 v1) → gw_G p l e (rmOf 0 0) s m args below meth c D A (CtM D below none (wM cI a o) A args s) 2 0 0 (wM cI a v1) [(0, .ref (a 0))] 50 [] := by
    intro v1 h
    have h := gw_app ej1 h
    refine gw_iconst (v := (0 : Int32)) C dX4_save_50 rfl ?_
    refine gw_istore_n C dX4_save_51 [(1, .int (0 : Int32)), (0, .ref (a 0))] rfl (by decide) rfl ?_
    refine gw_sub [1, 0] rfl ?_
    refine gw_lpb (x0 := ((0 : Int32), v1)) (Go := fun x9 : Int32 × MS => gw_G p l e (rmOf 0 0) s m args below meth c D A (CtM D below none (wM cI a o) A args s) 2 0 0 (wM cI a x9.2) [(0, .ref (a 0)), (1, .int x9.1)] 52 []) (GoX := fun v9 : MS => gw_G p l e (rmOf 0 0) s m args below meth c D A (CtM D below none (wM cI a o) A args s) 2 0 0 (wM cI a v9) [(0, .ref (a 0))] 86 []) h (fun v9 h => ?_) (fun x9 K9 X9 I9 h => ?_)
    · refine gw_aload_n C dX4_save_86 0 rfl ?_
      refine gw_dup C dX4_save_87 rfl ?_
      refine gw_get C dX4_save_88 0 3 3 rfl rfl iX4 (by decide) f48 rfl ?_
      refine gw_iconst (v := (1 : Int32)) C dX4_save_91 rfl ?_
      refine gw_iadd C dX4_save_92 ?_
      refine gw_lt h (fun t14 et14 h => ?_)
      refine gw_put (ws' := wM cI a t14) (ty := .int) C dX4_save_93 0 3 3 tyX4 tyX4_ok nmX4 rfl rfl iX4 (by decide) f48 rfl (tyX4_ok 3 (by decide)) rfl rfl (Nat.le_of_ble_eq_true rfl) (by subst et14; rfl) ?_
      have h := gw_some h
      have ho := Option.some.inj h
      subst ho
      exact gw_vret C dX4_save_96
    · refine gw_iload_n C dX4_save_52 1 rfl ?_
      refine gw_sipush (v := (1361 : Int32)) C dX4_save_53 rfl ?_
      refine gw_icmp_ge (tgt := 86) C dX4_save_56 (by decide) h (fun c10 h => ?_) (fun c10 h => ?_)
      · refine gw_sub [0] rfl ?_
        have h := gw_some h
        exact X9 _ h
      · refine gw_aload_n C dX4_save_59 0 rfl ?_
        refine gw_get C dX4_save_60 0 3 2 rfl rfl iX4 (by decide) f13 rfl ?_
        refine gw_aload_n C dX4_save_63 0 rfl ?_
        refine gw_get C dX4_save_64 0 3 3 rfl rfl iX4 (by decide) f48 rfl ?_
        refine gw_sipush (v := (1361 : Int32)) C dX4_save_67 rfl ?_
        refine gw_imul C dX4_save_70 ?_
        refine gw_iload_n C dX4_save_71 1 rfl ?_
        refine gw_iadd C dX4_save_72 ?_
        refine gw_aload_n C dX4_save_73 0 rfl ?_
        refine gw_get C dX4_save_74 0 3 1 rfl rfl iX4 (by decide) f7 rfl ?_
        refine gw_iload_n C dX4_save_77 1 rfl ?_
        refine gw_chk h (fun b11 h => ?_)
        refine gw_iald C dX4_save_78 1 0 rfl rfl b11 ?_
        refine gw_chk h (fun b12 h => ?_)
        refine gw_lt h (fun t13 et13 h => ?_)
        refine gw_iast (ws' := wM cI a t13) C dX4_save_79 2 0 rfl rfl b12 (by subst et13; rfl) ?_
        refine gw_iinc (v := (x9.1 + (1 : Int32))) C dX4_save_80 [(1, .int (x9.1 + (1 : Int32))), (0, .ref (a 0))] 1 rfl rfl (by decide) rfl ?_
        refine gw_goto (tgt := 52) C dX4_save_83 (by decide) ?_
        refine gw_sub [1, 0] rfl ?_
        have h := gw_some h
        exact I9 _ h
  refine gw_icmp_ne (tgt := 50) C dX4_save_6 (by decide) h (fun c2 h => ?_) (fun c2 h => ?_)
  · refine gw_iconst (v := (0 : Int32)) C dX4_save_9 rfl ?_
    refine gw_istore_n C dX4_save_10 [(1, .int (0 : Int32)), (0, .ref (a 0))] rfl (by decide) rfl ?_
    refine gw_sub [1, 0] rfl ?_
    refine gw_lpb (x0 := ((0 : Int32), t)) (Go := fun x3 : Int32 × MS => gw_G p l e (rmOf 0 0) s m args below meth c D A (CtM D below none (wM cI a o) A args s) 2 0 0 (wM cI a x3.2) [(0, .ref (a 0)), (1, .int x3.1)] 11 []) (GoX := fun v3 : MS => gw_G p l e (rmOf 0 0) s m args below meth c D A (CtM D below none (wM cI a o) A args s) 2 0 0 (wM cI a v3) [(0, .ref (a 0))] 40 []) h (fun v3 h => ?_) (fun x3 K3 X3 I3 h => ?_)
    · refine gw_aload_n C dX4_save_40 0 rfl ?_
      refine gw_dup C dX4_save_41 rfl ?_
      refine gw_get C dX4_save_42 0 3 3 rfl rfl iX4 (by decide) f48 rfl ?_
      refine gw_iconst (v := (1 : Int32)) C dX4_save_45 rfl ?_
      refine gw_isub C dX4_save_46 ?_
      refine gw_lt h (fun t8 et8 h => ?_)
      refine gw_put (ws' := wM cI a t8) (ty := .int) C dX4_save_47 0 3 3 tyX4 tyX4_ok nmX4 rfl rfl iX4 (by decide) f48 rfl (tyX4_ok 3 (by decide)) rfl rfl (Nat.le_of_ble_eq_true rfl) (by subst et8; rfl) ?_
      exact J1 _ h
    · refine gw_iload_n C dX4_save_11 1 rfl ?_
      refine gw_sipush (v := (6805 : Int32)) C dX4_save_12 rfl ?_
      refine gw_icmp_ge (tgt := 40) C dX4_save_15 (by decide) h (fun c4 h => ?_) (fun c4 h => ?_)
      · refine gw_sub [0] rfl ?_
        have h := gw_some h
        exact X3 _ h
      · refine gw_aload_n C dX4_save_18 0 rfl ?_
        refine gw_get C dX4_save_19 0 3 2 rfl rfl iX4 (by decide) f13 rfl ?_
        refine gw_iload_n C dX4_save_22 1 rfl ?_
        refine gw_aload_n C dX4_save_23 0 rfl ?_
        refine gw_get C dX4_save_24 0 3 2 rfl rfl iX4 (by decide) f13 rfl ?_
        refine gw_iload_n C dX4_save_27 1 rfl ?_
        refine gw_sipush (v := (1361 : Int32)) C dX4_save_28 rfl ?_
        refine gw_iadd C dX4_save_31 ?_
        refine gw_chk h (fun b5 h => ?_)
        refine gw_iald C dX4_save_32 2 0 rfl rfl b5 ?_
        refine gw_chk h (fun b6 h => ?_)
        refine gw_lt h (fun t7 et7 h => ?_)
        refine gw_iast (ws' := wM cI a t7) C dX4_save_33 2 0 rfl rfl b6 (by subst et7; rfl) ?_
        refine gw_iinc (v := (x3.1 + (1 : Int32))) C dX4_save_34 [(1, .int (x3.1 + (1 : Int32))), (0, .ref (a 0))] 1 rfl rfl (by decide) rfl ?_
        refine gw_goto (tgt := 11) C dX4_save_37 (by decide) ?_
        refine gw_sub [1, 0] rfl ?_
        have h := gw_some h
        exact I3 _ h
  · exact J1 _ h
theorem hd_X4_undo : yX4_undo.cls = RX4 ∧ yX4_undo.cls ≠ "java/lang/invoke/MethodHandle" ∧ yX4_undo.cls ≠ "java/lang/invoke/VarHandle" ∧ (parseMethodDescriptor yX4_undo.desc).map (fun d => d.parameters.length) = some 0 := by decide +kernel
set_option maxHeartbeats 4000000 in
set_option maxRecDepth 100000 in
theorem c_X4_undo (l : Launch) (D : va_G) (cI cJ cO : ClassId) (a : Nat → Nat) (t : MS)  {o : Int32 × MS} (h : fM_undo t = some o) : Ct l D (tysA cI cJ cO) yX4_undo wsX4_undo (rmOf 0 0) [.ref (a 0)] (wM cI a t) (some (.int o.1)) (wM cI a o.2) := by
  refine Ct_of (own := RX4) cX4_undo 2 (some .int) (by decide +kernel) rfl rfl (Nat.le_of_ble_eq_true rfl) ?_
  intro p e s m args below meth c A C hnm
  have iX4 : ∀ w ∈ u_ws RX4 TX4 16, w ∈ wsX4_undo := fun w h => List.mem_cons_of_mem _ (List.mem_append_right _ h)
  have f7 : Cond.fieldLink RX4 7 (TX4 1).1 (TX4 1).2.1 (TX4 1).2.2.1 ∈ wsX4_undo := List.mem_of_getElem? (i := 3) rfl
  have f13 : Cond.fieldLink RX4 13 (TX4 2).1 (TX4 2).2.1 (TX4 2).2.2.1 ∈ wsX4_undo := List.mem_of_getElem? (i := 4) rfl
  have f40 : Cond.fieldLink RX4 40 (TX4 0).1 (TX4 0).2.1 (TX4 0).2.2.1 ∈ wsX4_undo := List.mem_of_getElem? (i := 2) rfl
  have f48 : Cond.fieldLink RX4 48 (TX4 3).1 (TX4 3).2.1 (TX4 3).2.2.1 ∈ wsX4_undo := List.mem_of_getElem? (i := 1) rfl
  have h := gw_top h
  unfold fM_undo at h
  show gw_G p l e (rmOf 0 0) s m args below meth c D A (CtM D below (some (.int o.1)) (wM cI a o.2) A args s) 2 0 0 (wM cI a t) [(0, .ref (a 0))] 0 []
  refine gw_aload_n C dX4_undo_0 0 rfl ?_
  refine gw_aload_n C dX4_undo_1 0 rfl ?_
  refine gw_get C dX4_undo_2 0 3 3 rfl rfl iX4 (by decide) f48 rfl ?_
  refine gw_lt h (fun j1 ej1 h => ?_)
  have J1 : ∀ v1 : Int32, Rs some o (j1 v1) → gw_G p l e (rmOf 0 0) s m args below meth c D A (CtM D below (some (.int o.1)) (wM cI a o.2) A args s) 2 0 0 (wM cI a t) [(0, .ref (a 0))] 13 [.int v1, .ref (a 0)] := by
    intro v1 h
    have h := gw_app ej1 h
    refine gw_lt h (fun t3 et3 h => ?_)
    refine gw_put (ws' := wM cI a t3) (ty := .int) C dX4_undo_13 0 3 0 tyX4 tyX4_ok nmX4 rfl rfl iX4 (by decide) f40 rfl (tyX4_ok 0 (by decide)) rfl rfl (Nat.le_of_ble_eq_true rfl) (by subst et3; rfl) ?_
    refine gw_aload_n C dX4_undo_16 0 rfl ?_
    refine gw_get C dX4_undo_17 0 3 0 rfl rfl iX4 (by decide) f40 rfl ?_
    refine gw_if_le (tgt := 25) C dX4_undo_20 (by decide) h (fun c4 h => ?_) (fun c4 h => ?_)
    · refine gw_aload_n C dX4_undo_25 0 rfl ?_
      refine gw_dup C dX4_undo_26 rfl ?_
      refine gw_get C dX4_undo_27 0 3 3 rfl rfl iX4 (by decide) f48 rfl ?_
      refine gw_iconst (v := (1 : Int32)) C dX4_undo_30 rfl ?_
      refine gw_isub C dX4_undo_31 ?_
      refine gw_lt h (fun t5 et5 h => ?_)
      refine gw_put (ws' := wM cI a t5) (ty := .int) C dX4_undo_32 0 3 3 tyX4 tyX4_ok nmX4 rfl rfl iX4 (by decide) f48 rfl (tyX4_ok 3 (by decide)) rfl rfl (Nat.le_of_ble_eq_true rfl) (by subst et5; rfl) ?_
      refine gw_iconst (v := (0 : Int32)) C dX4_undo_35 rfl ?_
      refine gw_istore_n C dX4_undo_36 [(1, .int (0 : Int32)), (0, .ref (a 0))] rfl (by decide) rfl ?_
      refine gw_sub [1, 0] rfl ?_
      refine gw_lpb (x0 := ((0 : Int32), t5)) (Go := fun x6 : Int32 × MS => gw_G p l e (rmOf 0 0) s m args below meth c D A (CtM D below (some (.int o.1)) (wM cI a o.2) A args s) 2 0 0 (wM cI a x6.2) [(0, .ref (a 0)), (1, .int x6.1)] 37 []) (GoX := fun v6 : MS => gw_G p l e (rmOf 0 0) s m args below meth c D A (CtM D below (some (.int o.1)) (wM cI a o.2) A args s) 2 0 0 (wM cI a v6) [(0, .ref (a 0))] 71 []) h (fun v6 h => ?_) (fun x6 K6 X6 I6 h => ?_)
      · refine gw_aload_n C dX4_undo_71 0 rfl ?_
        refine gw_get C dX4_undo_72 0 3 3 rfl rfl iX4 (by decide) f48 rfl ?_
        have h := gw_some h
        have ho := Option.some.inj h
        subst ho
        exact gw_iret C dX4_undo_75
      · refine gw_iload_n C dX4_undo_37 1 rfl ?_
        refine gw_sipush (v := (1361 : Int32)) C dX4_undo_38 rfl ?_
        refine gw_icmp_ge (tgt := 71) C dX4_undo_41 (by decide) h (fun c7 h => ?_) (fun c7 h => ?_)
        · refine gw_sub [0] rfl ?_
          have h := gw_some h
          exact X6 _ h
        · refine gw_aload_n C dX4_undo_44 0 rfl ?_
          refine gw_get C dX4_undo_45 0 3 1 rfl rfl iX4 (by decide) f7 rfl ?_
          refine gw_iload_n C dX4_undo_48 1 rfl ?_
          refine gw_aload_n C dX4_undo_49 0 rfl ?_
          refine gw_get C dX4_undo_50 0 3 2 rfl rfl iX4 (by decide) f13 rfl ?_
          refine gw_aload_n C dX4_undo_53 0 rfl ?_
          refine gw_get C dX4_undo_54 0 3 3 rfl rfl iX4 (by decide) f48 rfl ?_
          refine gw_sipush (v := (1361 : Int32)) C dX4_undo_57 rfl ?_
          refine gw_imul C dX4_undo_60 ?_
          refine gw_iload_n C dX4_undo_61 1 rfl ?_
          refine gw_iadd C dX4_undo_62 ?_
          refine gw_chk h (fun b8 h => ?_)
          refine gw_iald C dX4_undo_63 2 0 rfl rfl b8 ?_
          refine gw_chk h (fun b9 h => ?_)
          refine gw_lt h (fun t10 et10 h => ?_)
          refine gw_iast (ws' := wM cI a t10) C dX4_undo_64 1 0 rfl rfl b9 (by subst et10; rfl) ?_
          refine gw_iinc (v := (x6.1 + (1 : Int32))) C dX4_undo_65 [(1, .int (x6.1 + (1 : Int32))), (0, .ref (a 0))] 1 rfl rfl (by decide) rfl ?_
          refine gw_goto (tgt := 37) C dX4_undo_68 (by decide) ?_
          refine gw_sub [1, 0] rfl ?_
          have h := gw_some h
          exact I6 _ h
    · refine gw_iconst (v := (0 : Int32)) C dX4_undo_23 rfl ?_
      have h := gw_some h
      have ho := Option.some.inj h
      subst ho
      exact gw_iret C dX4_undo_24
  refine gw_if_ne (tgt := 12) C dX4_undo_5 (by decide) h (fun c2 h => ?_) (fun c2 h => ?_)
  · refine gw_iconst (v := (1 : Int32)) C dX4_undo_8 rfl ?_
    refine gw_goto (tgt := 13) C dX4_undo_9 (by decide) ?_
    exact J1 _ h
  · refine gw_iconst (v := (0 : Int32)) C dX4_undo_12 rfl ?_
    exact J1 _ h
theorem hd_X4_putAside : yX4_putAside.cls = RX4 ∧ yX4_putAside.cls ≠ "java/lang/invoke/MethodHandle" ∧ yX4_putAside.cls ≠ "java/lang/invoke/VarHandle" ∧ (parseMethodDescriptor yX4_putAside.desc).map (fun d => d.parameters.length) = some 0 := by decide +kernel
set_option maxHeartbeats 4000000 in
set_option maxRecDepth 100000 in
theorem c_X4_putAside (l : Launch) (D : va_G) (cI cJ cO : ClassId) (a : Nat → Nat) (t : MS)  {o : MS} (h : fM_putAside t = some o) : Ct l D (tysA cI cJ cO) yX4_putAside wsX4_putAside (rmOf 0 0) [.ref (a 0)] (wM cI a t) none (wM cI a o) := by
  refine Ct_of (own := RX4) cX4_putAside 2 none (by decide +kernel) rfl rfl (Nat.le_of_ble_eq_true rfl) ?_
  intro p e s m args below meth c A C hnm
  have iX4 : ∀ w ∈ u_ws RX4 TX4 16, w ∈ wsX4_putAside := fun w h => List.mem_cons_of_mem _ (List.mem_append_right _ h)
  have f7 : Cond.fieldLink RX4 7 (TX4 1).1 (TX4 1).2.1 (TX4 1).2.2.1 ∈ wsX4_putAside := List.mem_of_getElem? (i := 2) rfl
  have f16 : Cond.fieldLink RX4 16 (TX4 4).1 (TX4 4).2.1 (TX4 4).2.2.1 ∈ wsX4_putAside := List.mem_of_getElem? (i := 1) rfl
  have h := gw_top h
  unfold fM_putAside at h
  show gw_G p l e (rmOf 0 0) s m args below meth c D A (CtM D below none (wM cI a o) A args s) 2 0 0 (wM cI a t) [(0, .ref (a 0))] 0 []
  refine gw_iconst (v := (0 : Int32)) C dX4_putAside_0 rfl ?_
  refine gw_istore_n C dX4_putAside_1 [(1, .int (0 : Int32)), (0, .ref (a 0))] rfl (by decide) rfl ?_
  refine gw_sub [1, 0] rfl ?_
  refine gw_lpb (x0 := ((0 : Int32), t)) (Go := fun x1 : Int32 × MS => gw_G p l e (rmOf 0 0) s m args below meth c D A (CtM D below none (wM cI a o) A args s) 2 0 0 (wM cI a x1.2) [(0, .ref (a 0)), (1, .int x1.1)] 2 []) (GoX := fun v1 : MS => gw_G p l e (rmOf 0 0) s m args below meth c D A (CtM D below none (wM cI a o) A args s) 2 0 0 (wM cI a v1) [] 27 []) h (fun v1 h => ?_) (fun x1 K1 X1 I1 h => ?_)
  · have h := gw_some h
    have ho := Option.some.inj h
    subst ho
    exact gw_vret C dX4_putAside_27
  · refine gw_iload_n C dX4_putAside_2 1 rfl ?_
    refine gw_sipush (v := (1361 : Int32)) C dX4_putAside_3 rfl ?_
    refine gw_icmp_ge (tgt := 27) C dX4_putAside_6 (by decide) h (fun c2 h => ?_) (fun c2 h => ?_)
    · refine gw_sub [] rfl ?_
      have h := gw_some h
      exact X1 _ h
    · refine gw_aload_n C dX4_putAside_9 0 rfl ?_
      refine gw_get C dX4_putAside_10 0 3 4 rfl rfl iX4 (by decide) f16 rfl ?_
      refine gw_iload_n C dX4_putAside_13 1 rfl ?_
      refine gw_aload_n C dX4_putAside_14 0 rfl ?_
      refine gw_get C dX4_putAside_15 0 3 1 rfl rfl iX4 (by decide) f7 rfl ?_
      refine gw_iload_n C dX4_putAside_18 1 rfl ?_
      refine gw_chk h (fun b3 h => ?_)
      refine gw_iald C dX4_putAside_19 1 0 rfl rfl b3 ?_
      refine gw_chk h (fun b4 h => ?_)
      refine gw_lt h (fun t5 et5 h => ?_)
      refine gw_iast (ws' := wM cI a t5) C dX4_putAside_20 3 0 rfl rfl b4 (by subst et5; rfl) ?_
      refine gw_iinc (v := (x1.1 + (1 : Int32))) C dX4_putAside_21 [(1, .int (x1.1 + (1 : Int32))), (0, .ref (a 0))] 1 rfl rfl (by decide) rfl ?_
      refine gw_goto (tgt := 2) C dX4_putAside_24 (by decide) ?_
      refine gw_sub [1, 0] rfl ?_
      have h := gw_some h
      exact I1 _ h
theorem hd_X4_bringBack : yX4_bringBack.cls = RX4 ∧ yX4_bringBack.cls ≠ "java/lang/invoke/MethodHandle" ∧ yX4_bringBack.cls ≠ "java/lang/invoke/VarHandle" ∧ (parseMethodDescriptor yX4_bringBack.desc).map (fun d => d.parameters.length) = some 0 := by decide +kernel
set_option maxHeartbeats 4000000 in
set_option maxRecDepth 100000 in
theorem c_X4_bringBack (l : Launch) (D : va_G) (cI cJ cO : ClassId) (a : Nat → Nat) (t : MS)  {o : MS} (h : fM_bringBack t = some o) : Ct l D (tysA cI cJ cO) yX4_bringBack wsX4_bringBack (rmOf 0 0) [.ref (a 0)] (wM cI a t) none (wM cI a o) := by
  refine Ct_of (own := RX4) cX4_bringBack 2 none (by decide +kernel) rfl rfl (Nat.le_of_ble_eq_true rfl) ?_
  intro p e s m args below meth c A C hnm
  have iX4 : ∀ w ∈ u_ws RX4 TX4 16, w ∈ wsX4_bringBack := fun w h => List.mem_cons_of_mem _ (List.mem_append_right _ h)
  have f7 : Cond.fieldLink RX4 7 (TX4 1).1 (TX4 1).2.1 (TX4 1).2.2.1 ∈ wsX4_bringBack := List.mem_of_getElem? (i := 1) rfl
  have f16 : Cond.fieldLink RX4 16 (TX4 4).1 (TX4 4).2.1 (TX4 4).2.2.1 ∈ wsX4_bringBack := List.mem_of_getElem? (i := 2) rfl
  have h := gw_top h
  unfold fM_bringBack at h
  show gw_G p l e (rmOf 0 0) s m args below meth c D A (CtM D below none (wM cI a o) A args s) 2 0 0 (wM cI a t) [(0, .ref (a 0))] 0 []
  refine gw_iconst (v := (0 : Int32)) C dX4_bringBack_0 rfl ?_
  refine gw_istore_n C dX4_bringBack_1 [(1, .int (0 : Int32)), (0, .ref (a 0))] rfl (by decide) rfl ?_
  refine gw_sub [1, 0] rfl ?_
  refine gw_lpb (x0 := ((0 : Int32), t)) (Go := fun x1 : Int32 × MS => gw_G p l e (rmOf 0 0) s m args below meth c D A (CtM D below none (wM cI a o) A args s) 2 0 0 (wM cI a x1.2) [(0, .ref (a 0)), (1, .int x1.1)] 2 []) (GoX := fun v1 : MS => gw_G p l e (rmOf 0 0) s m args below meth c D A (CtM D below none (wM cI a o) A args s) 2 0 0 (wM cI a v1) [] 27 []) h (fun v1 h => ?_) (fun x1 K1 X1 I1 h => ?_)
  · have h := gw_some h
    have ho := Option.some.inj h
    subst ho
    exact gw_vret C dX4_bringBack_27
  · refine gw_iload_n C dX4_bringBack_2 1 rfl ?_
    refine gw_sipush (v := (1361 : Int32)) C dX4_bringBack_3 rfl ?_
    refine gw_icmp_ge (tgt := 27) C dX4_bringBack_6 (by decide) h (fun c2 h => ?_) (fun c2 h => ?_)
    · refine gw_sub [] rfl ?_
      have h := gw_some h
      exact X1 _ h
    · refine gw_aload_n C dX4_bringBack_9 0 rfl ?_
      refine gw_get C dX4_bringBack_10 0 3 1 rfl rfl iX4 (by decide) f7 rfl ?_
      refine gw_iload_n C dX4_bringBack_13 1 rfl ?_
      refine gw_aload_n C dX4_bringBack_14 0 rfl ?_
      refine gw_get C dX4_bringBack_15 0 3 4 rfl rfl iX4 (by decide) f16 rfl ?_
      refine gw_iload_n C dX4_bringBack_18 1 rfl ?_
      refine gw_chk h (fun b3 h => ?_)
      refine gw_iald C dX4_bringBack_19 3 0 rfl rfl b3 ?_
      refine gw_chk h (fun b4 h => ?_)
      refine gw_lt h (fun t5 et5 h => ?_)
      refine gw_iast (ws' := wM cI a t5) C dX4_bringBack_20 1 0 rfl rfl b4 (by subst et5; rfl) ?_
      refine gw_iinc (v := (x1.1 + (1 : Int32))) C dX4_bringBack_21 [(1, .int (x1.1 + (1 : Int32))), (0, .ref (a 0))] 1 rfl rfl (by decide) rfl ?_
      refine gw_goto (tgt := 2) C dX4_bringBack_24 (by decide) ?_
      refine gw_sub [1, 0] rfl ?_
      have h := gw_some h
      exact I1 _ h
theorem hd_X4_child : yX4_child.cls = RX4 ∧ yX4_child.cls ≠ "java/lang/invoke/MethodHandle" ∧ yX4_child.cls ≠ "java/lang/invoke/VarHandle" ∧ (parseMethodDescriptor yX4_child.desc).map (fun d => d.parameters.length) = some 2 := by decide +kernel
set_option maxHeartbeats 4000000 in
set_option maxRecDepth 100000 in
theorem c_X4_child (l : Launch) (D : va_G) (cI cJ cO : ClassId) (a : Nat → Nat) (t : MS) (p1 : Int32) (p2 : Int32) {o : Int32} (h : fM_child p1 p2 t = some o) : Ct l D (tysA cI cJ cO) yX4_child wsX4_child (rmOf 1 21) [.ref (a 0), .int p1, .int p2] (wM cI a t) (some (.int o)) (wM cI a t) := by
  refine Ct_of (own := RX4) cX4_child 5 (some .int) (by decide +kernel) rfl rfl (Nat.le_of_ble_eq_true rfl) ?_
  intro p e s m args below meth c A C hnm
  have iX4 : ∀ w ∈ u_ws RX4 TX4 16, w ∈ wsX4_child := fun w h => List.mem_cons_of_mem _ (List.mem_append_right _ h)
  have f7 : Cond.fieldLink RX4 7 (TX4 1).1 (TX4 1).2.1 (TX4 1).2.2.1 ∈ wsX4_child := List.mem_of_getElem? (i := 1) rfl
  have w_X4_isUsed := cwV (R := (rmOf 1 21)) (rm := rmOf 0 0) (s := s) (args := args) 1 C.1.2.2.2.2 gX4_child_X4_isUsed rfl rfl rfl hd_X4_isUsed ⟨Nat.le_of_ble_eq_true rfl, Nat.le_of_ble_eq_true rfl⟩
  have w_X4_offset := cwV (R := (rmOf 1 21)) (rm := rmOf 0 0) (s := s) (args := args) 1 C.1.2.2.2.2 gX4_child_X4_offset rfl rfl rfl hd_X4_offset ⟨Nat.le_of_ble_eq_true rfl, Nat.le_of_ble_eq_true rfl⟩
  have h := gw_top h
  unfold fM_child at h
  show gw_G p l e (rmOf 1 21) s m args below meth c D A (CtM D below (some (.int o)) (wM cI a t) A args s) 5 0 0 (wM cI a t) [(0, .ref (a 0)), (1, .int p1), (2, .int p2)] 0 []
  refine gw_aload_n C dX4_child_0 0 rfl ?_
  refine gw_iload_n C dX4_child_1 1 rfl ?_
  refine gw_bind h (fun q1 hq1 h => ?_)
  refine gw_whole (st2 := [.int q1]) C (run_V (rest := []) C (c_X4_offset l D cI cJ cO a t p1 hq1) w_X4_offset 0 3 rfl rfl rfl rfl rfl (Nat.le_of_ble_eq_true rfl) dX4_child_2 ⟨Nat.zero_le _, Nat.zero_le _⟩) rfl ?_
  refine gw_iload_n C dX4_child_5 2 rfl ?_
  refine gw_iadd C dX4_child_6 ?_
  refine gw_lt h (fun v2 ev2 h => ?_)
  rw [ev2]
  refine gw_istore_n C dX4_child_7 [(3, .int v2), (0, .ref (a 0)), (1, .int p1), (2, .int p2)] rfl (by decide) rfl ?_
  refine gw_aload_n C dX4_child_8 1 rfl ?_
  refine gw_iload_n C dX4_child_9 2 rfl ?_
  refine gw_bind h (fun q3 hq3 h => ?_)
  refine gw_whole (st2 := [.int q3]) C (run_V (rest := []) C (c_X4_offset l D cI cJ cO a t p1 hq3) w_X4_offset 0 3 rfl rfl rfl rfl rfl (Nat.le_of_ble_eq_true rfl) dX4_child_10 ⟨Nat.zero_le _, Nat.zero_le _⟩) rfl ?_
  refine gw_lt h (fun j5 ej5 h => ?_)
  have J5 : ∀ v5 : Int32, Rs some o (j5 v5) → gw_G p l e (rmOf 1 21) s m args below meth c D A (CtM D below (some (.int o)) (wM cI a t) A args s) 5 0 0 (wM cI a t) [(3, .int v2)] 50 [.int v5] := by
    intro v5 h
    have h := gw_app ej5 h
    refine gw_istore C dX4_child_50 [(4, .int v5), (3, .int v2)] (by decide) rfl ?_
    refine gw_iload C dX4_child_52 0 rfl ?_
    refine gw_if_eq (tgt := 61) C dX4_child_54 (by decide) h (fun c12 h => ?_) (fun c12 h => ?_)
    · refine gw_iconst (v := (-1 : Int32)) C dX4_child_61 rfl ?_
      have h := gw_some h
      have ho := Option.some.inj h
      subst ho
      exact gw_iret C dX4_child_62
    · refine gw_iload_n C dX4_child_57 1 rfl ?_
      refine gw_goto (tgt := 62) C dX4_child_58 (by decide) ?_
      have h := gw_some h
      have ho := Option.some.inj h
      subst ho
      exact gw_iret C dX4_child_62
  refine gw_lt h (fun j4 ej4 h => ?_)
  have J4 : ∀ v4 : Unit, Rs some o (j4 v4) → gw_G p l e (rmOf 1 21) s m args below meth c D A (CtM D below (some (.int o)) (wM cI a t) A args s) 5 0 0 (wM cI a t) [(3, .int v2)] 49 [] := by
    intro v4 h
    have h := gw_app ej4 h
    refine gw_iconst (v := (0 : Int32)) C dX4_child_49 rfl ?_
    exact J5 _ h
  refine gw_if_le (tgt := 49) C dX4_child_13 (by decide) h (fun c6 h => ?_) (fun c6 h => ?_)
  · refine gw_sub [0] rfl ?_
    exact J4 _ h
  · refine gw_iload_n C dX4_child_16 0 rfl ?_
    refine gw_sipush (v := (160 : Int32)) C dX4_child_17 rfl ?_
    refine gw_icmp_ge (tgt := 49) C dX4_child_20 (by decide) h (fun c7 h => ?_) (fun c7 h => ?_)
    · refine gw_sub [0] rfl ?_
      exact J4 _ h
    · refine gw_aload_n C dX4_child_23 1 rfl ?_
      refine gw_iload_n C dX4_child_24 0 rfl ?_
      refine gw_bind h (fun q8 hq8 h => ?_)
      refine gw_whole (st2 := [.int q8]) C (run_V (rest := []) C (c_X4_isUsed l D cI cJ cO a t v2 hq8) w_X4_isUsed 0 3 rfl rfl rfl rfl rfl (Nat.le_of_ble_eq_true rfl) dX4_child_25 ⟨Nat.zero_le _, Nat.zero_le _⟩) rfl ?_
      refine gw_if_eq (tgt := 49) C dX4_child_28 (by decide) h (fun c9 h => ?_) (fun c9 h => ?_)
      · refine gw_sub [0] rfl ?_
        exact J4 _ h
      · refine gw_aload_n C dX4_child_31 1 rfl ?_
        refine gw_get C dX4_child_32 0 3 1 rfl rfl iX4 (by decide) f7 rfl ?_
        refine gw_sipush (v := (160 : Int32)) C dX4_child_35 rfl ?_
        refine gw_iload_n C dX4_child_38 0 rfl ?_
        refine gw_iadd C dX4_child_39 ?_
        refine gw_chk h (fun b10 h => ?_)
        refine gw_iald C dX4_child_40 1 0 rfl rfl b10 ?_
        refine gw_iload_n C dX4_child_41 2 rfl ?_
        refine gw_icmp_ne (tgt := 49) C dX4_child_42 (by decide) h (fun c11 h => ?_) (fun c11 h => ?_)
        · refine gw_iconst (v := (1 : Int32)) C dX4_child_45 rfl ?_
          refine gw_goto (tgt := 50) C dX4_child_46 (by decide) ?_
          refine gw_sub [0] rfl ?_
          exact J5 _ h
        · refine gw_sub [0] rfl ?_
          exact J4 _ h
theorem hd_X4_lettersOf : yX4_lettersOf.cls = RX4 ∧ yX4_lettersOf.cls ≠ "java/lang/invoke/MethodHandle" ∧ yX4_lettersOf.cls ≠ "java/lang/invoke/VarHandle" ∧ (parseMethodDescriptor yX4_lettersOf.desc).map (fun d => d.parameters.length) = some 1 := by decide +kernel
set_option maxHeartbeats 4000000 in
set_option maxRecDepth 100000 in
theorem c_X4_lettersOf (l : Launch) (D : va_G) (cI cJ cO : ClassId) (a : Nat → Nat) (t : MS) (p1 : Int32) {o : Int32} (h : fM_lettersOf p1 t = some o) : Ct l D (tysA cI cJ cO) yX4_lettersOf wsX4_lettersOf (rmOf 2 45) [.ref (a 0), .int p1] (wM cI a t) (some (.int o)) (wM cI a t) := by
  refine Ct_of (own := RX4) cX4_lettersOf 4 (some .int) (by decide +kernel) rfl rfl (Nat.le_of_ble_eq_true rfl) ?_
  intro p e s m args below meth c A C hnm
  have w_X4_child := cwV (R := (rmOf 2 45)) (rm := rmOf 1 21) (s := s) (args := args) 2 C.1.2.2.2.2 gX4_lettersOf_X4_child rfl rfl rfl hd_X4_child ⟨Nat.le_of_ble_eq_true rfl, Nat.le_of_ble_eq_true rfl⟩
  have h := gw_top h
  unfold fM_lettersOf at h
  show gw_G p l e (rmOf 2 45) s m args below meth c D A (CtM D below (some (.int o)) (wM cI a t) A args s) 4 0 0 (wM cI a t) [(0, .ref (a 0)), (1, .int p1)] 0 []
  refine gw_iconst (v := (0 : Int32)) C dX4_lettersOf_0 rfl ?_
  refine gw_istore_n C dX4_lettersOf_1 [(2, .int (0 : Int32)), (0, .ref (a 0)), (1, .int p1)] rfl (by decide) rfl ?_
  refine gw_iconst (v := (0 : Int32)) C dX4_lettersOf_2 rfl ?_
  refine gw_istore_n C dX4_lettersOf_3 [(3, .int (0 : Int32)), (2, .int (0 : Int32)), (0, .ref (a 0)), (1, .int p1)] rfl (by decide) rfl ?_
  refine gw_sub [2, 3, 1, 0] rfl ?_
  refine gw_lpb (x0 := ((0 : Int32), (0 : Int32))) (Go := fun x1 : Int32 × Int32 => gw_G p l e (rmOf 2 45) s m args below meth c D A (CtM D below (some (.int o)) (wM cI a t) A args s) 4 0 0 (wM cI a t) [(0, .ref (a 0)), (1, .int p1), (2, .int x1.1), (3, .int x1.2)] 4 []) (GoX := fun v1 : Int32 => gw_G p l e (rmOf 2 45) s m args below meth c D A (CtM D below (some (.int o)) (wM cI a t) A args s) 4 0 0 (wM cI a t) [(2, .int v1)] 36 []) h (fun v1 h => ?_) (fun x1 K1 X1 I1 h => ?_)
  · refine gw_iload_n C dX4_lettersOf_36 0 rfl ?_
    have h := gw_some h
    have ho := Option.some.inj h
    subst ho
    exact gw_iret C dX4_lettersOf_37
  · refine gw_iload_n C dX4_lettersOf_4 3 rfl ?_
    refine gw_bipush (v := (9 : Int32)) C dX4_lettersOf_5 rfl ?_
    refine gw_icmp_ge (tgt := 36) C dX4_lettersOf_7 (by decide) h (fun c2 h => ?_) (fun c2 h => ?_)
    · refine gw_sub [2] rfl ?_
      have h := gw_some h
      exact X1 _ h
    · refine gw_iload_n C dX4_lettersOf_10 2 rfl ?_
      refine gw_aload_n C dX4_lettersOf_11 0 rfl ?_
      refine gw_iload_n C dX4_lettersOf_12 1 rfl ?_
      refine gw_iload_n C dX4_lettersOf_13 3 rfl ?_
      refine gw_bind h (fun q3 hq3 h => ?_)
      refine gw_whole (st2 := [.int q3, .int x1.1]) C (run_V (rest := [.int x1.1]) C (c_X4_child l D cI cJ cO a t p1 x1.2 hq3) w_X4_child 0 3 rfl rfl rfl rfl rfl (Nat.le_of_ble_eq_true rfl) dX4_lettersOf_14 ⟨Nat.zero_le _, Nat.zero_le _⟩) rfl ?_
      refine gw_iconst (v := (-1 : Int32)) C dX4_lettersOf_17 rfl ?_
      refine gw_lt h (fun j4 ej4 h => ?_)
      have J4 : ∀ v4 : Int32, Rs K1 o (j4 v4) → gw_G p l e (rmOf 2 45) s m args below meth c D A (CtM D below (some (.int o)) (wM cI a t) A args s) 4 0 0 (wM cI a t) [(0, .ref (a 0)), (1, .int p1), (3, .int x1.2)] 28 [.int v4, .int x1.1] := by
        intro v4 h
        have h := gw_app ej4 h
        refine gw_ior C dX4_lettersOf_28 ?_
        refine gw_lt h (fun v6 ev6 h => ?_)
        rw [ev6]
        refine gw_istore_n C dX4_lettersOf_29 [(2, .int v6), (0, .ref (a 0)), (1, .int p1), (3, .int x1.2)] rfl (by decide) rfl ?_
        refine gw_iinc (v := (x1.2 + (1 : Int32))) C dX4_lettersOf_30 [(3, .int (x1.2 + (1 : Int32))), (2, .int v6), (0, .ref (a 0)), (1, .int p1)] 3 rfl rfl (by decide) rfl ?_
        refine gw_goto (tgt := 4) C dX4_lettersOf_33 (by decide) ?_
        refine gw_sub [2, 3, 1, 0] rfl ?_
        have h := gw_some h
        exact I1 _ h
      refine gw_icmp_ne (tgt := 25) C dX4_lettersOf_18 (by decide) h (fun c5 h => ?_) (fun c5 h => ?_)
      · refine gw_iconst (v := (0 : Int32)) C dX4_lettersOf_21 rfl ?_
        refine gw_goto (tgt := 28) C dX4_lettersOf_22 (by decide) ?_
        refine gw_sub [0, 1, 3] rfl ?_
        exact J4 _ h
      · refine gw_iconst (v := (1 : Int32)) C dX4_lettersOf_25 rfl ?_
        refine gw_iload_n C dX4_lettersOf_26 3 rfl ?_
        refine gw_ishl C dX4_lettersOf_27 ?_
        refine gw_sub [0, 1, 3] rfl ?_
        exact J4 _ h
theorem hd_X4_bits : yX4_bits.cls = RX4 ∧ yX4_bits.cls ≠ "java/lang/invoke/MethodHandle" ∧ yX4_bits.cls ≠ "java/lang/invoke/VarHandle" ∧ (parseMethodDescriptor yX4_bits.desc).map (fun d => d.parameters.length) = some 1 := by decide +kernel
set_option maxHeartbeats 4000000 in
set_option maxRecDepth 100000 in
theorem c_X4_bits (l : Launch) (D : va_G) (cI cJ cO : ClassId) (p1 : Int32) {o : Int32} (h : fM_bits p1 = some o) : Ct l D (tysA cI cJ cO) yX4_bits wsX4_bits (rmOf 0 0) [.int p1] ([]) (some (.int o)) ([]) := by
  refine Ct_of (own := RX4) cX4_bits 3 (some .int) (by decide +kernel) rfl rfl (Nat.le_of_ble_eq_true rfl) ?_
  intro p e s m args below meth c A C hnm
  have h := gw_top h
  unfold fM_bits at h
  show gw_G p l e (rmOf 0 0) s m args below meth c D A (CtM D below (some (.int o)) ([]) A args s) 3 0 0 ([]) [(0, .int p1)] 0 []
  refine gw_iconst (v := (0 : Int32)) C dX4_bits_0 rfl ?_
  refine gw_istore_n C dX4_bits_1 [(1, .int (0 : Int32)), (0, .int p1)] rfl (by decide) rfl ?_
  refine gw_iload_n C dX4_bits_2 1 rfl ?_
  refine gw_istore_n C dX4_bits_3 [(2, .int p1), (1, .int (0 : Int32)), (0, .int p1)] rfl (by decide) rfl ?_
  refine gw_sub [1, 0] rfl ?_
  refine gw_lpb (x0 := ((0 : Int32), p1)) (Go := fun x1 : Int32 × Int32 => gw_G p l e (rmOf 0 0) s m args below meth c D A (CtM D below (some (.int o)) ([]) A args s) 3 0 0 ([]) [(1, .int x1.1), (2, .int x1.2)] 4 []) (GoX := fun v1 : Int32 => gw_G p l e (rmOf 0 0) s m args below meth c D A (CtM D below (some (.int o)) ([]) A args s) 3 0 0 ([]) [(1, .int v1)] 20 []) h (fun v1 h => ?_) (fun x1 K1 X1 I1 h => ?_)
  · refine gw_iload_n C dX4_bits_20 0 rfl ?_
    have h := gw_some h
    have ho := Option.some.inj h
    subst ho
    exact gw_iret C dX4_bits_21
  · refine gw_iload_n C dX4_bits_4 1 rfl ?_
    refine gw_if_eq (tgt := 20) C dX4_bits_5 (by decide) h (fun c2 h => ?_) (fun c2 h => ?_)
    · refine gw_sub [0] rfl ?_
      have h := gw_some h
      exact X1 _ h
    · refine gw_iinc (v := (x1.1 + (1 : Int32))) C dX4_bits_8 [(1, .int (x1.1 + (1 : Int32))), (2, .int x1.2)] 0 rfl rfl (by decide) rfl ?_
      refine gw_iload_n C dX4_bits_11 1 rfl ?_
      refine gw_iload_n C dX4_bits_12 1 rfl ?_
      refine gw_iconst (v := (1 : Int32)) C dX4_bits_13 rfl ?_
      refine gw_isub C dX4_bits_14 ?_
      refine gw_iand C dX4_bits_15 ?_
      refine gw_lt h (fun v3 ev3 h => ?_)
      rw [ev3]
      refine gw_istore_n C dX4_bits_16 [(2, .int v3), (1, .int (x1.1 + (1 : Int32)))] rfl (by decide) rfl ?_
      refine gw_goto (tgt := 4) C dX4_bits_17 (by decide) ?_
      refine gw_sub [1, 0] rfl ?_
      have h := gw_some h
      exact I1 _ h
theorem hd_X4_fits : yX4_fits.cls = RX4 ∧ yX4_fits.cls ≠ "java/lang/invoke/MethodHandle" ∧ yX4_fits.cls ≠ "java/lang/invoke/VarHandle" ∧ (parseMethodDescriptor yX4_fits.desc).map (fun d => d.parameters.length) = some 2 := by decide +kernel
set_option maxHeartbeats 4000000 in
set_option maxRecDepth 100000 in
theorem c_X4_fits (l : Launch) (D : va_G) (cI cJ cO : ClassId) (a : Nat → Nat) (t : MS) (p1 : Int32) (p2 : Int32) {o : Int32} (h : fM_fits p1 p2 t = some o) : Ct l D (tysA cI cJ cO) yX4_fits wsX4_fits (rmOf 1 21) [.ref (a 0), .int p1, .int p2] (wM cI a t) (some (.int o)) (wM cI a t) := by
  refine Ct_of (own := RX4) cX4_fits 6 (some .boolean) (by decide +kernel) rfl rfl (Nat.le_of_ble_eq_true rfl) ?_
  intro p e s m args below meth c A C hnm
  have w_X4_isUsed := cwV (R := (rmOf 1 21)) (rm := rmOf 0 0) (s := s) (args := args) 1 C.1.2.2.2.2 gX4_fits_X4_isUsed rfl rfl rfl hd_X4_isUsed ⟨Nat.le_of_ble_eq_true rfl, Nat.le_of_ble_eq_true rfl⟩
  have h := gw_top h
  unfold fM_fits at h
  show gw_G p l e (rmOf 1 21) s m args below meth c D A (CtM D below (some (.int o)) (wM cI a t) A args s) 6 0 0 (wM cI a t) [(0, .ref (a 0)), (1, .int p1), (2, .int p2)] 0 []
  refine gw_iconst (v := (1 : Int32)) C dX4_fits_0 rfl ?_
  refine gw_istore_n C dX4_fits_1 [(3, .int (1 : Int32)), (0, .ref (a 0)), (1, .int p1), (2, .int p2)] rfl (by decide) rfl ?_
  refine gw_iconst (v := (0 : Int32)) C dX4_fits_2 rfl ?_
  refine gw_istore C dX4_fits_3 [(4, .int (0 : Int32)), (3, .int (1 : Int32)), (0, .ref (a 0)), (1, .int p1), (2, .int p2)] (by decide) rfl ?_
  refine gw_sub [2, 3, 4, 1, 0] rfl ?_
  refine gw_lpb (x0 := ((1 : Int32), (0 : Int32))) (Go := fun x1 : Int32 × Int32 => gw_G p l e (rmOf 1 21) s m args below meth c D A (CtM D below (some (.int o)) (wM cI a t) A args s) 6 0 0 (wM cI a t) [(0, .ref (a 0)), (1, .int p1), (2, .int p2), (3, .int x1.1), (4, .int x1.2)] 5 []) (GoX := fun v1 : Int32 => gw_G p l e (rmOf 1 21) s m args below meth c D A (CtM D below (some (.int o)) (wM cI a t) A args s) 6 0 0 (wM cI a t) [(3, .int v1)] 71 []) h (fun v1 h => ?_) (fun x1 K1 X1 I1 h => ?_)
  · refine gw_iload_n C dX4_fits_71 0 rfl ?_
    refine gw_chk h (fun b13 h => ?_)
    have h := gw_some h
    have ho := Option.some.inj h
    subst ho
    exact gw_zret C b13 dX4_fits_72
  · refine gw_iload C dX4_fits_5 4 rfl ?_
    refine gw_bipush (v := (9 : Int32)) C dX4_fits_7 rfl ?_
    refine gw_icmp_ge (tgt := 71) C dX4_fits_9 (by decide) h (fun c2 h => ?_) (fun c2 h => ?_)
    · refine gw_sub [3] rfl ?_
      have h := gw_some h
      exact X1 _ h
    · refine gw_iload_n C dX4_fits_12 2 rfl ?_
      refine gw_iload C dX4_fits_13 4 rfl ?_
      refine gw_ishr C dX4_fits_15 ?_
      refine gw_iconst (v := (1 : Int32)) C dX4_fits_16 rfl ?_
      refine gw_iand C dX4_fits_17 ?_
      refine gw_iconst (v := (1 : Int32)) C dX4_fits_18 rfl ?_
      refine gw_lt h (fun j3 ej3 h => ?_)
      have J3 : ∀ v3 : Int32, Rs K1 o (j3 v3) → gw_G p l e (rmOf 1 21) s m args below meth c D A (CtM D below (some (.int o)) (wM cI a t) A args s) 6 0 0 (wM cI a t) [(0, .ref (a 0)), (1, .int p1), (2, .int p2), (3, .int x1.1), (4, .int x1.2)] 27 [.int v3] := by
        intro v3 h
        have h := gw_app ej3 h
        refine gw_istore C dX4_fits_27 [(5, .int v3), (0, .ref (a 0)), (1, .int p1), (2, .int p2), (3, .int x1.1), (4, .int x1.2)] (by decide) rfl ?_
        refine gw_iload_n C dX4_fits_29 4 rfl ?_
        refine gw_lt h (fun j6 ej6 h => ?_)
        have J6 : ∀ v6 : Int32, Rs K1 o (j6 v6) → gw_G p l e (rmOf 1 21) s m args below meth c D A (CtM D below (some (.int o)) (wM cI a t) A args s) 6 0 0 (wM cI a t) [(0, .ref (a 0)), (1, .int p1), (2, .int p2), (4, .int x1.2)] 64 [.int v6] := by
          intro v6 h
          have h := gw_app ej6 h
          refine gw_istore_n C dX4_fits_64 [(3, .int v6), (0, .ref (a 0)), (1, .int p1), (2, .int p2), (4, .int x1.2)] rfl (by decide) rfl ?_
          refine gw_iinc (v := (x1.2 + (1 : Int32))) C dX4_fits_65 [(4, .int (x1.2 + (1 : Int32))), (3, .int v6), (0, .ref (a 0)), (1, .int p1), (2, .int p2)] 4 rfl rfl (by decide) rfl ?_
          refine gw_goto (tgt := 5) C dX4_fits_68 (by decide) ?_
          refine gw_sub [2, 3, 4, 1, 0] rfl ?_
          have h := gw_some h
          exact I1 _ h
        refine gw_lt h (fun j5 ej5 h => ?_)
        have J5 : ∀ v5 : Unit, Rs K1 o (j5 v5) → gw_G p l e (rmOf 1 21) s m args below meth c D A (CtM D below (some (.int o)) (wM cI a t) A args s) 6 0 0 (wM cI a t) [(0, .ref (a 0)), (1, .int p1), (2, .int p2), (4, .int x1.2)] 63 [] := by
          intro v5 h
          have h := gw_app ej5 h
          refine gw_iconst (v := (0 : Int32)) C dX4_fits_63 rfl ?_
          exact J6 _ h
        refine gw_if_eq (tgt := 63) C dX4_fits_30 (by decide) h (fun c7 h => ?_) (fun c7 h => ?_)
        · refine gw_sub [1, 2, 3, 5] rfl ?_
          exact J5 _ h
        · refine gw_iload C dX4_fits_33 0 rfl ?_
          refine gw_lt h (fun j8 ej8 h => ?_)
          have J8 : ∀ v8 : Unit, Rs K1 o (j8 v8) → gw_G p l e (rmOf 1 21) s m args below meth c D A (CtM D below (some (.int o)) (wM cI a t) A args s) 6 0 0 (wM cI a t) [(0, .ref (a 0)), (1, .int p1), (2, .int p2), (4, .int x1.2)] 59 [] := by
            intro v8 h
            have h := gw_app ej8 h
            refine gw_iconst (v := (1 : Int32)) C dX4_fits_59 rfl ?_
            refine gw_goto (tgt := 64) C dX4_fits_60 (by decide) ?_
            exact J6 _ h
          refine gw_if_eq (tgt := 59) C dX4_fits_35 (by decide) h (fun c9 h => ?_) (fun c9 h => ?_)
          · refine gw_sub [1, 2, 3, 5] rfl ?_
            exact J8 _ h
          · refine gw_iload_n C dX4_fits_38 2 rfl ?_
            refine gw_iload C dX4_fits_39 5 rfl ?_
            refine gw_iadd C dX4_fits_41 ?_
            refine gw_sipush (v := (160 : Int32)) C dX4_fits_42 rfl ?_
            refine gw_icmp_ge (tgt := 63) C dX4_fits_45 (by decide) h (fun c10 h => ?_) (fun c10 h => ?_)
            · refine gw_sub [1, 2, 3, 5] rfl ?_
              exact J5 _ h
            · refine gw_aload_n C dX4_fits_48 1 rfl ?_
              refine gw_iload_n C dX4_fits_49 2 rfl ?_
              refine gw_iload C dX4_fits_50 5 rfl ?_
              refine gw_iadd C dX4_fits_52 ?_
              refine gw_bind h (fun q11 hq11 h => ?_)
              refine gw_whole (st2 := [.int q11]) C (run_V (rest := []) C (c_X4_isUsed l D cI cJ cO a t (p1 + x1.2) hq11) w_X4_isUsed 0 3 rfl rfl rfl rfl rfl (Nat.le_of_ble_eq_true rfl) dX4_fits_53 ⟨Nat.zero_le _, Nat.zero_le _⟩) rfl ?_
              refine gw_if_ne (tgt := 63) C dX4_fits_56 (by decide) h (fun c12 h => ?_) (fun c12 h => ?_)
              · refine gw_sub [1, 2, 3, 5] rfl ?_
                exact J8 _ h
              · refine gw_sub [1, 2, 3, 5] rfl ?_
                exact J5 _ h
      refine gw_icmp_ne (tgt := 26) C dX4_fits_19 (by decide) h (fun c4 h => ?_) (fun c4 h => ?_)
      · refine gw_iconst (v := (1 : Int32)) C dX4_fits_22 rfl ?_
        refine gw_goto (tgt := 27) C dX4_fits_23 (by decide) ?_
        exact J3 _ h
      · refine gw_iconst (v := (0 : Int32)) C dX4_fits_26 rfl ?_
        exact J3 _ h
theorem hd_X4_leastOffset : yX4_leastOffset.cls = RX4 ∧ yX4_leastOffset.cls ≠ "java/lang/invoke/MethodHandle" ∧ yX4_leastOffset.cls ≠ "java/lang/invoke/VarHandle" ∧ (parseMethodDescriptor yX4_leastOffset.desc).map (fun d => d.parameters.length) = some 1 := by decide +kernel
set_option maxHeartbeats 4000000 in
set_option maxRecDepth 100000 in
theorem c_X4_leastOffset (l : Launch) (D : va_G) (cI cJ cO : ClassId) (a : Nat → Nat) (t : MS) (p1 : Int32) {o : Int32} (h : fM_leastOffset p1 t = some o) : Ct l D (tysA cI cJ cO) yX4_leastOffset wsX4_leastOffset (rmOf 2 46) [.ref (a 0), .int p1] (wM cI a t) (some (.int o)) (wM cI a t) := by
  refine Ct_of (own := RX4) cX4_leastOffset 3 (some .int) (by decide +kernel) rfl rfl (Nat.le_of_ble_eq_true rfl) ?_
  intro p e s m args below meth c A C hnm
  have w_X4_fits := cwV (R := (rmOf 2 46)) (rm := rmOf 1 21) (s := s) (args := args) 2 C.1.2.2.2.2 gX4_leastOffset_X4_fits rfl rfl rfl hd_X4_fits ⟨Nat.le_of_ble_eq_true rfl, Nat.le_of_ble_eq_true rfl⟩
  have h := gw_top h
  unfold fM_leastOffset at h
  show gw_G p l e (rmOf 2 46) s m args below meth c D A (CtM D below (some (.int o)) (wM cI a t) A args s) 3 0 0 (wM cI a t) [(0, .ref (a 0)), (1, .int p1)] 0 []
  refine gw_iconst (v := (1 : Int32)) C dX4_leastOffset_0 rfl ?_
  refine gw_istore_n C dX4_leastOffset_1 [(2, .int (1 : Int32)), (0, .ref (a 0)), (1, .int p1)] rfl (by decide) rfl ?_
  refine gw_sub [1, 2, 0] rfl ?_
  refine gw_lpt (x0 := (1 : Int32)) (Go := fun x1 : Int32 => gw_G p l e (rmOf 2 46) s m args below meth c D A (CtM D below (some (.int o)) (wM cI a t) A args s) 3 0 0 (wM cI a t) [(0, .ref (a 0)), (1, .int p1), (2, .int x1)] 2 []) h (fun x1 K1 X1 I1 h => ?_)
  refine gw_iload_n C dX4_leastOffset_2 2 rfl ?_
  refine gw_sipush (v := (160 : Int32)) C dX4_leastOffset_3 rfl ?_
  refine gw_icmp_ge (tgt := 26) C dX4_leastOffset_6 (by decide) h (fun c2 h => ?_) (fun c2 h => ?_)
  · refine gw_iconst (v := (-1 : Int32)) C dX4_leastOffset_26 rfl ?_
    have h := gw_some h
    have h := X1 _ h
    have ho := Option.some.inj h
    subst ho
    exact gw_iret C dX4_leastOffset_27
  · refine gw_aload_n C dX4_leastOffset_9 0 rfl ?_
    refine gw_iload_n C dX4_leastOffset_10 2 rfl ?_
    refine gw_iload_n C dX4_leastOffset_11 1 rfl ?_
    refine gw_bind h (fun q3 hq3 h => ?_)
    refine gw_whole (st2 := [.int q3]) C (run_V (rest := []) C (c_X4_fits l D cI cJ cO a t x1 p1 hq3) w_X4_fits 0 3 rfl rfl rfl rfl rfl (Nat.le_of_ble_eq_true rfl) dX4_leastOffset_12 ⟨Nat.zero_le _, Nat.zero_le _⟩) rfl ?_
    refine gw_if_eq (tgt := 20) C dX4_leastOffset_15 (by decide) h (fun c4 h => ?_) (fun c4 h => ?_)
    · refine gw_iinc (v := (x1 + (1 : Int32))) C dX4_leastOffset_20 [(2, .int (x1 + (1 : Int32))), (0, .ref (a 0)), (1, .int p1)] 2 rfl rfl (by decide) rfl ?_
      refine gw_goto (tgt := 2) C dX4_leastOffset_23 (by decide) ?_
      refine gw_sub [1, 2, 0] rfl ?_
      have h := gw_some h
      exact I1 _ h
    · refine gw_iload_n C dX4_leastOffset_18 2 rfl ?_
      have h := gw_some h
      have h := X1 _ h
      have ho := Option.some.inj h
      subst ho
      exact gw_iret C dX4_leastOffset_19
theorem hd_X4_adopt : yX4_adopt.cls = RX4 ∧ yX4_adopt.cls ≠ "java/lang/invoke/MethodHandle" ∧ yX4_adopt.cls ≠ "java/lang/invoke/VarHandle" ∧ (parseMethodDescriptor yX4_adopt.desc).map (fun d => d.parameters.length) = some 2 := by decide +kernel
set_option maxHeartbeats 4000000 in
set_option maxRecDepth 100000 in
theorem c_X4_adopt (l : Launch) (D : va_G) (cI cJ cO : ClassId) (a : Nat → Nat) (t : MS) (p1 : Int32) (p2 : Int32) {o : MS} (h : fM_adopt p1 p2 t = some o) : Ct l D (tysA cI cJ cO) yX4_adopt wsX4_adopt (rmOf 2 45) [.ref (a 0), .int p1, .int p2] (wM cI a t) none (wM cI a o) := by
  refine Ct_of (own := RX4) cX4_adopt 5 none (by decide +kernel) rfl rfl (Nat.le_of_ble_eq_true rfl) ?_
  intro p e s m args below meth c A C hnm
  have iX4 : ∀ w ∈ u_ws RX4 TX4 16, w ∈ wsX4_adopt := fun w h => List.mem_cons_of_mem _ (List.mem_append_right _ h)
  have f7 : Cond.fieldLink RX4 7 (TX4 1).1 (TX4 1).2.1 (TX4 1).2.2.1 ∈ wsX4_adopt := List.mem_of_getElem? (i := 1) rfl
  have w_X4_child := cwV (R := (rmOf 2 45)) (rm := rmOf 1 21) (s := s) (args := args) 2 C.1.2.2.2.2 gX4_adopt_X4_child rfl rfl rfl hd_X4_child ⟨Nat.le_of_ble_eq_true rfl, Nat.le_of_ble_eq_true rfl⟩
  have h := gw_top h
  unfold fM_adopt at h
  show gw_G p l e (rmOf 2 45) s m args below meth c D A (CtM D below none (wM cI a o) A args s) 5 0 0 (wM cI a t) [(0, .ref (a 0)), (1, .int p1), (2, .int p2)] 0 []
  refine gw_iconst (v := (0 : Int32)) C dX4_adopt_0 rfl ?_
  refine gw_istore_n C dX4_adopt_1 [(3, .int (0 : Int32)), (0, .ref (a 0)), (1, .int p1), (2, .int p2)] rfl (by decide) rfl ?_
  refine gw_sub [1, 2, 3, 0] rfl ?_
  refine gw_lpb (x0 := ((0 : Int32), t)) (Go := fun x1 : Int32 × MS => gw_G p l e (rmOf 2 45) s m args below meth c D A (CtM D below none (wM cI a o) A args s) 5 0 0 (wM cI a x1.2) [(0, .ref (a 0)), (1, .int p1), (2, .int p2), (3, .int x1.1)] 2 []) (GoX := fun v1 : MS => gw_G p l e (rmOf 2 45) s m args below meth c D A (CtM D below none (wM cI a o) A args s) 5 0 0 (wM cI a v1) [] 40 []) h (fun v1 h => ?_) (fun x1 K1 X1 I1 h => ?_)
  · have h := gw_some h
    have ho := Option.some.inj h
    subst ho
    exact gw_vret C dX4_adopt_40
  · refine gw_iload_n C dX4_adopt_2 3 rfl ?_
    refine gw_bipush (v := (9 : Int32)) C dX4_adopt_3 rfl ?_
    refine gw_icmp_ge (tgt := 40) C dX4_adopt_5 (by decide) h (fun c2 h => ?_) (fun c2 h => ?_)
    · refine gw_sub [] rfl ?_
      have h := gw_some h
      exact X1 _ h
    · refine gw_aload_n C dX4_adopt_8 0 rfl ?_
      refine gw_iload_n C dX4_adopt_9 1 rfl ?_
      refine gw_iload_n C dX4_adopt_10 3 rfl ?_
      refine gw_bind h (fun q3 hq3 h => ?_)
      refine gw_whole (st2 := [.int q3]) C (run_V (rest := []) C (c_X4_child l D cI cJ cO a x1.2 p1 x1.1 hq3) w_X4_child 0 3 rfl rfl rfl rfl rfl (Nat.le_of_ble_eq_true rfl) dX4_adopt_11 ⟨Nat.zero_le _, Nat.zero_le _⟩) rfl ?_
      refine gw_istore C dX4_adopt_14 [(4, .int q3), (0, .ref (a 0)), (1, .int p1), (2, .int p2), (3, .int x1.1)] (by decide) rfl ?_
      refine gw_iload C dX4_adopt_16 0 rfl ?_
      refine gw_iconst (v := (-1 : Int32)) C dX4_adopt_18 rfl ?_
      refine gw_icmp_eq (tgt := 34) C dX4_adopt_19 (by decide) h (fun c4 h => ?_) (fun c4 h => ?_)
      · refine gw_iinc (v := (x1.1 + (1 : Int32))) C dX4_adopt_34 [(3, .int (x1.1 + (1 : Int32))), (4, .int q3), (0, .ref (a 0)), (1, .int p1), (2, .int p2)] 4 rfl rfl (by decide) rfl ?_
        refine gw_goto (tgt := 2) C dX4_adopt_37 (by decide) ?_
        refine gw_sub [2, 3, 4, 0] rfl ?_
        have h := gw_some h
        exact I1 _ h
      · refine gw_aload_n C dX4_adopt_22 1 rfl ?_
        refine gw_get C dX4_adopt_23 0 3 1 rfl rfl iX4 (by decide) f7 rfl ?_
        refine gw_sipush (v := (160 : Int32)) C dX4_adopt_26 rfl ?_
        refine gw_iload C dX4_adopt_29 0 rfl ?_
        refine gw_iadd C dX4_adopt_31 ?_
        refine gw_iload_n C dX4_adopt_32 3 rfl ?_
        refine gw_chk h (fun b5 h => ?_)
        refine gw_lt h (fun t6 et6 h => ?_)
        refine gw_iast (ws' := wM cI a t6) C dX4_adopt_33 1 0 rfl rfl b5 (by subst et6; rfl) ?_
        refine gw_iinc (v := (x1.1 + (1 : Int32))) C dX4_adopt_34 [(3, .int (x1.1 + (1 : Int32))), (4, .int q3), (0, .ref (a 0)), (1, .int p1), (2, .int p2)] 4 rfl rfl (by decide) rfl ?_
        refine gw_goto (tgt := 2) C dX4_adopt_37 (by decide) ?_
        refine gw_sub [2, 3, 4, 0] rfl ?_
        have h := gw_some h
        exact I1 _ h
theorem hd_X4_moveChildren : yX4_moveChildren.cls = RX4 ∧ yX4_moveChildren.cls ≠ "java/lang/invoke/MethodHandle" ∧ yX4_moveChildren.cls ≠ "java/lang/invoke/VarHandle" ∧ (parseMethodDescriptor yX4_moveChildren.desc).map (fun d => d.parameters.length) = some 2 := by decide +kernel
set_option maxHeartbeats 4000000 in
set_option maxRecDepth 100000 in
theorem c_X4_moveChildren (l : Launch) (D : va_G) (cI cJ cO : ClassId) (a : Nat → Nat) (t : MS) (p1 : Int32) (p2 : Int32) {o : MS} (h : fM_moveChildren p1 p2 t = some o) : Ct l D (tysA cI cJ cO) yX4_moveChildren wsX4_moveChildren (rmOf 3 69) [.ref (a 0), .int p1, .int p2] (wM cI a t) none (wM cI a o) := by
  refine Ct_of (own := RX4) cX4_moveChildren 8 none (by decide +kernel) rfl rfl (Nat.le_of_ble_eq_true rfl) ?_
  intro p e s m args below meth c A C hnm
  have iX4 : ∀ w ∈ u_ws RX4 TX4 16, w ∈ wsX4_moveChildren := fun w h => List.mem_cons_of_mem _ (List.mem_append_right _ h)
  have f7 : Cond.fieldLink RX4 7 (TX4 1).1 (TX4 1).2.1 (TX4 1).2.2.1 ∈ wsX4_moveChildren := List.mem_of_getElem? (i := 1) rfl
  have w_X4_adopt := cwV (R := (rmOf 3 69)) (rm := rmOf 2 45) (s := s) (args := args) 2 C.1.2.2.2.2 gX4_moveChildren_X4_adopt rfl rfl rfl hd_X4_adopt ⟨Nat.le_of_ble_eq_true rfl, Nat.le_of_ble_eq_true rfl⟩
  have w_X4_free := cwV (R := (rmOf 3 69)) (rm := rmOf 0 0) (s := s) (args := args) 1 C.1.2.2.2.2 gX4_moveChildren_X4_free rfl rfl rfl hd_X4_free ⟨Nat.le_of_ble_eq_true rfl, Nat.le_of_ble_eq_true rfl⟩
  have w_X4_lettersOf := cwV (R := (rmOf 3 69)) (rm := rmOf 2 45) (s := s) (args := args) 1 C.1.2.2.2.2 gX4_moveChildren_X4_lettersOf rfl rfl rfl hd_X4_lettersOf ⟨Nat.le_of_ble_eq_true rfl, Nat.le_of_ble_eq_true rfl⟩
  have w_X4_offset := cwV (R := (rmOf 3 69)) (rm := rmOf 0 0) (s := s) (args := args) 1 C.1.2.2.2.2 gX4_moveChildren_X4_offset rfl rfl rfl hd_X4_offset ⟨Nat.le_of_ble_eq_true rfl, Nat.le_of_ble_eq_true rfl⟩
  have h := gw_top h
  unfold fM_moveChildren at h
  show gw_G p l e (rmOf 3 69) s m args below meth c D A (CtM D below none (wM cI a o) A args s) 8 0 0 (wM cI a t) [(0, .ref (a 0)), (1, .int p1), (2, .int p2)] 0 []
  refine gw_aload_n C dX4_moveChildren_0 0 rfl ?_
  refine gw_iload_n C dX4_moveChildren_1 1 rfl ?_
  refine gw_bind h (fun q1 hq1 h => ?_)
  refine gw_whole (st2 := [.int q1]) C (run_V (rest := []) C (c_X4_lettersOf l D cI cJ cO a t p1 hq1) w_X4_lettersOf 0 3 rfl rfl rfl rfl rfl (Nat.le_of_ble_eq_true rfl) dX4_moveChildren_2 ⟨Nat.zero_le _, Nat.zero_le _⟩) rfl ?_
  refine gw_istore_n C dX4_moveChildren_5 [(3, .int q1), (0, .ref (a 0)), (1, .int p1), (2, .int p2)] rfl (by decide) rfl ?_
  refine gw_aload_n C dX4_moveChildren_6 1 rfl ?_
  refine gw_iload_n C dX4_moveChildren_7 2 rfl ?_
  refine gw_bind h (fun q2 hq2 h => ?_)
  refine gw_whole (st2 := [.int q2]) C (run_V (rest := []) C (c_X4_offset l D cI cJ cO a t p1 hq2) w_X4_offset 0 3 rfl rfl rfl rfl rfl (Nat.le_of_ble_eq_true rfl) dX4_moveChildren_8 ⟨Nat.zero_le _, Nat.zero_le _⟩) rfl ?_
  refine gw_istore C dX4_moveChildren_11 [(4, .int q2), (3, .int q1), (0, .ref (a 0)), (1, .int p1), (2, .int p2)] (by decide) rfl ?_
  refine gw_iconst (v := (0 : Int32)) C dX4_moveChildren_13 rfl ?_
  refine gw_istore C dX4_moveChildren_14 [(5, .int (0 : Int32)), (4, .int q2), (3, .int q1), (0, .ref (a 0)), (1, .int p1), (2, .int p2)] (by decide) rfl ?_
  refine gw_sub [3, 4, 5, 2, 1, 0] rfl ?_
  refine gw_lpb (x0 := ((0 : Int32), t)) (Go := fun x3 : Int32 × MS => gw_G p l e (rmOf 3 69) s m args below meth c D A (CtM D below none (wM cI a o) A args s) 8 0 0 (wM cI a x3.2) [(0, .ref (a 0)), (1, .int p1), (2, .int p2), (3, .int q1), (4, .int q2), (5, .int x3.1)] 16 []) (GoX := fun v3 : MS => gw_G p l e (rmOf 3 69) s m args below meth c D A (CtM D below none (wM cI a o) A args s) 8 0 0 (wM cI a v3) [(0, .ref (a 0)), (1, .int p1), (2, .int p2)] 165 []) h (fun v3 h => ?_) (fun x3 K3 X3 I3 h => ?_)
  · refine gw_aload_n C dX4_moveChildren_165 0 rfl ?_
    refine gw_get C dX4_moveChildren_166 0 3 1 rfl rfl iX4 (by decide) f7 rfl ?_
    refine gw_sipush (v := (480 : Int32)) C dX4_moveChildren_169 rfl ?_
    refine gw_iload_n C dX4_moveChildren_172 1 rfl ?_
    refine gw_iadd C dX4_moveChildren_173 ?_
    refine gw_iload_n C dX4_moveChildren_174 2 rfl ?_
    refine gw_chk h (fun b26 h => ?_)
    refine gw_lt h (fun t27 et27 h => ?_)
    refine gw_iast (ws' := wM cI a t27) C dX4_moveChildren_175 1 0 rfl rfl b26 (by subst et27; rfl) ?_
    have h := gw_some h
    have ho := Option.some.inj h
    subst ho
    exact gw_vret C dX4_moveChildren_176
  · refine gw_iload C dX4_moveChildren_16 5 rfl ?_
    refine gw_bipush (v := (9 : Int32)) C dX4_moveChildren_18 rfl ?_
    refine gw_icmp_ge (tgt := 165) C dX4_moveChildren_20 (by decide) h (fun c4 h => ?_) (fun c4 h => ?_)
    · refine gw_sub [0, 1, 2] rfl ?_
      have h := gw_some h
      exact X3 _ h
    · refine gw_iload_n C dX4_moveChildren_23 3 rfl ?_
      refine gw_iload C dX4_moveChildren_24 5 rfl ?_
      refine gw_ishr C dX4_moveChildren_26 ?_
      refine gw_iconst (v := (1 : Int32)) C dX4_moveChildren_27 rfl ?_
      refine gw_iand C dX4_moveChildren_28 ?_
      refine gw_iconst (v := (1 : Int32)) C dX4_moveChildren_29 rfl ?_
      refine gw_icmp_ne (tgt := 159) C dX4_moveChildren_30 (by decide) h (fun c5 h => ?_) (fun c5 h => ?_)
      · refine gw_iload C dX4_moveChildren_33 4 rfl ?_
        refine gw_iload C dX4_moveChildren_35 5 rfl ?_
        refine gw_iadd C dX4_moveChildren_37 ?_
        refine gw_lt h (fun v6 ev6 h => ?_)
        rw [ev6]
        refine gw_istore C dX4_moveChildren_38 [(6, .int v6), (0, .ref (a 0)), (1, .int p1), (2, .int p2), (3, .int q1), (4, .int q2), (5, .int x3.1)] (by decide) rfl ?_
        refine gw_iload_n C dX4_moveChildren_40 3 rfl ?_
        refine gw_iload C dX4_moveChildren_41 6 rfl ?_
        refine gw_iadd C dX4_moveChildren_43 ?_
        refine gw_lt h (fun v7 ev7 h => ?_)
        rw [ev7]
        refine gw_istore C dX4_moveChildren_44 [(7, .int v7), (6, .int v6), (0, .ref (a 0)), (1, .int p1), (2, .int p2), (3, .int q1), (4, .int q2), (5, .int x3.1)] (by decide) rfl ?_
        refine gw_aload_n C dX4_moveChildren_46 2 rfl ?_
        refine gw_get C dX4_moveChildren_47 0 3 1 rfl rfl iX4 (by decide) f7 rfl ?_
        refine gw_iconst (v := (0 : Int32)) C dX4_moveChildren_50 rfl ?_
        refine gw_iload C dX4_moveChildren_51 0 rfl ?_
        refine gw_iadd C dX4_moveChildren_53 ?_
        refine gw_aload_n C dX4_moveChildren_54 2 rfl ?_
        refine gw_get C dX4_moveChildren_55 0 3 1 rfl rfl iX4 (by decide) f7 rfl ?_
        refine gw_iconst (v := (0 : Int32)) C dX4_moveChildren_58 rfl ?_
        refine gw_iload C dX4_moveChildren_59 1 rfl ?_
        refine gw_iadd C dX4_moveChildren_61 ?_
        refine gw_chk h (fun b8 h => ?_)
        refine gw_iald C dX4_moveChildren_62 1 0 rfl rfl b8 ?_
        refine gw_chk h (fun b9 h => ?_)
        refine gw_lt h (fun t10 et10 h => ?_)
        refine gw_iast (ws' := wM cI a t10) C dX4_moveChildren_63 1 0 rfl rfl b9 (by subst et10; rfl) ?_
        refine gw_aload_n C dX4_moveChildren_64 2 rfl ?_
        refine gw_get C dX4_moveChildren_65 0 3 1 rfl rfl iX4 (by decide) f7 rfl ?_
        refine gw_sipush (v := (160 : Int32)) C dX4_moveChildren_68 rfl ?_
        refine gw_iload C dX4_moveChildren_71 0 rfl ?_
        refine gw_iadd C dX4_moveChildren_73 ?_
        refine gw_iload_n C dX4_moveChildren_74 3 rfl ?_
        refine gw_chk h (fun b11 h => ?_)
        refine gw_lt h (fun t12 et12 h => ?_)
        refine gw_iast (ws' := wM cI a t12) C dX4_moveChildren_75 1 0 rfl rfl b11 (by subst et12; rfl) ?_
        refine gw_aload_n C dX4_moveChildren_76 2 rfl ?_
        refine gw_get C dX4_moveChildren_77 0 3 1 rfl rfl iX4 (by decide) f7 rfl ?_
        refine gw_sipush (v := (320 : Int32)) C dX4_moveChildren_80 rfl ?_
        refine gw_iload C dX4_moveChildren_83 0 rfl ?_
        refine gw_iadd C dX4_moveChildren_85 ?_
        refine gw_iload C dX4_moveChildren_86 7 rfl ?_
        refine gw_chk h (fun b13 h => ?_)
        refine gw_lt h (fun t14 et14 h => ?_)
        refine gw_iast (ws' := wM cI a t14) C dX4_moveChildren_88 1 0 rfl rfl b13 (by subst et14; rfl) ?_
        refine gw_aload_n C dX4_moveChildren_89 2 rfl ?_
        refine gw_get C dX4_moveChildren_90 0 3 1 rfl rfl iX4 (by decide) f7 rfl ?_
        refine gw_sipush (v := (480 : Int32)) C dX4_moveChildren_93 rfl ?_
        refine gw_iload C dX4_moveChildren_96 0 rfl ?_
        refine gw_iadd C dX4_moveChildren_98 ?_
        refine gw_aload_n C dX4_moveChildren_99 2 rfl ?_
        refine gw_get C dX4_moveChildren_100 0 3 1 rfl rfl iX4 (by decide) f7 rfl ?_
        refine gw_sipush (v := (480 : Int32)) C dX4_moveChildren_103 rfl ?_
        refine gw_iload C dX4_moveChildren_106 1 rfl ?_
        refine gw_iadd C dX4_moveChildren_108 ?_
        refine gw_chk h (fun b15 h => ?_)
        refine gw_iald C dX4_moveChildren_109 1 0 rfl rfl b15 ?_
        refine gw_chk h (fun b16 h => ?_)
        refine gw_lt h (fun t17 et17 h => ?_)
        refine gw_iast (ws' := wM cI a t17) C dX4_moveChildren_110 1 0 rfl rfl b16 (by subst et17; rfl) ?_
        refine gw_aload_n C dX4_moveChildren_111 2 rfl ?_
        refine gw_get C dX4_moveChildren_112 0 3 1 rfl rfl iX4 (by decide) f7 rfl ?_
        refine gw_sipush (v := (640 : Int32)) C dX4_moveChildren_115 rfl ?_
        refine gw_iload C dX4_moveChildren_118 0 rfl ?_
        refine gw_iadd C dX4_moveChildren_120 ?_
        refine gw_aload_n C dX4_moveChildren_121 2 rfl ?_
        refine gw_get C dX4_moveChildren_122 0 3 1 rfl rfl iX4 (by decide) f7 rfl ?_
        refine gw_sipush (v := (640 : Int32)) C dX4_moveChildren_125 rfl ?_
        refine gw_iload C dX4_moveChildren_128 1 rfl ?_
        refine gw_iadd C dX4_moveChildren_130 ?_
        refine gw_chk h (fun b18 h => ?_)
        refine gw_iald C dX4_moveChildren_131 1 0 rfl rfl b18 ?_
        refine gw_chk h (fun b19 h => ?_)
        refine gw_lt h (fun t20 et20 h => ?_)
        refine gw_iast (ws' := wM cI a t20) C dX4_moveChildren_132 1 0 rfl rfl b19 (by subst et20; rfl) ?_
        refine gw_aload_n C dX4_moveChildren_133 2 rfl ?_
        refine gw_iload C dX4_moveChildren_134 1 rfl ?_
        refine gw_iload C dX4_moveChildren_136 0 rfl ?_
        refine gw_bind h (fun q21 hq21 h => ?_)
        refine gw_whole (st2 := []) C (run_V (rest := []) C (c_X4_adopt l D cI cJ cO a t20 v6 v7 hq21) w_X4_adopt 0 3 rfl rfl rfl rfl rfl (Nat.le_of_ble_eq_true rfl) dX4_moveChildren_138 ⟨Nat.zero_le _, Nat.zero_le _⟩) rfl ?_
        refine gw_aload_n C dX4_moveChildren_141 2 rfl ?_
        refine gw_iload C dX4_moveChildren_142 1 rfl ?_
        refine gw_bind h (fun q22 hq22 h => ?_)
        refine gw_whole (st2 := []) C (run_V (rest := []) C (c_X4_free l D cI cJ cO a q21 v6 hq22) w_X4_free 0 3 rfl rfl rfl rfl rfl (Nat.le_of_ble_eq_true rfl) dX4_moveChildren_144 ⟨Nat.zero_le _, Nat.zero_le _⟩) rfl ?_
        refine gw_aload_n C dX4_moveChildren_147 2 rfl ?_
        refine gw_get C dX4_moveChildren_148 0 3 1 rfl rfl iX4 (by decide) f7 rfl ?_
        refine gw_sipush (v := (1360 : Int32)) C dX4_moveChildren_151 rfl ?_
        refine gw_dup2_11 C dX4_moveChildren_154 rfl rfl ?_
        refine gw_chk h (fun b23 h => ?_)
        refine gw_iald C dX4_moveChildren_155 1 0 rfl rfl b23 ?_
        refine gw_iconst (v := (1 : Int32)) C dX4_moveChildren_156 rfl ?_
        refine gw_iadd C dX4_moveChildren_157 ?_
        refine gw_chk h (fun b24 h => ?_)
        refine gw_lt h (fun t25 et25 h => ?_)
        refine gw_iast (ws' := wM cI a t25) C dX4_moveChildren_158 1 0 rfl rfl b24 (by subst et25; rfl) ?_
        refine gw_iinc (v := (x3.1 + (1 : Int32))) C dX4_moveChildren_159 [(5, .int (x3.1 + (1 : Int32))), (7, .int v7), (6, .int v6), (0, .ref (a 0)), (1, .int p1), (2, .int p2), (3, .int q1), (4, .int q2)] 7 rfl rfl (by decide) rfl ?_
        refine gw_goto (tgt := 16) C dX4_moveChildren_162 (by decide) ?_
        refine gw_sub [3, 4, 5, 6, 7, 0] rfl ?_
        have h := gw_some h
        exact I3 _ h
      · refine gw_iinc (v := (x3.1 + (1 : Int32))) C dX4_moveChildren_159 [(5, .int (x3.1 + (1 : Int32))), (0, .ref (a 0)), (1, .int p1), (2, .int p2), (3, .int q1), (4, .int q2)] 5 rfl rfl (by decide) rfl ?_
        refine gw_goto (tgt := 16) C dX4_moveChildren_162 (by decide) ?_
        refine gw_sub [1, 2, 3, 4, 5, 0] rfl ?_
        have h := gw_some h
        exact I3 _ h
theorem hd_X4_makeRoom : yX4_makeRoom.cls = RX4 ∧ yX4_makeRoom.cls ≠ "java/lang/invoke/MethodHandle" ∧ yX4_makeRoom.cls ≠ "java/lang/invoke/VarHandle" ∧ (parseMethodDescriptor yX4_makeRoom.desc).map (fun d => d.parameters.length) = some 2 := by decide +kernel
set_option maxHeartbeats 4000000 in
set_option maxRecDepth 100000 in
theorem c_X4_makeRoom (l : Launch) (D : va_G) (cI cJ cO : ClassId) (a : Nat → Nat) (t : MS) (p1 : Int32) (p2 : Int32) {o : Int32 × MS} (h : fM_makeRoom p1 p2 t = some o) : Ct l D (tysA cI cJ cO) yX4_makeRoom wsX4_makeRoom (rmOf 4 96) [.ref (a 0), .int p1, .int p2] (wM cI a t) (some (.int o.1)) (wM cI a o.2) := by
  refine Ct_of (own := RX4) cX4_makeRoom 11 (some .int) (by decide +kernel) rfl rfl (Nat.le_of_ble_eq_true rfl) ?_
  intro p e s m args below meth c A C hnm
  have iX4 : ∀ w ∈ u_ws RX4 TX4 16, w ∈ wsX4_makeRoom := fun w h => List.mem_cons_of_mem _ (List.mem_append_right _ h)
  have f7 : Cond.fieldLink RX4 7 (TX4 1).1 (TX4 1).2.1 (TX4 1).2.2.1 ∈ wsX4_makeRoom := List.mem_of_getElem? (i := 1) rfl
  have w_X4_bits := va_cwS (R := (rmOf 4 96)) (rm := rmOf 0 0) (s := s) (args := args) 1 C.1.2.2.2.2 gX4_makeRoom_X4_bits rfl rfl rfl hd_X4_bits.2 ⟨Nat.le_of_ble_eq_true rfl, Nat.le_of_ble_eq_true rfl⟩
  have w_X4_isUsed := cwV (R := (rmOf 4 96)) (rm := rmOf 0 0) (s := s) (args := args) 1 C.1.2.2.2.2 gX4_makeRoom_X4_isUsed rfl rfl rfl hd_X4_isUsed ⟨Nat.le_of_ble_eq_true rfl, Nat.le_of_ble_eq_true rfl⟩
  have w_X4_leastOffset := cwV (R := (rmOf 4 96)) (rm := rmOf 2 46) (s := s) (args := args) 1 C.1.2.2.2.2 gX4_makeRoom_X4_leastOffset rfl rfl rfl hd_X4_leastOffset ⟨Nat.le_of_ble_eq_true rfl, Nat.le_of_ble_eq_true rfl⟩
  have w_X4_lettersOf := cwV (R := (rmOf 4 96)) (rm := rmOf 2 45) (s := s) (args := args) 1 C.1.2.2.2.2 gX4_makeRoom_X4_lettersOf rfl rfl rfl hd_X4_lettersOf ⟨Nat.le_of_ble_eq_true rfl, Nat.le_of_ble_eq_true rfl⟩
  have w_X4_moveChildren := cwV (R := (rmOf 4 96)) (rm := rmOf 3 69) (s := s) (args := args) 2 C.1.2.2.2.2 gX4_makeRoom_X4_moveChildren rfl rfl rfl hd_X4_moveChildren ⟨Nat.le_of_ble_eq_true rfl, Nat.le_of_ble_eq_true rfl⟩
  have w_X4_offset := cwV (R := (rmOf 4 96)) (rm := rmOf 0 0) (s := s) (args := args) 1 C.1.2.2.2.2 gX4_makeRoom_X4_offset rfl rfl rfl hd_X4_offset ⟨Nat.le_of_ble_eq_true rfl, Nat.le_of_ble_eq_true rfl⟩
  have h := gw_top h
  unfold fM_makeRoom at h
  show gw_G p l e (rmOf 4 96) s m args below meth c D A (CtM D below (some (.int o.1)) (wM cI a o.2) A args s) 11 0 0 (wM cI a t) [(0, .ref (a 0)), (1, .int p1), (2, .int p2)] 0 []
  refine gw_aload_n C dX4_makeRoom_0 0 rfl ?_
  refine gw_iload_n C dX4_makeRoom_1 1 rfl ?_
  refine gw_bind h (fun q1 hq1 h => ?_)
  refine gw_whole (st2 := [.int q1]) C (run_V (rest := []) C (c_X4_offset l D cI cJ cO a t p1 hq1) w_X4_offset 0 3 rfl rfl rfl rfl rfl (Nat.le_of_ble_eq_true rfl) dX4_makeRoom_2 ⟨Nat.zero_le _, Nat.zero_le _⟩) rfl ?_
  refine gw_iload_n C dX4_makeRoom_5 2 rfl ?_
  refine gw_iadd C dX4_makeRoom_6 ?_
  refine gw_lt h (fun v2 ev2 h => ?_)
  rw [ev2]
  refine gw_istore_n C dX4_makeRoom_7 [(3, .int v2), (0, .ref (a 0)), (1, .int p1), (2, .int p2)] rfl (by decide) rfl ?_
  refine gw_iload_n C dX4_makeRoom_8 0 rfl ?_
  refine gw_sipush (v := (160 : Int32)) C dX4_makeRoom_9 rfl ?_
  refine gw_lt h (fun j3 ej3 h => ?_)
  have J3 : ∀ v3 : Unit, Rs some o (j3 v3) → gw_G p l e (rmOf 4 96) s m args below meth c D A (CtM D below (some (.int o.1)) (wM cI a o.2) A args s) 11 0 0 (wM cI a t) [(0, .ref (a 0)), (1, .int p1), (2, .int p2), (3, .int v2)] 25 [] := by
    intro v3 h
    have h := gw_app ej3 h
    refine gw_aload_n C dX4_makeRoom_25 0 rfl ?_
    refine gw_iload_n C dX4_makeRoom_26 1 rfl ?_
    refine gw_bind h (fun q7 hq7 h => ?_)
    refine gw_whole (st2 := [.int q7]) C (run_V (rest := []) C (c_X4_lettersOf l D cI cJ cO a t p1 hq7) w_X4_lettersOf 0 3 rfl rfl rfl rfl rfl (Nat.le_of_ble_eq_true rfl) dX4_makeRoom_27 ⟨Nat.zero_le _, Nat.zero_le _⟩) rfl ?_
    refine gw_istore C dX4_makeRoom_30 [(4, .int q7), (0, .ref (a 0)), (1, .int p1), (2, .int p2), (3, .int v2)] (by decide) rfl ?_
    refine gw_iload_n C dX4_makeRoom_32 4 rfl ?_
    refine gw_sipush (v := (160 : Int32)) C dX4_makeRoom_33 rfl ?_
    refine gw_lt h (fun j8 ej8 h => ?_)
    have J8 : ∀ v8 : Int32, Rs some o (j8 v8) → gw_G p l e (rmOf 4 96) s m args below meth c D A (CtM D below (some (.int o.1)) (wM cI a o.2) A args s) 11 0 0 (wM cI a t) [(0, .ref (a 0)), (1, .int p1), (2, .int p2), (4, .int q7)] 53 [.int v8] := by
      intro v8 h
      have h := gw_app ej8 h
      refine gw_istore C dX4_makeRoom_53 [(5, .int v8), (0, .ref (a 0)), (1, .int p1), (2, .int p2), (4, .int q7)] (by decide) rfl ?_
      refine gw_iload C dX4_makeRoom_55 0 rfl ?_
      refine gw_iload_n C dX4_makeRoom_57 2 rfl ?_
      refine gw_lt h (fun j12 ej12 h => ?_)
      have J12 : ∀ v12 : Int32, Rs some o (j12 v12) → gw_G p l e (rmOf 4 96) s m args below meth c D A (CtM D below (some (.int o.1)) (wM cI a o.2) A args s) 11 0 0 (wM cI a t) [(0, .ref (a 0)), (1, .int p1), (2, .int p2), (4, .int q7), (5, .int v8)] 85 [.int v12] := by
        intro v12 h
        have h := gw_app ej12 h
        refine gw_istore C dX4_makeRoom_85 [(6, .int v12), (0, .ref (a 0)), (1, .int p1), (2, .int p2), (4, .int q7), (5, .int v8)] (by decide) rfl ?_
        refine gw_iload C dX4_makeRoom_87 0 rfl ?_
        refine gw_lt h (fun j18 ej18 h => ?_)
        have J18 : ∀ v18 : Int32, Rs some o (j18 v18) → gw_G p l e (rmOf 4 96) s m args below meth c D A (CtM D below (some (.int o.1)) (wM cI a o.2) A args s) 11 0 0 (wM cI a t) [(0, .ref (a 0)), (1, .int p1), (2, .int p2), (4, .int q7), (5, .int v8), (6, .int v12)] 98 [.int v18] := by
          intro v18 h
          have h := gw_app ej18 h
          refine gw_istore C dX4_makeRoom_98 [(7, .int v18), (0, .ref (a 0)), (1, .int p1), (2, .int p2), (4, .int q7), (5, .int v8), (6, .int v12)] (by decide) rfl ?_
          refine gw_aload_n C dX4_makeRoom_100 1 rfl ?_
          refine gw_iload C dX4_makeRoom_101 6 rfl ?_
          refine gw_lt h (fun j20 ej20 h => ?_)
          have J20 : ∀ v20 : Int32, Rs some o (j20 v20) → gw_G p l e (rmOf 4 96) s m args below meth c D A (CtM D below (some (.int o.1)) (wM cI a o.2) A args s) 11 0 0 (wM cI a t) [(0, .ref (a 0)), (1, .int p1), (5, .int v8), (6, .int v12), (7, .int v18)] 121 [.int v20, .ref (a 0)] := by
            intro v20 h
            have h := gw_app ej20 h
            refine gw_bind h (fun q23 hq23 h => ?_)
            refine gw_whole (st2 := [.int q23]) C (run_V (rest := []) C (c_X4_leastOffset l D cI cJ cO a t v20 hq23) w_X4_leastOffset 0 3 rfl rfl rfl rfl rfl (Nat.le_of_ble_eq_true rfl) dX4_makeRoom_121 ⟨Nat.zero_le _, Nat.zero_le _⟩) rfl ?_
            refine gw_istore C dX4_makeRoom_124 [(8, .int q23), (0, .ref (a 0)), (1, .int p1), (5, .int v8), (6, .int v12), (7, .int v18)] (by decide) rfl ?_
            refine gw_iload C dX4_makeRoom_126 0 rfl ?_
            refine gw_iconst (v := (-1 : Int32)) C dX4_makeRoom_128 rfl ?_
            refine gw_icmp_ne (tgt := 134) C dX4_makeRoom_129 (by decide) h (fun c24 h => ?_) (fun c24 h => ?_)
            · refine gw_iconst (v := (-1 : Int32)) C dX4_makeRoom_132 rfl ?_
              have h := gw_some h
              have ho := Option.some.inj h
              subst ho
              exact gw_iret C dX4_makeRoom_133
            · refine gw_iload C dX4_makeRoom_134 4 rfl ?_
              refine gw_lt h (fun j26 ej26 h => ?_)
              have J26 : ∀ v26 : Int32, Rs some o (j26 v26) → gw_G p l e (rmOf 4 96) s m args below meth c D A (CtM D below (some (.int o.1)) (wM cI a o.2) A args s) 11 0 0 (wM cI a t) [(0, .ref (a 0)), (1, .int p1), (7, .int v18), (8, .int q23)] 163 [.int v26] := by
                intro v26 h
                have h := gw_app ej26 h
                refine gw_istore C dX4_makeRoom_163 [(9, .int v26), (0, .ref (a 0)), (1, .int p1), (7, .int v18), (8, .int q23)] (by decide) rfl ?_
                refine gw_iload C dX4_makeRoom_165 0 rfl ?_
                refine gw_lt h (fun j31 ej31 h => ?_)
                have J31 : ∀ v31 : Int32, Rs some o (j31 v31) → gw_G p l e (rmOf 4 96) s m args below meth c D A (CtM D below (some (.int o.1)) (wM cI a o.2) A args s) 11 0 0 (wM cI a t) [(0, .ref (a 0)), (7, .int v18), (8, .int q23)] 187 [.int v31] := by
                  intro v31 h
                  have h := gw_app ej31 h
                  refine gw_istore C dX4_makeRoom_187 [(10, .int v31), (0, .ref (a 0)), (7, .int v18), (8, .int q23)] (by decide) rfl ?_
                  refine gw_aload_n C dX4_makeRoom_189 1 rfl ?_
                  refine gw_iload C dX4_makeRoom_190 2 rfl ?_
                  refine gw_iload C dX4_makeRoom_192 3 rfl ?_
                  refine gw_bind h (fun q34 hq34 h => ?_)
                  refine gw_whole (st2 := []) C (run_V (rest := []) C (c_X4_moveChildren l D cI cJ cO a t v18 q23 hq34) w_X4_moveChildren 0 3 rfl rfl rfl rfl rfl (Nat.le_of_ble_eq_true rfl) dX4_makeRoom_194 ⟨Nat.zero_le _, Nat.zero_le _⟩) rfl ?_
                  refine gw_iload C dX4_makeRoom_197 0 rfl ?_
                  have h := gw_some h
                  have ho := Option.some.inj h
                  subst ho
                  exact gw_iret C dX4_makeRoom_199
                refine gw_if_eq (tgt := 186) C dX4_makeRoom_167 (by decide) h (fun c32 h => ?_) (fun c32 h => ?_)
                · refine gw_iload_n C dX4_makeRoom_186 2 rfl ?_
                  refine gw_sub [1, 3, 4] rfl ?_
                  exact J31 _ h
                · refine gw_iload C dX4_makeRoom_170 4 rfl ?_
                  refine gw_aload_n C dX4_makeRoom_172 1 rfl ?_
                  refine gw_get C dX4_makeRoom_173 0 3 1 rfl rfl iX4 (by decide) f7 rfl ?_
                  refine gw_sipush (v := (320 : Int32)) C dX4_makeRoom_176 rfl ?_
                  refine gw_iload_n C dX4_makeRoom_179 2 rfl ?_
                  refine gw_iadd C dX4_makeRoom_180 ?_
                  refine gw_chk h (fun b33 h => ?_)
                  refine gw_iald C dX4_makeRoom_181 1 0 rfl rfl b33 ?_
                  refine gw_iadd C dX4_makeRoom_182 ?_
                  refine gw_goto (tgt := 187) C dX4_makeRoom_183 (by decide) ?_
                  refine gw_sub [1, 3, 4] rfl ?_
                  exact J31 _ h
              refine gw_lt h (fun j25 ej25 h => ?_)
              have J25 : ∀ v25 : Unit, Rs some o (j25 v25) → gw_G p l e (rmOf 4 96) s m args below meth c D A (CtM D below (some (.int o.1)) (wM cI a o.2) A args s) 11 0 0 (wM cI a t) [(0, .ref (a 0)), (1, .int p1), (7, .int v18), (8, .int q23)] 162 [] := by
                intro v25 h
                have h := gw_app ej25 h
                refine gw_iconst (v := (0 : Int32)) C dX4_makeRoom_162 rfl ?_
                exact J26 _ h
              refine gw_if_eq (tgt := 162) C dX4_makeRoom_136 (by decide) h (fun c27 h => ?_) (fun c27 h => ?_)
              · refine gw_sub [1, 2, 5, 0] rfl ?_
                exact J25 _ h
              · refine gw_iload_n C dX4_makeRoom_139 2 rfl ?_
                refine gw_if_eq (tgt := 162) C dX4_makeRoom_140 (by decide) h (fun c28 h => ?_) (fun c28 h => ?_)
                · refine gw_sub [1, 2, 5, 0] rfl ?_
                  exact J25 _ h
                · refine gw_aload_n C dX4_makeRoom_143 1 rfl ?_
                  refine gw_get C dX4_makeRoom_144 0 3 1 rfl rfl iX4 (by decide) f7 rfl ?_
                  refine gw_sipush (v := (160 : Int32)) C dX4_makeRoom_147 rfl ?_
                  refine gw_iload_n C dX4_makeRoom_150 2 rfl ?_
                  refine gw_iadd C dX4_makeRoom_151 ?_
                  refine gw_chk h (fun b29 h => ?_)
                  refine gw_iald C dX4_makeRoom_152 1 0 rfl rfl b29 ?_
                  refine gw_iload C dX4_makeRoom_153 3 rfl ?_
                  refine gw_icmp_ne (tgt := 162) C dX4_makeRoom_155 (by decide) h (fun c30 h => ?_) (fun c30 h => ?_)
                  · refine gw_iconst (v := (1 : Int32)) C dX4_makeRoom_158 rfl ?_
                    refine gw_goto (tgt := 163) C dX4_makeRoom_159 (by decide) ?_
                    refine gw_sub [1, 2, 5, 0] rfl ?_
                    exact J26 _ h
                  · refine gw_sub [1, 2, 5, 0] rfl ?_
                    exact J25 _ h
          refine gw_if_eq (tgt := 115) C dX4_makeRoom_103 (by decide) h (fun c21 h => ?_) (fun c21 h => ?_)
          · refine gw_iload C dX4_makeRoom_115 4 rfl ?_
            refine gw_iconst (v := (1 : Int32)) C dX4_makeRoom_117 rfl ?_
            refine gw_iload_n C dX4_makeRoom_118 3 rfl ?_
            refine gw_ishl C dX4_makeRoom_119 ?_
            refine gw_ior C dX4_makeRoom_120 ?_
            refine gw_sub [1, 2, 5, 6, 0] rfl ?_
            exact J20 _ h
          · refine gw_aload_n C dX4_makeRoom_106 1 rfl ?_
            refine gw_iload C dX4_makeRoom_107 5 rfl ?_
            refine gw_bind h (fun q22 hq22 h => ?_)
            refine gw_whole (st2 := [.int q22, .ref (a 0)]) C (run_V (rest := [.ref (a 0)]) C (c_X4_lettersOf l D cI cJ cO a t v8 hq22) w_X4_lettersOf 0 3 rfl rfl rfl rfl rfl (Nat.le_of_ble_eq_true rfl) dX4_makeRoom_109 ⟨Nat.zero_le _, Nat.zero_le _⟩) rfl ?_
            refine gw_goto (tgt := 121) C dX4_makeRoom_112 (by decide) ?_
            refine gw_sub [1, 2, 5, 6, 0] rfl ?_
            exact J20 _ h
        refine gw_if_eq (tgt := 97) C dX4_makeRoom_89 (by decide) h (fun c19 h => ?_) (fun c19 h => ?_)
        · refine gw_iload_n C dX4_makeRoom_97 2 rfl ?_
          refine gw_sub [1, 2, 3, 4, 5, 0] rfl ?_
          exact J18 _ h
        · refine gw_iload C dX4_makeRoom_92 5 rfl ?_
          refine gw_goto (tgt := 98) C dX4_makeRoom_94 (by decide) ?_
          refine gw_sub [1, 2, 3, 4, 5, 0] rfl ?_
          exact J18 _ h
      refine gw_lt h (fun j11 ej11 h => ?_)
      have J11 : ∀ v11 : Unit, Rs some o (j11 v11) → gw_G p l e (rmOf 4 96) s m args below meth c D A (CtM D below (some (.int o.1)) (wM cI a o.2) A args s) 11 0 0 (wM cI a t) [(0, .ref (a 0)), (1, .int p1), (2, .int p2), (4, .int q7), (5, .int v8)] 84 [] := by
        intro v11 h
        have h := gw_app ej11 h
        refine gw_iconst (v := (0 : Int32)) C dX4_makeRoom_84 rfl ?_
        exact J12 _ h
      refine gw_icmp_eq (tgt := 84) C dX4_makeRoom_58 (by decide) h (fun c13 h => ?_) (fun c13 h => ?_)
      · refine gw_sub [1, 2, 3, 4, 0] rfl ?_
        exact J11 _ h
      · refine gw_aload_n C dX4_makeRoom_61 1 rfl ?_
        refine gw_iload C dX4_makeRoom_62 0 rfl ?_
        refine gw_bind h (fun q14 hq14 h => ?_)
        refine gw_whole (st2 := [.int q14]) C (run_V (rest := []) C (c_X4_lettersOf l D cI cJ cO a t v8 hq14) w_X4_lettersOf 0 3 rfl rfl rfl rfl rfl (Nat.le_of_ble_eq_true rfl) dX4_makeRoom_64 ⟨Nat.zero_le _, Nat.zero_le _⟩) rfl ?_
        refine gw_bind h (fun q15 hq15 h => ?_)
        refine gw_none (st2 := [.int q15]) C (run_S (rest := []) C (c_X4_bits l D cI cJ cO q14 hq15) w_X4_bits rfl rfl (Nat.le_of_ble_eq_true rfl) dX4_makeRoom_67 ⟨Nat.zero_le _, Nat.zero_le _⟩) rfl ?_
        refine gw_iload C dX4_makeRoom_70 4 rfl ?_
        refine gw_bind h (fun q16 hq16 h => ?_)
        refine gw_none (st2 := [.int q16, .int q15]) C (run_S (rest := [.int q15]) C (c_X4_bits l D cI cJ cO q7 hq16) w_X4_bits rfl rfl (Nat.le_of_ble_eq_true rfl) dX4_makeRoom_72 ⟨Nat.zero_le _, Nat.zero_le _⟩) rfl ?_
        refine gw_iconst (v := (1 : Int32)) C dX4_makeRoom_75 rfl ?_
        refine gw_iadd C dX4_makeRoom_76 ?_
        refine gw_icmp_ge (tgt := 84) C dX4_makeRoom_77 (by decide) h (fun c17 h => ?_) (fun c17 h => ?_)
        · refine gw_sub [1, 2, 3, 4, 0] rfl ?_
          exact J11 _ h
        · refine gw_iconst (v := (1 : Int32)) C dX4_makeRoom_80 rfl ?_
          refine gw_goto (tgt := 85) C dX4_makeRoom_81 (by decide) ?_
          refine gw_sub [1, 2, 3, 4, 0] rfl ?_
          exact J12 _ h
    refine gw_icmp_ge (tgt := 52) C dX4_makeRoom_36 (by decide) h (fun c9 h => ?_) (fun c9 h => ?_)
    · refine gw_iload_n C dX4_makeRoom_52 2 rfl ?_
      refine gw_sub [1, 2, 3, 0] rfl ?_
      exact J8 _ h
    · refine gw_aload_n C dX4_makeRoom_39 1 rfl ?_
      refine gw_get C dX4_makeRoom_40 0 3 1 rfl rfl iX4 (by decide) f7 rfl ?_
      refine gw_sipush (v := (160 : Int32)) C dX4_makeRoom_43 rfl ?_
      refine gw_iload_n C dX4_makeRoom_46 4 rfl ?_
      refine gw_iadd C dX4_makeRoom_47 ?_
      refine gw_chk h (fun b10 h => ?_)
      refine gw_iald C dX4_makeRoom_48 1 0 rfl rfl b10 ?_
      refine gw_goto (tgt := 53) C dX4_makeRoom_49 (by decide) ?_
      refine gw_sub [1, 2, 3, 0] rfl ?_
      exact J8 _ h
  refine gw_icmp_ge (tgt := 25) C dX4_makeRoom_12 (by decide) h (fun c4 h => ?_) (fun c4 h => ?_)
  · refine gw_sub [1, 2, 3, 0] rfl ?_
    exact J3 _ h
  · refine gw_aload_n C dX4_makeRoom_15 1 rfl ?_
    refine gw_iload_n C dX4_makeRoom_16 0 rfl ?_
    refine gw_bind h (fun q5 hq5 h => ?_)
    refine gw_whole (st2 := [.int q5]) C (run_V (rest := []) C (c_X4_isUsed l D cI cJ cO a t v2 hq5) w_X4_isUsed 0 3 rfl rfl rfl rfl rfl (Nat.le_of_ble_eq_true rfl) dX4_makeRoom_17 ⟨Nat.zero_le _, Nat.zero_le _⟩) rfl ?_
    refine gw_if_ne (tgt := 25) C dX4_makeRoom_20 (by decide) h (fun c6 h => ?_) (fun c6 h => ?_)
    · refine gw_iload_n C dX4_makeRoom_23 2 rfl ?_
      have h := gw_some h
      have ho := Option.some.inj h
      subst ho
      exact gw_iret C dX4_makeRoom_24
    · refine gw_sub [1, 2, 3, 0] rfl ?_
      exact J3 _ h
theorem hd_X4_open : yX4_open.cls = RX4 ∧ yX4_open.cls ≠ "java/lang/invoke/MethodHandle" ∧ yX4_open.cls ≠ "java/lang/invoke/VarHandle" ∧ (parseMethodDescriptor yX4_open.desc).map (fun d => d.parameters.length) = some 2 := by decide +kernel
set_option maxHeartbeats 4000000 in
set_option maxRecDepth 100000 in
theorem c_X4_open (l : Launch) (D : va_G) (cI cJ cO : ClassId) (a : Nat → Nat) (t : MS) (p1 : Int32) (p2 : Int32) {o : Int32 × MS} (h : fM_open p1 p2 t = some o) : Ct l D (tysA cI cJ cO) yX4_open wsX4_open (rmOf 3 68) [.ref (a 0), .int p1, .int p2] (wM cI a t) (some (.int o.1)) (wM cI a o.2) := by
  refine Ct_of (own := RX4) cX4_open 4 (some .boolean) (by decide +kernel) rfl rfl (Nat.le_of_ble_eq_true rfl) ?_
  intro p e s m args below meth c A C hnm
  have iX4 : ∀ w ∈ u_ws RX4 TX4 16, w ∈ wsX4_open := fun w h => List.mem_cons_of_mem _ (List.mem_append_right _ h)
  have f7 : Cond.fieldLink RX4 7 (TX4 1).1 (TX4 1).2.1 (TX4 1).2.2.1 ∈ wsX4_open := List.mem_of_getElem? (i := 1) rfl
  have w_X4_leastOffset := cwV (R := (rmOf 3 68)) (rm := rmOf 2 46) (s := s) (args := args) 1 C.1.2.2.2.2 gX4_open_X4_leastOffset rfl rfl rfl hd_X4_leastOffset ⟨Nat.le_of_ble_eq_true rfl, Nat.le_of_ble_eq_true rfl⟩
  have h := gw_top h
  unfold fM_open at h
  show gw_G p l e (rmOf 3 68) s m args below meth c D A (CtM D below (some (.int o.1)) (wM cI a o.2) A args s) 4 0 0 (wM cI a t) [(0, .ref (a 0)), (1, .int p1), (2, .int p2)] 0 []
  refine gw_aload_n C dX4_open_0 0 rfl ?_
  refine gw_iload_n C dX4_open_1 2 rfl ?_
  refine gw_bind h (fun q1 hq1 h => ?_)
  refine gw_whole (st2 := [.int q1]) C (run_V (rest := []) C (c_X4_leastOffset l D cI cJ cO a t p2 hq1) w_X4_leastOffset 0 3 rfl rfl rfl rfl rfl (Nat.le_of_ble_eq_true rfl) dX4_open_2 ⟨Nat.zero_le _, Nat.zero_le _⟩) rfl ?_
  refine gw_istore_n C dX4_open_5 [(3, .int q1), (0, .ref (a 0)), (1, .int p1), (2, .int p2)] rfl (by decide) rfl ?_
  refine gw_iload_n C dX4_open_6 0 rfl ?_
  refine gw_iconst (v := (-1 : Int32)) C dX4_open_7 rfl ?_
  refine gw_lt h (fun j2 ej2 h => ?_)
  have J2 : ∀ v2 : MS, Rs some o (j2 v2) → gw_G p l e (rmOf 3 68) s m args below meth c D A (CtM D below (some (.int o.1)) (wM cI a o.2) A args s) 4 0 0 (wM cI a v2) [(3, .int q1)] 22 [] := by
    intro v2 h
    have h := gw_app ej2 h
    refine gw_iload_n C dX4_open_22 0 rfl ?_
    refine gw_iconst (v := (-1 : Int32)) C dX4_open_23 rfl ?_
    refine gw_icmp_eq (tgt := 31) C dX4_open_24 (by decide) h (fun c6 h => ?_) (fun c6 h => ?_)
    · refine gw_iconst (v := (0 : Int32)) C dX4_open_31 rfl ?_
      have h := gw_some h
      have ho := Option.some.inj h
      subst ho
      exact gw_zret C (Or.inl rfl) dX4_open_32
    · refine gw_iconst (v := (1 : Int32)) C dX4_open_27 rfl ?_
      refine gw_goto (tgt := 32) C dX4_open_28 (by decide) ?_
      have h := gw_some h
      have ho := Option.some.inj h
      subst ho
      exact gw_zret C (Or.inr rfl) dX4_open_32
  refine gw_icmp_eq (tgt := 22) C dX4_open_8 (by decide) h (fun c3 h => ?_) (fun c3 h => ?_)
  · refine gw_sub [0] rfl ?_
    exact J2 _ h
  · refine gw_aload_n C dX4_open_11 1 rfl ?_
    refine gw_get C dX4_open_12 0 3 1 rfl rfl iX4 (by decide) f7 rfl ?_
    refine gw_sipush (v := (480 : Int32)) C dX4_open_15 rfl ?_
    refine gw_iload_n C dX4_open_18 2 rfl ?_
    refine gw_iadd C dX4_open_19 ?_
    refine gw_iload_n C dX4_open_20 0 rfl ?_
    refine gw_chk h (fun b4 h => ?_)
    refine gw_lt h (fun t5 et5 h => ?_)
    refine gw_iast (ws' := wM cI a t5) C dX4_open_21 1 0 rfl rfl b4 (by subst et5; rfl) ?_
    refine gw_sub [0] rfl ?_
    exact J2 _ h
theorem hd_X4_putChild : yX4_putChild.cls = RX4 ∧ yX4_putChild.cls ≠ "java/lang/invoke/MethodHandle" ∧ yX4_putChild.cls ≠ "java/lang/invoke/VarHandle" ∧ (parseMethodDescriptor yX4_putChild.desc).map (fun d => d.parameters.length) = some 3 := by decide +kernel
set_option maxHeartbeats 4000000 in
set_option maxRecDepth 100000 in
theorem c_X4_putChild (l : Launch) (D : va_G) (cI cJ cO : ClassId) (a : Nat → Nat) (t : MS) (p1 : Int32) (p2 : Int32) (p3 : Int32) {o : Int32 × MS} (h : fM_putChild p1 p2 p3 t = some o) : Ct l D (tysA cI cJ cO) yX4_putChild wsX4_putChild (rmOf 1 21) [.ref (a 0), .int p1, .int p2, .int p3] (wM cI a t) (some (.int o.1)) (wM cI a o.2) := by
  refine Ct_of (own := RX4) cX4_putChild 5 (some .int) (by decide +kernel) rfl rfl (Nat.le_of_ble_eq_true rfl) ?_
  intro p e s m args below meth c A C hnm
  have iX4 : ∀ w ∈ u_ws RX4 TX4 16, w ∈ wsX4_putChild := fun w h => List.mem_cons_of_mem _ (List.mem_append_right _ h)
  have f7 : Cond.fieldLink RX4 7 (TX4 1).1 (TX4 1).2.1 (TX4 1).2.2.1 ∈ wsX4_putChild := List.mem_of_getElem? (i := 1) rfl
  have w_X4_offset := cwV (R := (rmOf 1 21)) (rm := rmOf 0 0) (s := s) (args := args) 1 C.1.2.2.2.2 gX4_putChild_X4_offset rfl rfl rfl hd_X4_offset ⟨Nat.le_of_ble_eq_true rfl, Nat.le_of_ble_eq_true rfl⟩
  have h := gw_top h
  unfold fM_putChild at h
  show gw_G p l e (rmOf 1 21) s m args below meth c D A (CtM D below (some (.int o.1)) (wM cI a o.2) A args s) 5 0 0 (wM cI a t) [(0, .ref (a 0)), (1, .int p1), (2, .int p2), (3, .int p3)] 0 []
  refine gw_aload_n C dX4_putChild_0 0 rfl ?_
  refine gw_iload_n C dX4_putChild_1 1 rfl ?_
  refine gw_bind h (fun q1 hq1 h => ?_)
  refine gw_whole (st2 := [.int q1]) C (run_V (rest := []) C (c_X4_offset l D cI cJ cO a t p1 hq1) w_X4_offset 0 3 rfl rfl rfl rfl rfl (Nat.le_of_ble_eq_true rfl) dX4_putChild_2 ⟨Nat.zero_le _, Nat.zero_le _⟩) rfl ?_
  refine gw_iload_n C dX4_putChild_5 2 rfl ?_
  refine gw_iadd C dX4_putChild_6 ?_
  refine gw_lt h (fun v2 ev2 h => ?_)
  rw [ev2]
  refine gw_istore C dX4_putChild_7 [(4, .int v2), (0, .ref (a 0)), (1, .int p1), (2, .int p2), (3, .int p3)] (by decide) rfl ?_
  refine gw_aload_n C dX4_putChild_9 1 rfl ?_
  refine gw_get C dX4_putChild_10 0 3 1 rfl rfl iX4 (by decide) f7 rfl ?_
  refine gw_iconst (v := (0 : Int32)) C dX4_putChild_13 rfl ?_
  refine gw_iload C dX4_putChild_14 0 rfl ?_
  refine gw_iadd C dX4_putChild_16 ?_
  refine gw_iload_n C dX4_putChild_17 4 rfl ?_
  refine gw_chk h (fun b3 h => ?_)
  refine gw_lt h (fun t4 et4 h => ?_)
  refine gw_iast (ws' := wM cI a t4) C dX4_putChild_18 1 0 rfl rfl b3 (by subst et4; rfl) ?_
  refine gw_aload_n C dX4_putChild_19 1 rfl ?_
  refine gw_get C dX4_putChild_20 0 3 1 rfl rfl iX4 (by decide) f7 rfl ?_
  refine gw_sipush (v := (160 : Int32)) C dX4_putChild_23 rfl ?_
  refine gw_iload C dX4_putChild_26 0 rfl ?_
  refine gw_iadd C dX4_putChild_28 ?_
  refine gw_iload_n C dX4_putChild_29 2 rfl ?_
  refine gw_chk h (fun b5 h => ?_)
  refine gw_lt h (fun t6 et6 h => ?_)
  refine gw_iast (ws' := wM cI a t6) C dX4_putChild_30 1 0 rfl rfl b5 (by subst et6; rfl) ?_
  refine gw_aload_n C dX4_putChild_31 1 rfl ?_
  refine gw_get C dX4_putChild_32 0 3 1 rfl rfl iX4 (by decide) f7 rfl ?_
  refine gw_sipush (v := (320 : Int32)) C dX4_putChild_35 rfl ?_
  refine gw_iload C dX4_putChild_38 0 rfl ?_
  refine gw_iadd C dX4_putChild_40 ?_
  refine gw_iload_n C dX4_putChild_41 3 rfl ?_
  refine gw_chk h (fun b7 h => ?_)
  refine gw_lt h (fun t8 et8 h => ?_)
  refine gw_iast (ws' := wM cI a t8) C dX4_putChild_42 1 0 rfl rfl b7 (by subst et8; rfl) ?_
  refine gw_aload_n C dX4_putChild_43 1 rfl ?_
  refine gw_get C dX4_putChild_44 0 3 1 rfl rfl iX4 (by decide) f7 rfl ?_
  refine gw_sipush (v := (480 : Int32)) C dX4_putChild_47 rfl ?_
  refine gw_iload C dX4_putChild_50 0 rfl ?_
  refine gw_iadd C dX4_putChild_52 ?_
  refine gw_iconst (v := (0 : Int32)) C dX4_putChild_53 rfl ?_
  refine gw_chk h (fun b9 h => ?_)
  refine gw_lt h (fun t10 et10 h => ?_)
  refine gw_iast (ws' := wM cI a t10) C dX4_putChild_54 1 0 rfl rfl b9 (by subst et10; rfl) ?_
  refine gw_aload_n C dX4_putChild_55 1 rfl ?_
  refine gw_get C dX4_putChild_56 0 3 1 rfl rfl iX4 (by decide) f7 rfl ?_
  refine gw_sipush (v := (640 : Int32)) C dX4_putChild_59 rfl ?_
  refine gw_iload C dX4_putChild_62 0 rfl ?_
  refine gw_iadd C dX4_putChild_64 ?_
  refine gw_iconst (v := (-1 : Int32)) C dX4_putChild_65 rfl ?_
  refine gw_chk h (fun b11 h => ?_)
  refine gw_lt h (fun t12 et12 h => ?_)
  refine gw_iast (ws' := wM cI a t12) C dX4_putChild_66 1 0 rfl rfl b11 (by subst et12; rfl) ?_
  refine gw_iload C dX4_putChild_67 0 rfl ?_
  have h := gw_some h
  have ho := Option.some.inj h
  subst ho
  exact gw_iret C dX4_putChild_69
theorem hd_X4_usersOf : yX4_usersOf.cls = RX4 ∧ yX4_usersOf.cls ≠ "java/lang/invoke/MethodHandle" ∧ yX4_usersOf.cls ≠ "java/lang/invoke/VarHandle" ∧ (parseMethodDescriptor yX4_usersOf.desc).map (fun d => d.parameters.length) = some 1 := by decide +kernel
set_option maxHeartbeats 4000000 in
set_option maxRecDepth 100000 in
theorem c_X4_usersOf (l : Launch) (D : va_G) (cI cJ cO : ClassId) (a : Nat → Nat) (t : MS) (p1 : Int32) {o : Int32} (h : fM_usersOf p1 t = some o) : Ct l D (tysA cI cJ cO) yX4_usersOf wsX4_usersOf (rmOf 0 0) [.ref (a 0), .int p1] (wM cI a t) (some (.int o)) (wM cI a t) := by
  refine Ct_of (own := RX4) cX4_usersOf 2 (some .int) (by decide +kernel) rfl rfl (Nat.le_of_ble_eq_true rfl) ?_
  intro p e s m args below meth c A C hnm
  have iX4 : ∀ w ∈ u_ws RX4 TX4 16, w ∈ wsX4_usersOf := fun w h => List.mem_cons_of_mem _ (List.mem_append_right _ h)
  have f7 : Cond.fieldLink RX4 7 (TX4 1).1 (TX4 1).2.1 (TX4 1).2.2.1 ∈ wsX4_usersOf := List.mem_of_getElem? (i := 1) rfl
  have h := gw_top h
  unfold fM_usersOf at h
  show gw_G p l e (rmOf 0 0) s m args below meth c D A (CtM D below (some (.int o)) (wM cI a t) A args s) 2 0 0 (wM cI a t) [(0, .ref (a 0)), (1, .int p1)] 0 []
  refine gw_aload_n C dX4_usersOf_0 0 rfl ?_
  refine gw_get C dX4_usersOf_1 0 3 1 rfl rfl iX4 (by decide) f7 rfl ?_
  refine gw_sipush (v := (800 : Int32)) C dX4_usersOf_4 rfl ?_
  refine gw_bipush (v := (14 : Int32)) C dX4_usersOf_7 rfl ?_
  refine gw_iload_n C dX4_usersOf_9 1 rfl ?_
  refine gw_imul C dX4_usersOf_10 ?_
  refine gw_iadd C dX4_usersOf_11 ?_
  refine gw_chk h (fun b1 h => ?_)
  refine gw_iald C dX4_usersOf_12 1 0 rfl rfl b1 ?_
  have h := gw_some h
  have ho := Option.some.inj h
  subst ho
  exact gw_iret C dX4_usersOf_13
theorem hd_X4_lengthOf : yX4_lengthOf.cls = RX4 ∧ yX4_lengthOf.cls ≠ "java/lang/invoke/MethodHandle" ∧ yX4_lengthOf.cls ≠ "java/lang/invoke/VarHandle" ∧ (parseMethodDescriptor yX4_lengthOf.desc).map (fun d => d.parameters.length) = some 1 := by decide +kernel
set_option maxHeartbeats 4000000 in
set_option maxRecDepth 100000 in
theorem c_X4_lengthOf (l : Launch) (D : va_G) (cI cJ cO : ClassId) (a : Nat → Nat) (t : MS) (p1 : Int32) {o : Int32} (h : fM_lengthOf p1 t = some o) : Ct l D (tysA cI cJ cO) yX4_lengthOf wsX4_lengthOf (rmOf 0 0) [.ref (a 0), .int p1] (wM cI a t) (some (.int o)) (wM cI a t) := by
  refine Ct_of (own := RX4) cX4_lengthOf 2 (some .int) (by decide +kernel) rfl rfl (Nat.le_of_ble_eq_true rfl) ?_
  intro p e s m args below meth c A C hnm
  have iX4 : ∀ w ∈ u_ws RX4 TX4 16, w ∈ wsX4_lengthOf := fun w h => List.mem_cons_of_mem _ (List.mem_append_right _ h)
  have f7 : Cond.fieldLink RX4 7 (TX4 1).1 (TX4 1).2.1 (TX4 1).2.2.1 ∈ wsX4_lengthOf := List.mem_of_getElem? (i := 1) rfl
  have h := gw_top h
  unfold fM_lengthOf at h
  show gw_G p l e (rmOf 0 0) s m args below meth c D A (CtM D below (some (.int o)) (wM cI a t) A args s) 2 0 0 (wM cI a t) [(0, .ref (a 0)), (1, .int p1)] 0 []
  refine gw_aload_n C dX4_lengthOf_0 0 rfl ?_
  refine gw_get C dX4_lengthOf_1 0 3 1 rfl rfl iX4 (by decide) f7 rfl ?_
  refine gw_sipush (v := (800 : Int32)) C dX4_lengthOf_4 rfl ?_
  refine gw_bipush (v := (14 : Int32)) C dX4_lengthOf_7 rfl ?_
  refine gw_iload_n C dX4_lengthOf_9 1 rfl ?_
  refine gw_imul C dX4_lengthOf_10 ?_
  refine gw_iadd C dX4_lengthOf_11 ?_
  refine gw_iconst (v := (1 : Int32)) C dX4_lengthOf_12 rfl ?_
  refine gw_iadd C dX4_lengthOf_13 ?_
  refine gw_chk h (fun b1 h => ?_)
  refine gw_iald C dX4_lengthOf_14 1 0 rfl rfl b1 ?_
  have h := gw_some h
  have ho := Option.some.inj h
  subst ho
  exact gw_iret C dX4_lengthOf_15
theorem hd_X4_letterOf : yX4_letterOf.cls = RX4 ∧ yX4_letterOf.cls ≠ "java/lang/invoke/MethodHandle" ∧ yX4_letterOf.cls ≠ "java/lang/invoke/VarHandle" ∧ (parseMethodDescriptor yX4_letterOf.desc).map (fun d => d.parameters.length) = some 2 := by decide +kernel
set_option maxHeartbeats 4000000 in
set_option maxRecDepth 100000 in
theorem c_X4_letterOf (l : Launch) (D : va_G) (cI cJ cO : ClassId) (a : Nat → Nat) (t : MS) (p1 : Int32) (p2 : Int32) {o : Int32} (h : fM_letterOf p1 p2 t = some o) : Ct l D (tysA cI cJ cO) yX4_letterOf wsX4_letterOf (rmOf 0 0) [.ref (a 0), .int p1, .int p2] (wM cI a t) (some (.int o)) (wM cI a t) := by
  refine Ct_of (own := RX4) cX4_letterOf 3 (some .int) (by decide +kernel) rfl rfl (Nat.le_of_ble_eq_true rfl) ?_
  intro p e s m args below meth c A C hnm
  have iX4 : ∀ w ∈ u_ws RX4 TX4 16, w ∈ wsX4_letterOf := fun w h => List.mem_cons_of_mem _ (List.mem_append_right _ h)
  have f7 : Cond.fieldLink RX4 7 (TX4 1).1 (TX4 1).2.1 (TX4 1).2.2.1 ∈ wsX4_letterOf := List.mem_of_getElem? (i := 1) rfl
  have h := gw_top h
  unfold fM_letterOf at h
  show gw_G p l e (rmOf 0 0) s m args below meth c D A (CtM D below (some (.int o)) (wM cI a t) A args s) 3 0 0 (wM cI a t) [(0, .ref (a 0)), (1, .int p1), (2, .int p2)] 0 []
  refine gw_aload_n C dX4_letterOf_0 0 rfl ?_
  refine gw_get C dX4_letterOf_1 0 3 1 rfl rfl iX4 (by decide) f7 rfl ?_
  refine gw_sipush (v := (800 : Int32)) C dX4_letterOf_4 rfl ?_
  refine gw_bipush (v := (14 : Int32)) C dX4_letterOf_7 rfl ?_
  refine gw_iload_n C dX4_letterOf_9 1 rfl ?_
  refine gw_imul C dX4_letterOf_10 ?_
  refine gw_iadd C dX4_letterOf_11 ?_
  refine gw_iconst (v := (2 : Int32)) C dX4_letterOf_12 rfl ?_
  refine gw_iadd C dX4_letterOf_13 ?_
  refine gw_iload_n C dX4_letterOf_14 2 rfl ?_
  refine gw_iadd C dX4_letterOf_15 ?_
  refine gw_chk h (fun b1 h => ?_)
  refine gw_iald C dX4_letterOf_16 1 0 rfl rfl b1 ?_
  have h := gw_some h
  have ho := Option.some.inj h
  subst ho
  exact gw_iret C dX4_letterOf_17
theorem hd_X4_isEnd : yX4_isEnd.cls = RX4 ∧ yX4_isEnd.cls ≠ "java/lang/invoke/MethodHandle" ∧ yX4_isEnd.cls ≠ "java/lang/invoke/VarHandle" ∧ (parseMethodDescriptor yX4_isEnd.desc).map (fun d => d.parameters.length) = some 4 := by decide +kernel
set_option maxHeartbeats 4000000 in
set_option maxRecDepth 100000 in
theorem c_X4_isEnd_4 (l : Launch) (D : va_G) (cI cJ cO : ClassId) (a : Nat → Nat) (t : MS) (p1 : Int32) (p2 : Int32) (p3 : Int32) {o : Int32} (h : fM_isEnd mBu p1 p2 p3 t = some o) : Ct l D (tysA cI cJ cO) yX4_isEnd wsX4_isEnd (rmOf 1 22) [.ref (a 0), .int p1, .ref (a 4), .int p2, .int p3] (wM cI a t) (some (.int o)) (wM cI a t) := by
  refine Ct_of (own := RX4) cX4_isEnd 7 (some .boolean) (by decide +kernel) rfl rfl (Nat.le_of_ble_eq_true rfl) ?_
  intro p e s m args below meth c A C hnm
  have w_X4_lengthOf := cwV (R := (rmOf 1 22)) (rm := rmOf 0 0) (s := s) (args := args) 1 C.1.2.2.2.2 gX4_isEnd_X4_lengthOf rfl rfl rfl hd_X4_lengthOf ⟨Nat.le_of_ble_eq_true rfl, Nat.le_of_ble_eq_true rfl⟩
  have w_X4_letterOf := cwV (R := (rmOf 1 22)) (rm := rmOf 0 0) (s := s) (args := args) 2 C.1.2.2.2.2 gX4_isEnd_X4_letterOf rfl rfl rfl hd_X4_letterOf ⟨Nat.le_of_ble_eq_true rfl, Nat.le_of_ble_eq_true rfl⟩
  have w_X4_usersOf := cwV (R := (rmOf 1 22)) (rm := rmOf 0 0) (s := s) (args := args) 1 C.1.2.2.2.2 gX4_isEnd_X4_usersOf rfl rfl rfl hd_X4_usersOf ⟨Nat.le_of_ble_eq_true rfl, Nat.le_of_ble_eq_true rfl⟩
  have h := gw_top h
  unfold fM_isEnd at h
  show gw_G p l e (rmOf 1 22) s m args below meth c D A (CtM D below (some (.int o)) (wM cI a t) A args s) 7 0 0 (wM cI a t) [(0, .ref (a 0)), (1, .int p1), (2, .ref (a 4)), (3, .int p2), (4, .int p3)] 0 []
  refine gw_aload_n C dX4_isEnd_0 0 rfl ?_
  refine gw_iload_n C dX4_isEnd_1 1 rfl ?_
  refine gw_bind h (fun q1 hq1 h => ?_)
  refine gw_whole (st2 := [.int q1]) C (run_V (rest := []) C (c_X4_usersOf l D cI cJ cO a t p1 hq1) w_X4_usersOf 0 3 rfl rfl rfl rfl rfl (Nat.le_of_ble_eq_true rfl) dX4_isEnd_2 ⟨Nat.zero_le _, Nat.zero_le _⟩) rfl ?_
  refine gw_lt h (fun j3 ej3 h => ?_)
  have J3 : ∀ v3 : Int32, Rs some o (j3 v3) → gw_G p l e (rmOf 1 22) s m args below meth c D A (CtM D below (some (.int o)) (wM cI a t) A args s) 7 0 0 (wM cI a t) [(0, .ref (a 0)), (1, .int p1), (2, .ref (a 4)), (3, .int p2), (4, .int p3)] 25 [.int v3] := by
    intro v3 h
    have h := gw_app ej3 h
    refine gw_istore C dX4_isEnd_25 [(5, .int v3), (0, .ref (a 0)), (1, .int p1), (2, .ref (a 4)), (3, .int p2), (4, .int p3)] (by decide) rfl ?_
    refine gw_iload_n C dX4_isEnd_27 4 rfl ?_
    refine gw_istore C dX4_isEnd_28 [(6, .int p2), (5, .int v3), (0, .ref (a 0)), (1, .int p1), (2, .ref (a 4)), (3, .int p2), (4, .int p3)] (by decide) rfl ?_
    refine gw_sub [2, 3, 4, 5, 6, 1, 0] rfl ?_
    refine gw_lpb (x0 := (v3, p2)) (Go := fun x7 : Int32 × Int32 => gw_G p l e (rmOf 1 22) s m args below meth c D A (CtM D below (some (.int o)) (wM cI a t) A args s) 7 0 0 (wM cI a t) [(0, .ref (a 0)), (1, .int p1), (2, .ref (a 4)), (3, .int p2), (4, .int p3), (5, .int x7.1), (6, .int x7.2)] 30 []) (GoX := fun v7 : Int32 => gw_G p l e (rmOf 1 22) s m args below meth c D A (CtM D below (some (.int o)) (wM cI a t) A args s) 7 0 0 (wM cI a t) [(5, .int v7)] 71 []) h (fun v7 h => ?_) (fun x7 K7 X7 I7 h => ?_)
    · refine gw_iload C dX4_isEnd_71 0 rfl ?_
      refine gw_chk h (fun b14 h => ?_)
      have h := gw_some h
      have ho := Option.some.inj h
      subst ho
      exact gw_zret C b14 dX4_isEnd_73
    · refine gw_iload C dX4_isEnd_30 6 rfl ?_
      refine gw_iload C dX4_isEnd_32 4 rfl ?_
      refine gw_icmp_ge (tgt := 71) C dX4_isEnd_34 (by decide) h (fun c8 h => ?_) (fun c8 h => ?_)
      · refine gw_sub [5] rfl ?_
        have h := gw_some h
        exact X7 _ h
      · refine gw_iload C dX4_isEnd_37 5 rfl ?_
        refine gw_if_eq (tgt := 71) C dX4_isEnd_39 (by decide) h (fun c9 h => ?_) (fun c9 h => ?_)
        · refine gw_sub [5] rfl ?_
          have h := gw_some h
          exact X7 _ h
        · refine gw_aload_n C dX4_isEnd_42 0 rfl ?_
          refine gw_iload_n C dX4_isEnd_43 1 rfl ?_
          refine gw_iload C dX4_isEnd_44 6 rfl ?_
          refine gw_iload_n C dX4_isEnd_46 3 rfl ?_
          refine gw_isub C dX4_isEnd_47 ?_
          refine gw_bind h (fun q10 hq10 h => ?_)
          refine gw_whole (st2 := [.int q10]) C (run_V (rest := []) C (c_X4_letterOf l D cI cJ cO a t p1 (x7.2 - p2) hq10) w_X4_letterOf 0 3 rfl rfl rfl rfl rfl (Nat.le_of_ble_eq_true rfl) dX4_isEnd_48 ⟨Nat.zero_le _, Nat.zero_le _⟩) rfl ?_
          refine gw_aload_n C dX4_isEnd_51 2 rfl ?_
          refine gw_iload C dX4_isEnd_52 6 rfl ?_
          refine gw_chk h (fun b11 h => ?_)
          refine gw_iald C dX4_isEnd_54 4 0 rfl rfl b11 ?_
          refine gw_lt h (fun j12 ej12 h => ?_)
          have J12 : ∀ v12 : Int32, Rs K7 o (j12 v12) → gw_G p l e (rmOf 1 22) s m args below meth c D A (CtM D below (some (.int o)) (wM cI a t) A args s) 7 0 0 (wM cI a t) [(0, .ref (a 0)), (1, .int p1), (2, .ref (a 4)), (3, .int p2), (4, .int p3), (6, .int x7.2)] 63 [.int v12] := by
            intro v12 h
            have h := gw_app ej12 h
            refine gw_istore C dX4_isEnd_63 [(5, .int v12), (0, .ref (a 0)), (1, .int p1), (2, .ref (a 4)), (3, .int p2), (4, .int p3), (6, .int x7.2)] (by decide) rfl ?_
            refine gw_iinc (v := (x7.2 + (1 : Int32))) C dX4_isEnd_65 [(6, .int (x7.2 + (1 : Int32))), (5, .int v12), (0, .ref (a 0)), (1, .int p1), (2, .ref (a 4)), (3, .int p2), (4, .int p3)] 6 rfl rfl (by decide) rfl ?_
            refine gw_goto (tgt := 30) C dX4_isEnd_68 (by decide) ?_
            refine gw_sub [2, 3, 4, 5, 6, 1, 0] rfl ?_
            have h := gw_some h
            exact I7 _ h
          refine gw_icmp_ne (tgt := 62) C dX4_isEnd_55 (by decide) h (fun c13 h => ?_) (fun c13 h => ?_)
          · refine gw_iconst (v := (1 : Int32)) C dX4_isEnd_58 rfl ?_
            refine gw_goto (tgt := 63) C dX4_isEnd_59 (by decide) ?_
            refine gw_sub [0, 1, 2, 3, 4, 6] rfl ?_
            exact J12 _ h
          · refine gw_iconst (v := (0 : Int32)) C dX4_isEnd_62 rfl ?_
            refine gw_sub [0, 1, 2, 3, 4, 6] rfl ?_
            exact J12 _ h
  refine gw_lt h (fun j2 ej2 h => ?_)
  have J2 : ∀ v2 : Unit, Rs some o (j2 v2) → gw_G p l e (rmOf 1 22) s m args below meth c D A (CtM D below (some (.int o)) (wM cI a t) A args s) 7 0 0 (wM cI a t) [(0, .ref (a 0)), (1, .int p1), (2, .ref (a 4)), (3, .int p2), (4, .int p3)] 24 [] := by
    intro v2 h
    have h := gw_app ej2 h
    refine gw_iconst (v := (0 : Int32)) C dX4_isEnd_24 rfl ?_
    exact J3 _ h
  refine gw_if_le (tgt := 24) C dX4_isEnd_5 (by decide) h (fun c4 h => ?_) (fun c4 h => ?_)
  · exact J2 _ h
  · refine gw_aload_n C dX4_isEnd_8 0 rfl ?_
    refine gw_iload_n C dX4_isEnd_9 1 rfl ?_
    refine gw_bind h (fun q5 hq5 h => ?_)
    refine gw_whole (st2 := [.int q5]) C (run_V (rest := []) C (c_X4_lengthOf l D cI cJ cO a t p1 hq5) w_X4_lengthOf 0 3 rfl rfl rfl rfl rfl (Nat.le_of_ble_eq_true rfl) dX4_isEnd_10 ⟨Nat.zero_le _, Nat.zero_le _⟩) rfl ?_
    refine gw_iload C dX4_isEnd_13 4 rfl ?_
    refine gw_iload_n C dX4_isEnd_15 3 rfl ?_
    refine gw_isub C dX4_isEnd_16 ?_
    refine gw_icmp_ne (tgt := 24) C dX4_isEnd_17 (by decide) h (fun c6 h => ?_) (fun c6 h => ?_)
    · refine gw_iconst (v := (1 : Int32)) C dX4_isEnd_20 rfl ?_
      refine gw_goto (tgt := 25) C dX4_isEnd_21 (by decide) ?_
      exact J3 _ h
    · exact J2 _ h
set_option maxHeartbeats 4000000 in
set_option maxRecDepth 100000 in
theorem c_X4_isEnd_5 (l : Launch) (D : va_G) (cI cJ cO : ClassId) (a : Nat → Nat) (t : MS) (p1 : Int32) (p2 : Int32) (p3 : Int32) {o : Int32} (h : fM_isEnd mOl p1 p2 p3 t = some o) : Ct l D (tysA cI cJ cO) yX4_isEnd wsX4_isEnd (rmOf 1 22) [.ref (a 0), .int p1, .ref (a 5), .int p2, .int p3] (wM cI a t) (some (.int o)) (wM cI a t) := by
  refine Ct_of (own := RX4) cX4_isEnd 7 (some .boolean) (by decide +kernel) rfl rfl (Nat.le_of_ble_eq_true rfl) ?_
  intro p e s m args below meth c A C hnm
  have w_X4_lengthOf := cwV (R := (rmOf 1 22)) (rm := rmOf 0 0) (s := s) (args := args) 1 C.1.2.2.2.2 gX4_isEnd_X4_lengthOf rfl rfl rfl hd_X4_lengthOf ⟨Nat.le_of_ble_eq_true rfl, Nat.le_of_ble_eq_true rfl⟩
  have w_X4_letterOf := cwV (R := (rmOf 1 22)) (rm := rmOf 0 0) (s := s) (args := args) 2 C.1.2.2.2.2 gX4_isEnd_X4_letterOf rfl rfl rfl hd_X4_letterOf ⟨Nat.le_of_ble_eq_true rfl, Nat.le_of_ble_eq_true rfl⟩
  have w_X4_usersOf := cwV (R := (rmOf 1 22)) (rm := rmOf 0 0) (s := s) (args := args) 1 C.1.2.2.2.2 gX4_isEnd_X4_usersOf rfl rfl rfl hd_X4_usersOf ⟨Nat.le_of_ble_eq_true rfl, Nat.le_of_ble_eq_true rfl⟩
  have h := gw_top h
  unfold fM_isEnd at h
  show gw_G p l e (rmOf 1 22) s m args below meth c D A (CtM D below (some (.int o)) (wM cI a t) A args s) 7 0 0 (wM cI a t) [(0, .ref (a 0)), (1, .int p1), (2, .ref (a 5)), (3, .int p2), (4, .int p3)] 0 []
  refine gw_aload_n C dX4_isEnd_0 0 rfl ?_
  refine gw_iload_n C dX4_isEnd_1 1 rfl ?_
  refine gw_bind h (fun q1 hq1 h => ?_)
  refine gw_whole (st2 := [.int q1]) C (run_V (rest := []) C (c_X4_usersOf l D cI cJ cO a t p1 hq1) w_X4_usersOf 0 3 rfl rfl rfl rfl rfl (Nat.le_of_ble_eq_true rfl) dX4_isEnd_2 ⟨Nat.zero_le _, Nat.zero_le _⟩) rfl ?_
  refine gw_lt h (fun j3 ej3 h => ?_)
  have J3 : ∀ v3 : Int32, Rs some o (j3 v3) → gw_G p l e (rmOf 1 22) s m args below meth c D A (CtM D below (some (.int o)) (wM cI a t) A args s) 7 0 0 (wM cI a t) [(0, .ref (a 0)), (1, .int p1), (2, .ref (a 5)), (3, .int p2), (4, .int p3)] 25 [.int v3] := by
    intro v3 h
    have h := gw_app ej3 h
    refine gw_istore C dX4_isEnd_25 [(5, .int v3), (0, .ref (a 0)), (1, .int p1), (2, .ref (a 5)), (3, .int p2), (4, .int p3)] (by decide) rfl ?_
    refine gw_iload_n C dX4_isEnd_27 4 rfl ?_
    refine gw_istore C dX4_isEnd_28 [(6, .int p2), (5, .int v3), (0, .ref (a 0)), (1, .int p1), (2, .ref (a 5)), (3, .int p2), (4, .int p3)] (by decide) rfl ?_
    refine gw_sub [2, 3, 4, 5, 6, 1, 0] rfl ?_
    refine gw_lpb (x0 := (v3, p2)) (Go := fun x7 : Int32 × Int32 => gw_G p l e (rmOf 1 22) s m args below meth c D A (CtM D below (some (.int o)) (wM cI a t) A args s) 7 0 0 (wM cI a t) [(0, .ref (a 0)), (1, .int p1), (2, .ref (a 5)), (3, .int p2), (4, .int p3), (5, .int x7.1), (6, .int x7.2)] 30 []) (GoX := fun v7 : Int32 => gw_G p l e (rmOf 1 22) s m args below meth c D A (CtM D below (some (.int o)) (wM cI a t) A args s) 7 0 0 (wM cI a t) [(5, .int v7)] 71 []) h (fun v7 h => ?_) (fun x7 K7 X7 I7 h => ?_)
    · refine gw_iload C dX4_isEnd_71 0 rfl ?_
      refine gw_chk h (fun b14 h => ?_)
      have h := gw_some h
      have ho := Option.some.inj h
      subst ho
      exact gw_zret C b14 dX4_isEnd_73
    · refine gw_iload C dX4_isEnd_30 6 rfl ?_
      refine gw_iload C dX4_isEnd_32 4 rfl ?_
      refine gw_icmp_ge (tgt := 71) C dX4_isEnd_34 (by decide) h (fun c8 h => ?_) (fun c8 h => ?_)
      · refine gw_sub [5] rfl ?_
        have h := gw_some h
        exact X7 _ h
      · refine gw_iload C dX4_isEnd_37 5 rfl ?_
        refine gw_if_eq (tgt := 71) C dX4_isEnd_39 (by decide) h (fun c9 h => ?_) (fun c9 h => ?_)
        · refine gw_sub [5] rfl ?_
          have h := gw_some h
          exact X7 _ h
        · refine gw_aload_n C dX4_isEnd_42 0 rfl ?_
          refine gw_iload_n C dX4_isEnd_43 1 rfl ?_
          refine gw_iload C dX4_isEnd_44 6 rfl ?_
          refine gw_iload_n C dX4_isEnd_46 3 rfl ?_
          refine gw_isub C dX4_isEnd_47 ?_
          refine gw_bind h (fun q10 hq10 h => ?_)
          refine gw_whole (st2 := [.int q10]) C (run_V (rest := []) C (c_X4_letterOf l D cI cJ cO a t p1 (x7.2 - p2) hq10) w_X4_letterOf 0 3 rfl rfl rfl rfl rfl (Nat.le_of_ble_eq_true rfl) dX4_isEnd_48 ⟨Nat.zero_le _, Nat.zero_le _⟩) rfl ?_
          refine gw_aload_n C dX4_isEnd_51 2 rfl ?_
          refine gw_iload C dX4_isEnd_52 6 rfl ?_
          refine gw_chk h (fun b11 h => ?_)
          refine gw_iald C dX4_isEnd_54 5 0 rfl rfl b11 ?_
          refine gw_lt h (fun j12 ej12 h => ?_)
          have J12 : ∀ v12 : Int32, Rs K7 o (j12 v12) → gw_G p l e (rmOf 1 22) s m args below meth c D A (CtM D below (some (.int o)) (wM cI a t) A args s) 7 0 0 (wM cI a t) [(0, .ref (a 0)), (1, .int p1), (2, .ref (a 5)), (3, .int p2), (4, .int p3), (6, .int x7.2)] 63 [.int v12] := by
            intro v12 h
            have h := gw_app ej12 h
            refine gw_istore C dX4_isEnd_63 [(5, .int v12), (0, .ref (a 0)), (1, .int p1), (2, .ref (a 5)), (3, .int p2), (4, .int p3), (6, .int x7.2)] (by decide) rfl ?_
            refine gw_iinc (v := (x7.2 + (1 : Int32))) C dX4_isEnd_65 [(6, .int (x7.2 + (1 : Int32))), (5, .int v12), (0, .ref (a 0)), (1, .int p1), (2, .ref (a 5)), (3, .int p2), (4, .int p3)] 6 rfl rfl (by decide) rfl ?_
            refine gw_goto (tgt := 30) C dX4_isEnd_68 (by decide) ?_
            refine gw_sub [2, 3, 4, 5, 6, 1, 0] rfl ?_
            have h := gw_some h
            exact I7 _ h
          refine gw_icmp_ne (tgt := 62) C dX4_isEnd_55 (by decide) h (fun c13 h => ?_) (fun c13 h => ?_)
          · refine gw_iconst (v := (1 : Int32)) C dX4_isEnd_58 rfl ?_
            refine gw_goto (tgt := 63) C dX4_isEnd_59 (by decide) ?_
            refine gw_sub [0, 1, 2, 3, 4, 6] rfl ?_
            exact J12 _ h
          · refine gw_iconst (v := (0 : Int32)) C dX4_isEnd_62 rfl ?_
            refine gw_sub [0, 1, 2, 3, 4, 6] rfl ?_
            exact J12 _ h
  refine gw_lt h (fun j2 ej2 h => ?_)
  have J2 : ∀ v2 : Unit, Rs some o (j2 v2) → gw_G p l e (rmOf 1 22) s m args below meth c D A (CtM D below (some (.int o)) (wM cI a t) A args s) 7 0 0 (wM cI a t) [(0, .ref (a 0)), (1, .int p1), (2, .ref (a 5)), (3, .int p2), (4, .int p3)] 24 [] := by
    intro v2 h
    have h := gw_app ej2 h
    refine gw_iconst (v := (0 : Int32)) C dX4_isEnd_24 rfl ?_
    exact J3 _ h
  refine gw_if_le (tgt := 24) C dX4_isEnd_5 (by decide) h (fun c4 h => ?_) (fun c4 h => ?_)
  · exact J2 _ h
  · refine gw_aload_n C dX4_isEnd_8 0 rfl ?_
    refine gw_iload_n C dX4_isEnd_9 1 rfl ?_
    refine gw_bind h (fun q5 hq5 h => ?_)
    refine gw_whole (st2 := [.int q5]) C (run_V (rest := []) C (c_X4_lengthOf l D cI cJ cO a t p1 hq5) w_X4_lengthOf 0 3 rfl rfl rfl rfl rfl (Nat.le_of_ble_eq_true rfl) dX4_isEnd_10 ⟨Nat.zero_le _, Nat.zero_le _⟩) rfl ?_
    refine gw_iload C dX4_isEnd_13 4 rfl ?_
    refine gw_iload_n C dX4_isEnd_15 3 rfl ?_
    refine gw_isub C dX4_isEnd_16 ?_
    refine gw_icmp_ne (tgt := 24) C dX4_isEnd_17 (by decide) h (fun c6 h => ?_) (fun c6 h => ?_)
    · refine gw_iconst (v := (1 : Int32)) C dX4_isEnd_20 rfl ?_
      refine gw_goto (tgt := 25) C dX4_isEnd_21 (by decide) ?_
      exact J3 _ h
    · exact J2 _ h
set_option maxHeartbeats 4000000 in
set_option maxRecDepth 100000 in
theorem c_X4_isEnd_9 (l : Launch) (D : va_G) (cI cJ cO : ClassId) (a : Nat → Nat) (t : MS) (p1 : Int32) (p2 : Int32) (p3 : Int32) {o : Int32} (h : fM_isEnd mRo p1 p2 p3 t = some o) : Ct l D (tysA cI cJ cO) yX4_isEnd wsX4_isEnd (rmOf 1 22) [.ref (a 0), .int p1, .ref (a 9), .int p2, .int p3] (wM cI a t) (some (.int o)) (wM cI a t) := by
  refine Ct_of (own := RX4) cX4_isEnd 7 (some .boolean) (by decide +kernel) rfl rfl (Nat.le_of_ble_eq_true rfl) ?_
  intro p e s m args below meth c A C hnm
  have w_X4_lengthOf := cwV (R := (rmOf 1 22)) (rm := rmOf 0 0) (s := s) (args := args) 1 C.1.2.2.2.2 gX4_isEnd_X4_lengthOf rfl rfl rfl hd_X4_lengthOf ⟨Nat.le_of_ble_eq_true rfl, Nat.le_of_ble_eq_true rfl⟩
  have w_X4_letterOf := cwV (R := (rmOf 1 22)) (rm := rmOf 0 0) (s := s) (args := args) 2 C.1.2.2.2.2 gX4_isEnd_X4_letterOf rfl rfl rfl hd_X4_letterOf ⟨Nat.le_of_ble_eq_true rfl, Nat.le_of_ble_eq_true rfl⟩
  have w_X4_usersOf := cwV (R := (rmOf 1 22)) (rm := rmOf 0 0) (s := s) (args := args) 1 C.1.2.2.2.2 gX4_isEnd_X4_usersOf rfl rfl rfl hd_X4_usersOf ⟨Nat.le_of_ble_eq_true rfl, Nat.le_of_ble_eq_true rfl⟩
  have h := gw_top h
  unfold fM_isEnd at h
  show gw_G p l e (rmOf 1 22) s m args below meth c D A (CtM D below (some (.int o)) (wM cI a t) A args s) 7 0 0 (wM cI a t) [(0, .ref (a 0)), (1, .int p1), (2, .ref (a 9)), (3, .int p2), (4, .int p3)] 0 []
  refine gw_aload_n C dX4_isEnd_0 0 rfl ?_
  refine gw_iload_n C dX4_isEnd_1 1 rfl ?_
  refine gw_bind h (fun q1 hq1 h => ?_)
  refine gw_whole (st2 := [.int q1]) C (run_V (rest := []) C (c_X4_usersOf l D cI cJ cO a t p1 hq1) w_X4_usersOf 0 3 rfl rfl rfl rfl rfl (Nat.le_of_ble_eq_true rfl) dX4_isEnd_2 ⟨Nat.zero_le _, Nat.zero_le _⟩) rfl ?_
  refine gw_lt h (fun j3 ej3 h => ?_)
  have J3 : ∀ v3 : Int32, Rs some o (j3 v3) → gw_G p l e (rmOf 1 22) s m args below meth c D A (CtM D below (some (.int o)) (wM cI a t) A args s) 7 0 0 (wM cI a t) [(0, .ref (a 0)), (1, .int p1), (2, .ref (a 9)), (3, .int p2), (4, .int p3)] 25 [.int v3] := by
    intro v3 h
    have h := gw_app ej3 h
    refine gw_istore C dX4_isEnd_25 [(5, .int v3), (0, .ref (a 0)), (1, .int p1), (2, .ref (a 9)), (3, .int p2), (4, .int p3)] (by decide) rfl ?_
    refine gw_iload_n C dX4_isEnd_27 4 rfl ?_
    refine gw_istore C dX4_isEnd_28 [(6, .int p2), (5, .int v3), (0, .ref (a 0)), (1, .int p1), (2, .ref (a 9)), (3, .int p2), (4, .int p3)] (by decide) rfl ?_
    refine gw_sub [2, 3, 4, 5, 6, 1, 0] rfl ?_
    refine gw_lpb (x0 := (v3, p2)) (Go := fun x7 : Int32 × Int32 => gw_G p l e (rmOf 1 22) s m args below meth c D A (CtM D below (some (.int o)) (wM cI a t) A args s) 7 0 0 (wM cI a t) [(0, .ref (a 0)), (1, .int p1), (2, .ref (a 9)), (3, .int p2), (4, .int p3), (5, .int x7.1), (6, .int x7.2)] 30 []) (GoX := fun v7 : Int32 => gw_G p l e (rmOf 1 22) s m args below meth c D A (CtM D below (some (.int o)) (wM cI a t) A args s) 7 0 0 (wM cI a t) [(5, .int v7)] 71 []) h (fun v7 h => ?_) (fun x7 K7 X7 I7 h => ?_)
    · refine gw_iload C dX4_isEnd_71 0 rfl ?_
      refine gw_chk h (fun b14 h => ?_)
      have h := gw_some h
      have ho := Option.some.inj h
      subst ho
      exact gw_zret C b14 dX4_isEnd_73
    · refine gw_iload C dX4_isEnd_30 6 rfl ?_
      refine gw_iload C dX4_isEnd_32 4 rfl ?_
      refine gw_icmp_ge (tgt := 71) C dX4_isEnd_34 (by decide) h (fun c8 h => ?_) (fun c8 h => ?_)
      · refine gw_sub [5] rfl ?_
        have h := gw_some h
        exact X7 _ h
      · refine gw_iload C dX4_isEnd_37 5 rfl ?_
        refine gw_if_eq (tgt := 71) C dX4_isEnd_39 (by decide) h (fun c9 h => ?_) (fun c9 h => ?_)
        · refine gw_sub [5] rfl ?_
          have h := gw_some h
          exact X7 _ h
        · refine gw_aload_n C dX4_isEnd_42 0 rfl ?_
          refine gw_iload_n C dX4_isEnd_43 1 rfl ?_
          refine gw_iload C dX4_isEnd_44 6 rfl ?_
          refine gw_iload_n C dX4_isEnd_46 3 rfl ?_
          refine gw_isub C dX4_isEnd_47 ?_
          refine gw_bind h (fun q10 hq10 h => ?_)
          refine gw_whole (st2 := [.int q10]) C (run_V (rest := []) C (c_X4_letterOf l D cI cJ cO a t p1 (x7.2 - p2) hq10) w_X4_letterOf 0 3 rfl rfl rfl rfl rfl (Nat.le_of_ble_eq_true rfl) dX4_isEnd_48 ⟨Nat.zero_le _, Nat.zero_le _⟩) rfl ?_
          refine gw_aload_n C dX4_isEnd_51 2 rfl ?_
          refine gw_iload C dX4_isEnd_52 6 rfl ?_
          refine gw_chk h (fun b11 h => ?_)
          refine gw_iald C dX4_isEnd_54 9 0 rfl rfl b11 ?_
          refine gw_lt h (fun j12 ej12 h => ?_)
          have J12 : ∀ v12 : Int32, Rs K7 o (j12 v12) → gw_G p l e (rmOf 1 22) s m args below meth c D A (CtM D below (some (.int o)) (wM cI a t) A args s) 7 0 0 (wM cI a t) [(0, .ref (a 0)), (1, .int p1), (2, .ref (a 9)), (3, .int p2), (4, .int p3), (6, .int x7.2)] 63 [.int v12] := by
            intro v12 h
            have h := gw_app ej12 h
            refine gw_istore C dX4_isEnd_63 [(5, .int v12), (0, .ref (a 0)), (1, .int p1), (2, .ref (a 9)), (3, .int p2), (4, .int p3), (6, .int x7.2)] (by decide) rfl ?_
            refine gw_iinc (v := (x7.2 + (1 : Int32))) C dX4_isEnd_65 [(6, .int (x7.2 + (1 : Int32))), (5, .int v12), (0, .ref (a 0)), (1, .int p1), (2, .ref (a 9)), (3, .int p2), (4, .int p3)] 6 rfl rfl (by decide) rfl ?_
            refine gw_goto (tgt := 30) C dX4_isEnd_68 (by decide) ?_
            refine gw_sub [2, 3, 4, 5, 6, 1, 0] rfl ?_
            have h := gw_some h
            exact I7 _ h
          refine gw_icmp_ne (tgt := 62) C dX4_isEnd_55 (by decide) h (fun c13 h => ?_) (fun c13 h => ?_)
          · refine gw_iconst (v := (1 : Int32)) C dX4_isEnd_58 rfl ?_
            refine gw_goto (tgt := 63) C dX4_isEnd_59 (by decide) ?_
            refine gw_sub [0, 1, 2, 3, 4, 6] rfl ?_
            exact J12 _ h
          · refine gw_iconst (v := (0 : Int32)) C dX4_isEnd_62 rfl ?_
            refine gw_sub [0, 1, 2, 3, 4, 6] rfl ?_
            exact J12 _ h
  refine gw_lt h (fun j2 ej2 h => ?_)
  have J2 : ∀ v2 : Unit, Rs some o (j2 v2) → gw_G p l e (rmOf 1 22) s m args below meth c D A (CtM D below (some (.int o)) (wM cI a t) A args s) 7 0 0 (wM cI a t) [(0, .ref (a 0)), (1, .int p1), (2, .ref (a 9)), (3, .int p2), (4, .int p3)] 24 [] := by
    intro v2 h
    have h := gw_app ej2 h
    refine gw_iconst (v := (0 : Int32)) C dX4_isEnd_24 rfl ?_
    exact J3 _ h
  refine gw_if_le (tgt := 24) C dX4_isEnd_5 (by decide) h (fun c4 h => ?_) (fun c4 h => ?_)
  · exact J2 _ h
  · refine gw_aload_n C dX4_isEnd_8 0 rfl ?_
    refine gw_iload_n C dX4_isEnd_9 1 rfl ?_
    refine gw_bind h (fun q5 hq5 h => ?_)
    refine gw_whole (st2 := [.int q5]) C (run_V (rest := []) C (c_X4_lengthOf l D cI cJ cO a t p1 hq5) w_X4_lengthOf 0 3 rfl rfl rfl rfl rfl (Nat.le_of_ble_eq_true rfl) dX4_isEnd_10 ⟨Nat.zero_le _, Nat.zero_le _⟩) rfl ?_
    refine gw_iload C dX4_isEnd_13 4 rfl ?_
    refine gw_iload_n C dX4_isEnd_15 3 rfl ?_
    refine gw_isub C dX4_isEnd_16 ?_
    refine gw_icmp_ne (tgt := 24) C dX4_isEnd_17 (by decide) h (fun c6 h => ?_) (fun c6 h => ?_)
    · refine gw_iconst (v := (1 : Int32)) C dX4_isEnd_20 rfl ?_
      refine gw_goto (tgt := 25) C dX4_isEnd_21 (by decide) ?_
      exact J3 _ h
    · exact J2 _ h
theorem hd_X4_placeFor : yX4_placeFor.cls = RX4 ∧ yX4_placeFor.cls ≠ "java/lang/invoke/MethodHandle" ∧ yX4_placeFor.cls ≠ "java/lang/invoke/VarHandle" ∧ (parseMethodDescriptor yX4_placeFor.desc).map (fun d => d.parameters.length) = some 3 := by decide +kernel
set_option maxHeartbeats 4000000 in
set_option maxRecDepth 100000 in
theorem c_X4_placeFor_4 (l : Launch) (D : va_G) (cI cJ cO : ClassId) (a : Nat → Nat) (t : MS) (p1 : Int32) (p2 : Int32) {o : Int32} (h : fM_placeFor mBu p1 p2 t = some o) : Ct l D (tysA cI cJ cO) yX4_placeFor wsX4_placeFor (rmOf 2 48) [.ref (a 0), .ref (a 4), .int p1, .int p2] (wM cI a t) (some (.int o)) (wM cI a t) := by
  refine Ct_of (own := RX4) cX4_placeFor 6 (some .int) (by decide +kernel) rfl rfl (Nat.le_of_ble_eq_true rfl) ?_
  intro p e s m args below meth c A C hnm
  have w_X4_isEnd := cwV (R := (rmOf 2 48)) (rm := rmOf 1 22) (s := s) (args := args) 4 C.1.2.2.2.2 gX4_placeFor_X4_isEnd rfl rfl rfl hd_X4_isEnd ⟨Nat.le_of_ble_eq_true rfl, Nat.le_of_ble_eq_true rfl⟩
  have w_X4_usersOf := cwV (R := (rmOf 2 48)) (rm := rmOf 0 0) (s := s) (args := args) 1 C.1.2.2.2.2 gX4_placeFor_X4_usersOf rfl rfl rfl hd_X4_usersOf ⟨Nat.le_of_ble_eq_true rfl, Nat.le_of_ble_eq_true rfl⟩
  have h := gw_top h
  unfold fM_placeFor at h
  show gw_G p l e (rmOf 2 48) s m args below meth c D A (CtM D below (some (.int o)) (wM cI a t) A args s) 6 0 0 (wM cI a t) [(0, .ref (a 0)), (1, .ref (a 4)), (2, .int p1), (3, .int p2)] 0 []
  refine gw_iconst (v := (-1 : Int32)) C dX4_placeFor_0 rfl ?_
  refine gw_istore C dX4_placeFor_1 [(4, .int (-1 : Int32)), (0, .ref (a 0)), (1, .ref (a 4)), (2, .int p1), (3, .int p2)] (by decide) rfl ?_
  refine gw_bipush (v := (39 : Int32)) C dX4_placeFor_3 rfl ?_
  refine gw_istore C dX4_placeFor_5 [(5, .int (39 : Int32)), (4, .int (-1 : Int32)), (0, .ref (a 0)), (1, .ref (a 4)), (2, .int p1), (3, .int p2)] (by decide) rfl ?_
  refine gw_sub [2, 3, 4, 5, 1, 0] rfl ?_
  refine gw_lpb (x0 := ((-1 : Int32), (39 : Int32))) (Go := fun x1 : Int32 × Int32 => gw_G p l e (rmOf 2 48) s m args below meth c D A (CtM D below (some (.int o)) (wM cI a t) A args s) 6 0 0 (wM cI a t) [(0, .ref (a 0)), (1, .ref (a 4)), (2, .int p1), (3, .int p2), (4, .int x1.1), (5, .int x1.2)] 7 []) (GoX := fun v1 : Int32 => gw_G p l e (rmOf 2 48) s m args below meth c D A (CtM D below (some (.int o)) (wM cI a t) A args s) 6 0 0 (wM cI a t) [(0, .ref (a 0)), (1, .ref (a 4)), (2, .int p1), (3, .int p2), (4, .int v1)] 36 []) h (fun v1 h => ?_) (fun x1 K1 X1 I1 h => ?_)
  · refine gw_iconst (v := (0 : Int32)) C dX4_placeFor_36 rfl ?_
    refine gw_istore C dX4_placeFor_37 [(5, .int (0 : Int32)), (0, .ref (a 0)), (1, .ref (a 4)), (2, .int p1), (3, .int p2), (4, .int v1)] (by decide) rfl ?_
    refine gw_sub [1, 2, 3, 4, 5, 0] rfl ?_
    refine gw_lpb (x0 := (v1, (0 : Int32))) (Go := fun x6 : Int32 × Int32 => gw_G p l e (rmOf 2 48) s m args below meth c D A (CtM D below (some (.int o)) (wM cI a t) A args s) 6 0 0 (wM cI a t) [(0, .ref (a 0)), (1, .ref (a 4)), (2, .int p1), (3, .int p2), (4, .int x6.1), (5, .int x6.2)] 39 []) (GoX := fun v6 : Int32 => gw_G p l e (rmOf 2 48) s m args below meth c D A (CtM D below (some (.int o)) (wM cI a t) A args s) 6 0 0 (wM cI a t) [(4, .int v6)] 73 []) h (fun v6 h => ?_) (fun x6 K6 X6 I6 h => ?_)
    · refine gw_iload C dX4_placeFor_73 0 rfl ?_
      have h := gw_some h
      have ho := Option.some.inj h
      subst ho
      exact gw_iret C dX4_placeFor_75
    · refine gw_iload C dX4_placeFor_39 5 rfl ?_
      refine gw_bipush (v := (40 : Int32)) C dX4_placeFor_41 rfl ?_
      refine gw_icmp_ge (tgt := 73) C dX4_placeFor_43 (by decide) h (fun c7 h => ?_) (fun c7 h => ?_)
      · refine gw_sub [4] rfl ?_
        have h := gw_some h
        exact X6 _ h
      · refine gw_aload_n C dX4_placeFor_46 0 rfl ?_
        refine gw_iload C dX4_placeFor_47 5 rfl ?_
        refine gw_aload_n C dX4_placeFor_49 1 rfl ?_
        refine gw_iload_n C dX4_placeFor_50 2 rfl ?_
        refine gw_iload_n C dX4_placeFor_51 3 rfl ?_
        refine gw_bind h (fun q8 hq8 h => ?_)
        refine gw_whole (st2 := [.int q8]) C (run_V (rest := []) C (c_X4_isEnd_4 l D cI cJ cO a t x6.2 p1 p2 hq8) w_X4_isEnd 0 3 rfl rfl rfl rfl rfl (Nat.le_of_ble_eq_true rfl) dX4_placeFor_52 ⟨Nat.zero_le _, Nat.zero_le _⟩) rfl ?_
        refine gw_lt h (fun j9 ej9 h => ?_)
        have J9 : ∀ v9 : Int32, Rs K6 o (j9 v9) → gw_G p l e (rmOf 2 48) s m args below meth c D A (CtM D below (some (.int o)) (wM cI a t) A args s) 6 0 0 (wM cI a t) [(0, .ref (a 0)), (1, .ref (a 4)), (2, .int p1), (3, .int p2), (5, .int x6.2)] 65 [.int v9] := by
          intro v9 h
          have h := gw_app ej9 h
          refine gw_istore C dX4_placeFor_65 [(4, .int v9), (0, .ref (a 0)), (1, .ref (a 4)), (2, .int p1), (3, .int p2), (5, .int x6.2)] (by decide) rfl ?_
          refine gw_iinc (v := (x6.2 + (1 : Int32))) C dX4_placeFor_67 [(5, .int (x6.2 + (1 : Int32))), (4, .int v9), (0, .ref (a 0)), (1, .ref (a 4)), (2, .int p1), (3, .int p2)] 5 rfl rfl (by decide) rfl ?_
          refine gw_goto (tgt := 39) C dX4_placeFor_70 (by decide) ?_
          refine gw_sub [2, 3, 4, 5, 1, 0] rfl ?_
          have h := gw_some h
          exact I6 _ h
        refine gw_if_eq (tgt := 63) C dX4_placeFor_55 (by decide) h (fun c10 h => ?_) (fun c10 h => ?_)
        · refine gw_iload C dX4_placeFor_63 4 rfl ?_
          refine gw_sub [0, 1, 2, 3, 5] rfl ?_
          exact J9 _ h
        · refine gw_iload C dX4_placeFor_58 5 rfl ?_
          refine gw_goto (tgt := 65) C dX4_placeFor_60 (by decide) ?_
          refine gw_sub [0, 1, 2, 3, 5] rfl ?_
          exact J9 _ h
  · refine gw_iload C dX4_placeFor_7 5 rfl ?_
    refine gw_if_lt (tgt := 36) C dX4_placeFor_9 (by decide) h (fun c2 h => ?_) (fun c2 h => ?_)
    · refine gw_sub [0, 1, 2, 3, 4] rfl ?_
      have h := gw_some h
      exact X1 _ h
    · refine gw_aload_n C dX4_placeFor_12 0 rfl ?_
      refine gw_iload C dX4_placeFor_13 5 rfl ?_
      refine gw_bind h (fun q3 hq3 h => ?_)
      refine gw_whole (st2 := [.int q3]) C (run_V (rest := []) C (c_X4_usersOf l D cI cJ cO a t x1.2 hq3) w_X4_usersOf 0 3 rfl rfl rfl rfl rfl (Nat.le_of_ble_eq_true rfl) dX4_placeFor_15 ⟨Nat.zero_le _, Nat.zero_le _⟩) rfl ?_
      refine gw_lt h (fun j4 ej4 h => ?_)
      have J4 : ∀ v4 : Int32, Rs K1 o (j4 v4) → gw_G p l e (rmOf 2 48) s m args below meth c D A (CtM D below (some (.int o)) (wM cI a t) A args s) 6 0 0 (wM cI a t) [(0, .ref (a 0)), (1, .ref (a 4)), (2, .int p1), (3, .int p2), (5, .int x1.2)] 28 [.int v4] := by
        intro v4 h
        have h := gw_app ej4 h
        refine gw_istore C dX4_placeFor_28 [(4, .int v4), (0, .ref (a 0)), (1, .ref (a 4)), (2, .int p1), (3, .int p2), (5, .int x1.2)] (by decide) rfl ?_
        refine gw_iinc (v := (x1.2 + (-1 : Int32))) C dX4_placeFor_30 [(5, .int (x1.2 + (-1 : Int32))), (4, .int v4), (0, .ref (a 0)), (1, .ref (a 4)), (2, .int p1), (3, .int p2)] 5 rfl rfl (by decide) rfl ?_
        refine gw_goto (tgt := 7) C dX4_placeFor_33 (by decide) ?_
        refine gw_sub [2, 3, 4, 5, 1, 0] rfl ?_
        have h := gw_some h
        exact I1 _ h
      refine gw_if_ne (tgt := 26) C dX4_placeFor_18 (by decide) h (fun c5 h => ?_) (fun c5 h => ?_)
      · refine gw_iload C dX4_placeFor_21 5 rfl ?_
        refine gw_goto (tgt := 28) C dX4_placeFor_23 (by decide) ?_
        refine gw_sub [0, 1, 2, 3, 5] rfl ?_
        exact J4 _ h
      · refine gw_iload C dX4_placeFor_26 4 rfl ?_
        refine gw_sub [0, 1, 2, 3, 5] rfl ?_
        exact J4 _ h
set_option maxHeartbeats 4000000 in
set_option maxRecDepth 100000 in
theorem c_X4_placeFor_5 (l : Launch) (D : va_G) (cI cJ cO : ClassId) (a : Nat → Nat) (t : MS) (p1 : Int32) (p2 : Int32) {o : Int32} (h : fM_placeFor mOl p1 p2 t = some o) : Ct l D (tysA cI cJ cO) yX4_placeFor wsX4_placeFor (rmOf 2 48) [.ref (a 0), .ref (a 5), .int p1, .int p2] (wM cI a t) (some (.int o)) (wM cI a t) := by
  refine Ct_of (own := RX4) cX4_placeFor 6 (some .int) (by decide +kernel) rfl rfl (Nat.le_of_ble_eq_true rfl) ?_
  intro p e s m args below meth c A C hnm
  have w_X4_isEnd := cwV (R := (rmOf 2 48)) (rm := rmOf 1 22) (s := s) (args := args) 4 C.1.2.2.2.2 gX4_placeFor_X4_isEnd rfl rfl rfl hd_X4_isEnd ⟨Nat.le_of_ble_eq_true rfl, Nat.le_of_ble_eq_true rfl⟩
  have w_X4_usersOf := cwV (R := (rmOf 2 48)) (rm := rmOf 0 0) (s := s) (args := args) 1 C.1.2.2.2.2 gX4_placeFor_X4_usersOf rfl rfl rfl hd_X4_usersOf ⟨Nat.le_of_ble_eq_true rfl, Nat.le_of_ble_eq_true rfl⟩
  have h := gw_top h
  unfold fM_placeFor at h
  show gw_G p l e (rmOf 2 48) s m args below meth c D A (CtM D below (some (.int o)) (wM cI a t) A args s) 6 0 0 (wM cI a t) [(0, .ref (a 0)), (1, .ref (a 5)), (2, .int p1), (3, .int p2)] 0 []
  refine gw_iconst (v := (-1 : Int32)) C dX4_placeFor_0 rfl ?_
  refine gw_istore C dX4_placeFor_1 [(4, .int (-1 : Int32)), (0, .ref (a 0)), (1, .ref (a 5)), (2, .int p1), (3, .int p2)] (by decide) rfl ?_
  refine gw_bipush (v := (39 : Int32)) C dX4_placeFor_3 rfl ?_
  refine gw_istore C dX4_placeFor_5 [(5, .int (39 : Int32)), (4, .int (-1 : Int32)), (0, .ref (a 0)), (1, .ref (a 5)), (2, .int p1), (3, .int p2)] (by decide) rfl ?_
  refine gw_sub [2, 3, 4, 5, 1, 0] rfl ?_
  refine gw_lpb (x0 := ((-1 : Int32), (39 : Int32))) (Go := fun x1 : Int32 × Int32 => gw_G p l e (rmOf 2 48) s m args below meth c D A (CtM D below (some (.int o)) (wM cI a t) A args s) 6 0 0 (wM cI a t) [(0, .ref (a 0)), (1, .ref (a 5)), (2, .int p1), (3, .int p2), (4, .int x1.1), (5, .int x1.2)] 7 []) (GoX := fun v1 : Int32 => gw_G p l e (rmOf 2 48) s m args below meth c D A (CtM D below (some (.int o)) (wM cI a t) A args s) 6 0 0 (wM cI a t) [(0, .ref (a 0)), (1, .ref (a 5)), (2, .int p1), (3, .int p2), (4, .int v1)] 36 []) h (fun v1 h => ?_) (fun x1 K1 X1 I1 h => ?_)
  · refine gw_iconst (v := (0 : Int32)) C dX4_placeFor_36 rfl ?_
    refine gw_istore C dX4_placeFor_37 [(5, .int (0 : Int32)), (0, .ref (a 0)), (1, .ref (a 5)), (2, .int p1), (3, .int p2), (4, .int v1)] (by decide) rfl ?_
    refine gw_sub [1, 2, 3, 4, 5, 0] rfl ?_
    refine gw_lpb (x0 := (v1, (0 : Int32))) (Go := fun x6 : Int32 × Int32 => gw_G p l e (rmOf 2 48) s m args below meth c D A (CtM D below (some (.int o)) (wM cI a t) A args s) 6 0 0 (wM cI a t) [(0, .ref (a 0)), (1, .ref (a 5)), (2, .int p1), (3, .int p2), (4, .int x6.1), (5, .int x6.2)] 39 []) (GoX := fun v6 : Int32 => gw_G p l e (rmOf 2 48) s m args below meth c D A (CtM D below (some (.int o)) (wM cI a t) A args s) 6 0 0 (wM cI a t) [(4, .int v6)] 73 []) h (fun v6 h => ?_) (fun x6 K6 X6 I6 h => ?_)
    · refine gw_iload C dX4_placeFor_73 0 rfl ?_
      have h := gw_some h
      have ho := Option.some.inj h
      subst ho
      exact gw_iret C dX4_placeFor_75
    · refine gw_iload C dX4_placeFor_39 5 rfl ?_
      refine gw_bipush (v := (40 : Int32)) C dX4_placeFor_41 rfl ?_
      refine gw_icmp_ge (tgt := 73) C dX4_placeFor_43 (by decide) h (fun c7 h => ?_) (fun c7 h => ?_)
      · refine gw_sub [4] rfl ?_
        have h := gw_some h
        exact X6 _ h
      · refine gw_aload_n C dX4_placeFor_46 0 rfl ?_
        refine gw_iload C dX4_placeFor_47 5 rfl ?_
        refine gw_aload_n C dX4_placeFor_49 1 rfl ?_
        refine gw_iload_n C dX4_placeFor_50 2 rfl ?_
        refine gw_iload_n C dX4_placeFor_51 3 rfl ?_
        refine gw_bind h (fun q8 hq8 h => ?_)
        refine gw_whole (st2 := [.int q8]) C (run_V (rest := []) C (c_X4_isEnd_5 l D cI cJ cO a t x6.2 p1 p2 hq8) w_X4_isEnd 0 3 rfl rfl rfl rfl rfl (Nat.le_of_ble_eq_true rfl) dX4_placeFor_52 ⟨Nat.zero_le _, Nat.zero_le _⟩) rfl ?_
        refine gw_lt h (fun j9 ej9 h => ?_)
        have J9 : ∀ v9 : Int32, Rs K6 o (j9 v9) → gw_G p l e (rmOf 2 48) s m args below meth c D A (CtM D below (some (.int o)) (wM cI a t) A args s) 6 0 0 (wM cI a t) [(0, .ref (a 0)), (1, .ref (a 5)), (2, .int p1), (3, .int p2), (5, .int x6.2)] 65 [.int v9] := by
          intro v9 h
          have h := gw_app ej9 h
          refine gw_istore C dX4_placeFor_65 [(4, .int v9), (0, .ref (a 0)), (1, .ref (a 5)), (2, .int p1), (3, .int p2), (5, .int x6.2)] (by decide) rfl ?_
          refine gw_iinc (v := (x6.2 + (1 : Int32))) C dX4_placeFor_67 [(5, .int (x6.2 + (1 : Int32))), (4, .int v9), (0, .ref (a 0)), (1, .ref (a 5)), (2, .int p1), (3, .int p2)] 5 rfl rfl (by decide) rfl ?_
          refine gw_goto (tgt := 39) C dX4_placeFor_70 (by decide) ?_
          refine gw_sub [2, 3, 4, 5, 1, 0] rfl ?_
          have h := gw_some h
          exact I6 _ h
        refine gw_if_eq (tgt := 63) C dX4_placeFor_55 (by decide) h (fun c10 h => ?_) (fun c10 h => ?_)
        · refine gw_iload C dX4_placeFor_63 4 rfl ?_
          refine gw_sub [0, 1, 2, 3, 5] rfl ?_
          exact J9 _ h
        · refine gw_iload C dX4_placeFor_58 5 rfl ?_
          refine gw_goto (tgt := 65) C dX4_placeFor_60 (by decide) ?_
          refine gw_sub [0, 1, 2, 3, 5] rfl ?_
          exact J9 _ h
  · refine gw_iload C dX4_placeFor_7 5 rfl ?_
    refine gw_if_lt (tgt := 36) C dX4_placeFor_9 (by decide) h (fun c2 h => ?_) (fun c2 h => ?_)
    · refine gw_sub [0, 1, 2, 3, 4] rfl ?_
      have h := gw_some h
      exact X1 _ h
    · refine gw_aload_n C dX4_placeFor_12 0 rfl ?_
      refine gw_iload C dX4_placeFor_13 5 rfl ?_
      refine gw_bind h (fun q3 hq3 h => ?_)
      refine gw_whole (st2 := [.int q3]) C (run_V (rest := []) C (c_X4_usersOf l D cI cJ cO a t x1.2 hq3) w_X4_usersOf 0 3 rfl rfl rfl rfl rfl (Nat.le_of_ble_eq_true rfl) dX4_placeFor_15 ⟨Nat.zero_le _, Nat.zero_le _⟩) rfl ?_
      refine gw_lt h (fun j4 ej4 h => ?_)
      have J4 : ∀ v4 : Int32, Rs K1 o (j4 v4) → gw_G p l e (rmOf 2 48) s m args below meth c D A (CtM D below (some (.int o)) (wM cI a t) A args s) 6 0 0 (wM cI a t) [(0, .ref (a 0)), (1, .ref (a 5)), (2, .int p1), (3, .int p2), (5, .int x1.2)] 28 [.int v4] := by
        intro v4 h
        have h := gw_app ej4 h
        refine gw_istore C dX4_placeFor_28 [(4, .int v4), (0, .ref (a 0)), (1, .ref (a 5)), (2, .int p1), (3, .int p2), (5, .int x1.2)] (by decide) rfl ?_
        refine gw_iinc (v := (x1.2 + (-1 : Int32))) C dX4_placeFor_30 [(5, .int (x1.2 + (-1 : Int32))), (4, .int v4), (0, .ref (a 0)), (1, .ref (a 5)), (2, .int p1), (3, .int p2)] 5 rfl rfl (by decide) rfl ?_
        refine gw_goto (tgt := 7) C dX4_placeFor_33 (by decide) ?_
        refine gw_sub [2, 3, 4, 5, 1, 0] rfl ?_
        have h := gw_some h
        exact I1 _ h
      refine gw_if_ne (tgt := 26) C dX4_placeFor_18 (by decide) h (fun c5 h => ?_) (fun c5 h => ?_)
      · refine gw_iload C dX4_placeFor_21 5 rfl ?_
        refine gw_goto (tgt := 28) C dX4_placeFor_23 (by decide) ?_
        refine gw_sub [0, 1, 2, 3, 5] rfl ?_
        exact J4 _ h
      · refine gw_iload C dX4_placeFor_26 4 rfl ?_
        refine gw_sub [0, 1, 2, 3, 5] rfl ?_
        exact J4 _ h
set_option maxHeartbeats 4000000 in
set_option maxRecDepth 100000 in
theorem c_X4_placeFor_9 (l : Launch) (D : va_G) (cI cJ cO : ClassId) (a : Nat → Nat) (t : MS) (p1 : Int32) (p2 : Int32) {o : Int32} (h : fM_placeFor mRo p1 p2 t = some o) : Ct l D (tysA cI cJ cO) yX4_placeFor wsX4_placeFor (rmOf 2 48) [.ref (a 0), .ref (a 9), .int p1, .int p2] (wM cI a t) (some (.int o)) (wM cI a t) := by
  refine Ct_of (own := RX4) cX4_placeFor 6 (some .int) (by decide +kernel) rfl rfl (Nat.le_of_ble_eq_true rfl) ?_
  intro p e s m args below meth c A C hnm
  have w_X4_isEnd := cwV (R := (rmOf 2 48)) (rm := rmOf 1 22) (s := s) (args := args) 4 C.1.2.2.2.2 gX4_placeFor_X4_isEnd rfl rfl rfl hd_X4_isEnd ⟨Nat.le_of_ble_eq_true rfl, Nat.le_of_ble_eq_true rfl⟩
  have w_X4_usersOf := cwV (R := (rmOf 2 48)) (rm := rmOf 0 0) (s := s) (args := args) 1 C.1.2.2.2.2 gX4_placeFor_X4_usersOf rfl rfl rfl hd_X4_usersOf ⟨Nat.le_of_ble_eq_true rfl, Nat.le_of_ble_eq_true rfl⟩
  have h := gw_top h
  unfold fM_placeFor at h
  show gw_G p l e (rmOf 2 48) s m args below meth c D A (CtM D below (some (.int o)) (wM cI a t) A args s) 6 0 0 (wM cI a t) [(0, .ref (a 0)), (1, .ref (a 9)), (2, .int p1), (3, .int p2)] 0 []
  refine gw_iconst (v := (-1 : Int32)) C dX4_placeFor_0 rfl ?_
  refine gw_istore C dX4_placeFor_1 [(4, .int (-1 : Int32)), (0, .ref (a 0)), (1, .ref (a 9)), (2, .int p1), (3, .int p2)] (by decide) rfl ?_
  refine gw_bipush (v := (39 : Int32)) C dX4_placeFor_3 rfl ?_
  refine gw_istore C dX4_placeFor_5 [(5, .int (39 : Int32)), (4, .int (-1 : Int32)), (0, .ref (a 0)), (1, .ref (a 9)), (2, .int p1), (3, .int p2)] (by decide) rfl ?_
  refine gw_sub [2, 3, 4, 5, 1, 0] rfl ?_
  refine gw_lpb (x0 := ((-1 : Int32), (39 : Int32))) (Go := fun x1 : Int32 × Int32 => gw_G p l e (rmOf 2 48) s m args below meth c D A (CtM D below (some (.int o)) (wM cI a t) A args s) 6 0 0 (wM cI a t) [(0, .ref (a 0)), (1, .ref (a 9)), (2, .int p1), (3, .int p2), (4, .int x1.1), (5, .int x1.2)] 7 []) (GoX := fun v1 : Int32 => gw_G p l e (rmOf 2 48) s m args below meth c D A (CtM D below (some (.int o)) (wM cI a t) A args s) 6 0 0 (wM cI a t) [(0, .ref (a 0)), (1, .ref (a 9)), (2, .int p1), (3, .int p2), (4, .int v1)] 36 []) h (fun v1 h => ?_) (fun x1 K1 X1 I1 h => ?_)
  · refine gw_iconst (v := (0 : Int32)) C dX4_placeFor_36 rfl ?_
    refine gw_istore C dX4_placeFor_37 [(5, .int (0 : Int32)), (0, .ref (a 0)), (1, .ref (a 9)), (2, .int p1), (3, .int p2), (4, .int v1)] (by decide) rfl ?_
    refine gw_sub [1, 2, 3, 4, 5, 0] rfl ?_
    refine gw_lpb (x0 := (v1, (0 : Int32))) (Go := fun x6 : Int32 × Int32 => gw_G p l e (rmOf 2 48) s m args below meth c D A (CtM D below (some (.int o)) (wM cI a t) A args s) 6 0 0 (wM cI a t) [(0, .ref (a 0)), (1, .ref (a 9)), (2, .int p1), (3, .int p2), (4, .int x6.1), (5, .int x6.2)] 39 []) (GoX := fun v6 : Int32 => gw_G p l e (rmOf 2 48) s m args below meth c D A (CtM D below (some (.int o)) (wM cI a t) A args s) 6 0 0 (wM cI a t) [(4, .int v6)] 73 []) h (fun v6 h => ?_) (fun x6 K6 X6 I6 h => ?_)
    · refine gw_iload C dX4_placeFor_73 0 rfl ?_
      have h := gw_some h
      have ho := Option.some.inj h
      subst ho
      exact gw_iret C dX4_placeFor_75
    · refine gw_iload C dX4_placeFor_39 5 rfl ?_
      refine gw_bipush (v := (40 : Int32)) C dX4_placeFor_41 rfl ?_
      refine gw_icmp_ge (tgt := 73) C dX4_placeFor_43 (by decide) h (fun c7 h => ?_) (fun c7 h => ?_)
      · refine gw_sub [4] rfl ?_
        have h := gw_some h
        exact X6 _ h
      · refine gw_aload_n C dX4_placeFor_46 0 rfl ?_
        refine gw_iload C dX4_placeFor_47 5 rfl ?_
        refine gw_aload_n C dX4_placeFor_49 1 rfl ?_
        refine gw_iload_n C dX4_placeFor_50 2 rfl ?_
        refine gw_iload_n C dX4_placeFor_51 3 rfl ?_
        refine gw_bind h (fun q8 hq8 h => ?_)
        refine gw_whole (st2 := [.int q8]) C (run_V (rest := []) C (c_X4_isEnd_9 l D cI cJ cO a t x6.2 p1 p2 hq8) w_X4_isEnd 0 3 rfl rfl rfl rfl rfl (Nat.le_of_ble_eq_true rfl) dX4_placeFor_52 ⟨Nat.zero_le _, Nat.zero_le _⟩) rfl ?_
        refine gw_lt h (fun j9 ej9 h => ?_)
        have J9 : ∀ v9 : Int32, Rs K6 o (j9 v9) → gw_G p l e (rmOf 2 48) s m args below meth c D A (CtM D below (some (.int o)) (wM cI a t) A args s) 6 0 0 (wM cI a t) [(0, .ref (a 0)), (1, .ref (a 9)), (2, .int p1), (3, .int p2), (5, .int x6.2)] 65 [.int v9] := by
          intro v9 h
          have h := gw_app ej9 h
          refine gw_istore C dX4_placeFor_65 [(4, .int v9), (0, .ref (a 0)), (1, .ref (a 9)), (2, .int p1), (3, .int p2), (5, .int x6.2)] (by decide) rfl ?_
          refine gw_iinc (v := (x6.2 + (1 : Int32))) C dX4_placeFor_67 [(5, .int (x6.2 + (1 : Int32))), (4, .int v9), (0, .ref (a 0)), (1, .ref (a 9)), (2, .int p1), (3, .int p2)] 5 rfl rfl (by decide) rfl ?_
          refine gw_goto (tgt := 39) C dX4_placeFor_70 (by decide) ?_
          refine gw_sub [2, 3, 4, 5, 1, 0] rfl ?_
          have h := gw_some h
          exact I6 _ h
        refine gw_if_eq (tgt := 63) C dX4_placeFor_55 (by decide) h (fun c10 h => ?_) (fun c10 h => ?_)
        · refine gw_iload C dX4_placeFor_63 4 rfl ?_
          refine gw_sub [0, 1, 2, 3, 5] rfl ?_
          exact J9 _ h
        · refine gw_iload C dX4_placeFor_58 5 rfl ?_
          refine gw_goto (tgt := 65) C dX4_placeFor_60 (by decide) ?_
          refine gw_sub [0, 1, 2, 3, 5] rfl ?_
          exact J9 _ h
  · refine gw_iload C dX4_placeFor_7 5 rfl ?_
    refine gw_if_lt (tgt := 36) C dX4_placeFor_9 (by decide) h (fun c2 h => ?_) (fun c2 h => ?_)
    · refine gw_sub [0, 1, 2, 3, 4] rfl ?_
      have h := gw_some h
      exact X1 _ h
    · refine gw_aload_n C dX4_placeFor_12 0 rfl ?_
      refine gw_iload C dX4_placeFor_13 5 rfl ?_
      refine gw_bind h (fun q3 hq3 h => ?_)
      refine gw_whole (st2 := [.int q3]) C (run_V (rest := []) C (c_X4_usersOf l D cI cJ cO a t x1.2 hq3) w_X4_usersOf 0 3 rfl rfl rfl rfl rfl (Nat.le_of_ble_eq_true rfl) dX4_placeFor_15 ⟨Nat.zero_le _, Nat.zero_le _⟩) rfl ?_
      refine gw_lt h (fun j4 ej4 h => ?_)
      have J4 : ∀ v4 : Int32, Rs K1 o (j4 v4) → gw_G p l e (rmOf 2 48) s m args below meth c D A (CtM D below (some (.int o)) (wM cI a t) A args s) 6 0 0 (wM cI a t) [(0, .ref (a 0)), (1, .ref (a 9)), (2, .int p1), (3, .int p2), (5, .int x1.2)] 28 [.int v4] := by
        intro v4 h
        have h := gw_app ej4 h
        refine gw_istore C dX4_placeFor_28 [(4, .int v4), (0, .ref (a 0)), (1, .ref (a 9)), (2, .int p1), (3, .int p2), (5, .int x1.2)] (by decide) rfl ?_
        refine gw_iinc (v := (x1.2 + (-1 : Int32))) C dX4_placeFor_30 [(5, .int (x1.2 + (-1 : Int32))), (4, .int v4), (0, .ref (a 0)), (1, .ref (a 9)), (2, .int p1), (3, .int p2)] 5 rfl rfl (by decide) rfl ?_
        refine gw_goto (tgt := 7) C dX4_placeFor_33 (by decide) ?_
        refine gw_sub [2, 3, 4, 5, 1, 0] rfl ?_
        have h := gw_some h
        exact I1 _ h
      refine gw_if_ne (tgt := 26) C dX4_placeFor_18 (by decide) h (fun c5 h => ?_) (fun c5 h => ?_)
      · refine gw_iload C dX4_placeFor_21 5 rfl ?_
        refine gw_goto (tgt := 28) C dX4_placeFor_23 (by decide) ?_
        refine gw_sub [0, 1, 2, 3, 5] rfl ?_
        exact J4 _ h
      · refine gw_iload C dX4_placeFor_26 4 rfl ?_
        refine gw_sub [0, 1, 2, 3, 5] rfl ?_
        exact J4 _ h
theorem hd_X4_giveEnd : yX4_giveEnd.cls = RX4 ∧ yX4_giveEnd.cls ≠ "java/lang/invoke/MethodHandle" ∧ yX4_giveEnd.cls ≠ "java/lang/invoke/VarHandle" ∧ (parseMethodDescriptor yX4_giveEnd.desc).map (fun d => d.parameters.length) = some 4 := by decide +kernel
set_option maxHeartbeats 4000000 in
set_option maxRecDepth 100000 in
theorem c_X4_giveEnd_4 (l : Launch) (D : va_G) (cI cJ cO : ClassId) (a : Nat → Nat) (t : MS) (p1 : Int32) (p2 : Int32) (p3 : Int32) {o : Int32 × MS} (h : fM_giveEnd mBu p1 p2 p3 t = some o) : Ct l D (tysA cI cJ cO) yX4_giveEnd wsX4_giveEnd (rmOf 3 73) [.ref (a 0), .int p1, .ref (a 4), .int p2, .int p3] (wM cI a t) (some (.int o.1)) (wM cI a o.2) := by
  refine Ct_of (own := RX4) cX4_giveEnd 8 (some .boolean) (by decide +kernel) rfl rfl (Nat.le_of_ble_eq_true rfl) ?_
  intro p e s m args below meth c A C hnm
  have iX4 : ∀ w ∈ u_ws RX4 TX4 16, w ∈ wsX4_giveEnd := fun w h => List.mem_cons_of_mem _ (List.mem_append_right _ h)
  have f7 : Cond.fieldLink RX4 7 (TX4 1).1 (TX4 1).2.1 (TX4 1).2.2.1 ∈ wsX4_giveEnd := List.mem_of_getElem? (i := 1) rfl
  have w_X4_placeFor := cwV (R := (rmOf 3 73)) (rm := rmOf 2 48) (s := s) (args := args) 3 C.1.2.2.2.2 gX4_giveEnd_X4_placeFor rfl rfl rfl hd_X4_placeFor ⟨Nat.le_of_ble_eq_true rfl, Nat.le_of_ble_eq_true rfl⟩
  have h := gw_top h
  unfold fM_giveEnd at h
  show gw_G p l e (rmOf 3 73) s m args below meth c D A (CtM D below (some (.int o.1)) (wM cI a o.2) A args s) 8 0 0 (wM cI a t) [(0, .ref (a 0)), (1, .int p1), (2, .ref (a 4)), (3, .int p2), (4, .int p3)] 0 []
  refine gw_aload_n C dX4_giveEnd_0 0 rfl ?_
  refine gw_aload_n C dX4_giveEnd_1 2 rfl ?_
  refine gw_iload_n C dX4_giveEnd_2 3 rfl ?_
  refine gw_iload C dX4_giveEnd_3 4 rfl ?_
  refine gw_bind h (fun q1 hq1 h => ?_)
  refine gw_whole (st2 := [.int q1]) C (run_V (rest := []) C (c_X4_placeFor_4 l D cI cJ cO a t p2 p3 hq1) w_X4_placeFor 0 3 rfl rfl rfl rfl rfl (Nat.le_of_ble_eq_true rfl) dX4_giveEnd_5 ⟨Nat.zero_le _, Nat.zero_le _⟩) rfl ?_
  refine gw_istore C dX4_giveEnd_8 [(5, .int q1), (0, .ref (a 0)), (1, .int p1), (2, .ref (a 4)), (3, .int p2), (4, .int p3)] (by decide) rfl ?_
  refine gw_iload C dX4_giveEnd_10 0 rfl ?_
  refine gw_iconst (v := (-1 : Int32)) C dX4_giveEnd_12 rfl ?_
  refine gw_icmp_ne (tgt := 18) C dX4_giveEnd_13 (by decide) h (fun c2 h => ?_) (fun c2 h => ?_)
  · refine gw_iconst (v := (0 : Int32)) C dX4_giveEnd_16 rfl ?_
    have h := gw_some h
    have ho := Option.some.inj h
    subst ho
    exact gw_zret C (Or.inl rfl) dX4_giveEnd_17
  · refine gw_sipush (v := (800 : Int32)) C dX4_giveEnd_18 rfl ?_
    refine gw_bipush (v := (14 : Int32)) C dX4_giveEnd_21 rfl ?_
    refine gw_iload C dX4_giveEnd_23 0 rfl ?_
    refine gw_imul C dX4_giveEnd_25 ?_
    refine gw_iadd C dX4_giveEnd_26 ?_
    refine gw_lt h (fun v3 ev3 h => ?_)
    rw [ev3]
    refine gw_istore C dX4_giveEnd_27 [(6, .int v3), (5, .int q1), (0, .ref (a 0)), (1, .int p1), (2, .ref (a 4)), (3, .int p2), (4, .int p3)] (by decide) rfl ?_
    refine gw_aload_n C dX4_giveEnd_29 2 rfl ?_
    refine gw_get C dX4_giveEnd_30 0 3 1 rfl rfl iX4 (by decide) f7 rfl ?_
    refine gw_iload C dX4_giveEnd_33 0 rfl ?_
    refine gw_dup2_11 C dX4_giveEnd_35 rfl rfl ?_
    refine gw_chk h (fun b4 h => ?_)
    refine gw_iald C dX4_giveEnd_36 1 0 rfl rfl b4 ?_
    refine gw_iconst (v := (1 : Int32)) C dX4_giveEnd_37 rfl ?_
    refine gw_iadd C dX4_giveEnd_38 ?_
    refine gw_chk h (fun b5 h => ?_)
    refine gw_lt h (fun t6 et6 h => ?_)
    refine gw_iast (ws' := wM cI a t6) C dX4_giveEnd_39 1 0 rfl rfl b5 (by subst et6; rfl) ?_
    refine gw_aload_n C dX4_giveEnd_40 2 rfl ?_
    refine gw_get C dX4_giveEnd_41 0 3 1 rfl rfl iX4 (by decide) f7 rfl ?_
    refine gw_iload C dX4_giveEnd_44 0 rfl ?_
    refine gw_iconst (v := (1 : Int32)) C dX4_giveEnd_46 rfl ?_
    refine gw_iadd C dX4_giveEnd_47 ?_
    refine gw_iload C dX4_giveEnd_48 6 rfl ?_
    refine gw_iload_n C dX4_giveEnd_50 5 rfl ?_
    refine gw_isub C dX4_giveEnd_51 ?_
    refine gw_chk h (fun b7 h => ?_)
    refine gw_lt h (fun t8 et8 h => ?_)
    refine gw_iast (ws' := wM cI a t8) C dX4_giveEnd_52 1 0 rfl rfl b7 (by subst et8; rfl) ?_
    refine gw_iconst (v := (0 : Int32)) C dX4_giveEnd_53 rfl ?_
    refine gw_istore C dX4_giveEnd_54 [(7, .int (0 : Int32)), (6, .int v3), (5, .int q1), (0, .ref (a 0)), (1, .int p1), (2, .ref (a 4)), (3, .int p2), (4, .int p3)] (by decide) rfl ?_
    refine gw_sub [3, 4, 5, 6, 7, 2, 1, 0] rfl ?_
    refine gw_lpb (x0 := ((0 : Int32), t8)) (Go := fun x9 : Int32 × MS => gw_G p l e (rmOf 3 73) s m args below meth c D A (CtM D below (some (.int o.1)) (wM cI a o.2) A args s) 8 0 0 (wM cI a x9.2) [(0, .ref (a 0)), (1, .int p1), (2, .ref (a 4)), (3, .int p2), (4, .int p3), (5, .int q1), (6, .int v3), (7, .int x9.1)] 56 []) (GoX := fun v9 : MS => gw_G p l e (rmOf 3 73) s m args below meth c D A (CtM D below (some (.int o.1)) (wM cI a o.2) A args s) 8 0 0 (wM cI a v9) [(0, .ref (a 0)), (1, .int p1), (5, .int q1)] 100 []) h (fun v9 h => ?_) (fun x9 K9 X9 I9 h => ?_)
    · refine gw_aload_n C dX4_giveEnd_100 0 rfl ?_
      refine gw_get C dX4_giveEnd_101 0 3 1 rfl rfl iX4 (by decide) f7 rfl ?_
      refine gw_sipush (v := (640 : Int32)) C dX4_giveEnd_104 rfl ?_
      refine gw_iload_n C dX4_giveEnd_107 1 rfl ?_
      refine gw_iadd C dX4_giveEnd_108 ?_
      refine gw_iload C dX4_giveEnd_109 2 rfl ?_
      refine gw_chk h (fun b16 h => ?_)
      refine gw_lt h (fun t17 et17 h => ?_)
      refine gw_iast (ws' := wM cI a t17) C dX4_giveEnd_111 1 0 rfl rfl b16 (by subst et17; rfl) ?_
      refine gw_iconst (v := (1 : Int32)) C dX4_giveEnd_112 rfl ?_
      have h := gw_some h
      have ho := Option.some.inj h
      subst ho
      exact gw_zret C (Or.inr rfl) dX4_giveEnd_113
    · refine gw_iload C dX4_giveEnd_56 7 rfl ?_
      refine gw_bipush (v := (12 : Int32)) C dX4_giveEnd_58 rfl ?_
      refine gw_icmp_ge (tgt := 100) C dX4_giveEnd_60 (by decide) h (fun c10 h => ?_) (fun c10 h => ?_)
      · refine gw_sub [0, 1, 5] rfl ?_
        have h := gw_some h
        exact X9 _ h
      · refine gw_aload_n C dX4_giveEnd_63 0 rfl ?_
        refine gw_get C dX4_giveEnd_64 0 3 1 rfl rfl iX4 (by decide) f7 rfl ?_
        refine gw_iload C dX4_giveEnd_67 6 rfl ?_
        refine gw_iconst (v := (2 : Int32)) C dX4_giveEnd_69 rfl ?_
        refine gw_iadd C dX4_giveEnd_70 ?_
        refine gw_iload C dX4_giveEnd_71 7 rfl ?_
        refine gw_iadd C dX4_giveEnd_73 ?_
        refine gw_iload_n C dX4_giveEnd_74 3 rfl ?_
        refine gw_iload C dX4_giveEnd_75 7 rfl ?_
        refine gw_iadd C dX4_giveEnd_77 ?_
        refine gw_iload C dX4_giveEnd_78 4 rfl ?_
        refine gw_lt h (fun j11 ej11 h => ?_)
        have J11 : ∀ v11 : Int32, Rs K9 o (j11 v11) → gw_G p l e (rmOf 3 73) s m args below meth c D A (CtM D below (some (.int o.1)) (wM cI a o.2) A args s) 8 0 0 (wM cI a x9.2) [(0, .ref (a 0)), (1, .int p1), (2, .ref (a 4)), (3, .int p2), (4, .int p3), (5, .int q1), (6, .int v3), (7, .int x9.1)] 93 [.int v11, .int ((v3 + (2 : Int32)) + x9.1), .ref (a 1)] := by
          intro v11 h
          have h := gw_app ej11 h
          refine gw_chk h (fun b14 h => ?_)
          refine gw_lt h (fun t15 et15 h => ?_)
          refine gw_iast (ws' := wM cI a t15) C dX4_giveEnd_93 1 0 rfl rfl b14 (by subst et15; rfl) ?_
          refine gw_iinc (v := (x9.1 + (1 : Int32))) C dX4_giveEnd_94 [(7, .int (x9.1 + (1 : Int32))), (0, .ref (a 0)), (1, .int p1), (2, .ref (a 4)), (3, .int p2), (4, .int p3), (5, .int q1), (6, .int v3)] 7 rfl rfl (by decide) rfl ?_
          refine gw_goto (tgt := 56) C dX4_giveEnd_97 (by decide) ?_
          refine gw_sub [1, 2, 3, 4, 5, 6, 7, 0] rfl ?_
          have h := gw_some h
          exact I9 _ h
        refine gw_icmp_ge (tgt := 92) C dX4_giveEnd_80 (by decide) h (fun c12 h => ?_) (fun c12 h => ?_)
        · refine gw_iconst (v := (0 : Int32)) C dX4_giveEnd_92 rfl ?_
          exact J11 _ h
        · refine gw_aload_n C dX4_giveEnd_83 2 rfl ?_
          refine gw_iload_n C dX4_giveEnd_84 3 rfl ?_
          refine gw_iload C dX4_giveEnd_85 7 rfl ?_
          refine gw_iadd C dX4_giveEnd_87 ?_
          refine gw_chk h (fun b13 h => ?_)
          refine gw_iald C dX4_giveEnd_88 4 0 rfl rfl b13 ?_
          refine gw_goto (tgt := 93) C dX4_giveEnd_89 (by decide) ?_
          exact J11 _ h
set_option maxHeartbeats 4000000 in
set_option maxRecDepth 100000 in
theorem c_X4_giveEnd_5 (l : Launch) (D : va_G) (cI cJ cO : ClassId) (a : Nat → Nat) (t : MS) (p1 : Int32) (p2 : Int32) (p3 : Int32) {o : Int32 × MS} (h : fM_giveEnd mOl p1 p2 p3 t = some o) : Ct l D (tysA cI cJ cO) yX4_giveEnd wsX4_giveEnd (rmOf 3 73) [.ref (a 0), .int p1, .ref (a 5), .int p2, .int p3] (wM cI a t) (some (.int o.1)) (wM cI a o.2) := by
  refine Ct_of (own := RX4) cX4_giveEnd 8 (some .boolean) (by decide +kernel) rfl rfl (Nat.le_of_ble_eq_true rfl) ?_
  intro p e s m args below meth c A C hnm
  have iX4 : ∀ w ∈ u_ws RX4 TX4 16, w ∈ wsX4_giveEnd := fun w h => List.mem_cons_of_mem _ (List.mem_append_right _ h)
  have f7 : Cond.fieldLink RX4 7 (TX4 1).1 (TX4 1).2.1 (TX4 1).2.2.1 ∈ wsX4_giveEnd := List.mem_of_getElem? (i := 1) rfl
  have w_X4_placeFor := cwV (R := (rmOf 3 73)) (rm := rmOf 2 48) (s := s) (args := args) 3 C.1.2.2.2.2 gX4_giveEnd_X4_placeFor rfl rfl rfl hd_X4_placeFor ⟨Nat.le_of_ble_eq_true rfl, Nat.le_of_ble_eq_true rfl⟩
  have h := gw_top h
  unfold fM_giveEnd at h
  show gw_G p l e (rmOf 3 73) s m args below meth c D A (CtM D below (some (.int o.1)) (wM cI a o.2) A args s) 8 0 0 (wM cI a t) [(0, .ref (a 0)), (1, .int p1), (2, .ref (a 5)), (3, .int p2), (4, .int p3)] 0 []
  refine gw_aload_n C dX4_giveEnd_0 0 rfl ?_
  refine gw_aload_n C dX4_giveEnd_1 2 rfl ?_
  refine gw_iload_n C dX4_giveEnd_2 3 rfl ?_
  refine gw_iload C dX4_giveEnd_3 4 rfl ?_
  refine gw_bind h (fun q1 hq1 h => ?_)
  refine gw_whole (st2 := [.int q1]) C (run_V (rest := []) C (c_X4_placeFor_5 l D cI cJ cO a t p2 p3 hq1) w_X4_placeFor 0 3 rfl rfl rfl rfl rfl (Nat.le_of_ble_eq_true rfl) dX4_giveEnd_5 ⟨Nat.zero_le _, Nat.zero_le _⟩) rfl ?_
  refine gw_istore C dX4_giveEnd_8 [(5, .int q1), (0, .ref (a 0)), (1, .int p1), (2, .ref (a 5)), (3, .int p2), (4, .int p3)] (by decide) rfl ?_
  refine gw_iload C dX4_giveEnd_10 0 rfl ?_
  refine gw_iconst (v := (-1 : Int32)) C dX4_giveEnd_12 rfl ?_
  refine gw_icmp_ne (tgt := 18) C dX4_giveEnd_13 (by decide) h (fun c2 h => ?_) (fun c2 h => ?_)
  · refine gw_iconst (v := (0 : Int32)) C dX4_giveEnd_16 rfl ?_
    have h := gw_some h
    have ho := Option.some.inj h
    subst ho
    exact gw_zret C (Or.inl rfl) dX4_giveEnd_17
  · refine gw_sipush (v := (800 : Int32)) C dX4_giveEnd_18 rfl ?_
    refine gw_bipush (v := (14 : Int32)) C dX4_giveEnd_21 rfl ?_
    refine gw_iload C dX4_giveEnd_23 0 rfl ?_
    refine gw_imul C dX4_giveEnd_25 ?_
    refine gw_iadd C dX4_giveEnd_26 ?_
    refine gw_lt h (fun v3 ev3 h => ?_)
    rw [ev3]
    refine gw_istore C dX4_giveEnd_27 [(6, .int v3), (5, .int q1), (0, .ref (a 0)), (1, .int p1), (2, .ref (a 5)), (3, .int p2), (4, .int p3)] (by decide) rfl ?_
    refine gw_aload_n C dX4_giveEnd_29 2 rfl ?_
    refine gw_get C dX4_giveEnd_30 0 3 1 rfl rfl iX4 (by decide) f7 rfl ?_
    refine gw_iload C dX4_giveEnd_33 0 rfl ?_
    refine gw_dup2_11 C dX4_giveEnd_35 rfl rfl ?_
    refine gw_chk h (fun b4 h => ?_)
    refine gw_iald C dX4_giveEnd_36 1 0 rfl rfl b4 ?_
    refine gw_iconst (v := (1 : Int32)) C dX4_giveEnd_37 rfl ?_
    refine gw_iadd C dX4_giveEnd_38 ?_
    refine gw_chk h (fun b5 h => ?_)
    refine gw_lt h (fun t6 et6 h => ?_)
    refine gw_iast (ws' := wM cI a t6) C dX4_giveEnd_39 1 0 rfl rfl b5 (by subst et6; rfl) ?_
    refine gw_aload_n C dX4_giveEnd_40 2 rfl ?_
    refine gw_get C dX4_giveEnd_41 0 3 1 rfl rfl iX4 (by decide) f7 rfl ?_
    refine gw_iload C dX4_giveEnd_44 0 rfl ?_
    refine gw_iconst (v := (1 : Int32)) C dX4_giveEnd_46 rfl ?_
    refine gw_iadd C dX4_giveEnd_47 ?_
    refine gw_iload C dX4_giveEnd_48 6 rfl ?_
    refine gw_iload_n C dX4_giveEnd_50 5 rfl ?_
    refine gw_isub C dX4_giveEnd_51 ?_
    refine gw_chk h (fun b7 h => ?_)
    refine gw_lt h (fun t8 et8 h => ?_)
    refine gw_iast (ws' := wM cI a t8) C dX4_giveEnd_52 1 0 rfl rfl b7 (by subst et8; rfl) ?_
    refine gw_iconst (v := (0 : Int32)) C dX4_giveEnd_53 rfl ?_
    refine gw_istore C dX4_giveEnd_54 [(7, .int (0 : Int32)), (6, .int v3), (5, .int q1), (0, .ref (a 0)), (1, .int p1), (2, .ref (a 5)), (3, .int p2), (4, .int p3)] (by decide) rfl ?_
    refine gw_sub [3, 4, 5, 6, 7, 2, 1, 0] rfl ?_
    refine gw_lpb (x0 := ((0 : Int32), t8)) (Go := fun x9 : Int32 × MS => gw_G p l e (rmOf 3 73) s m args below meth c D A (CtM D below (some (.int o.1)) (wM cI a o.2) A args s) 8 0 0 (wM cI a x9.2) [(0, .ref (a 0)), (1, .int p1), (2, .ref (a 5)), (3, .int p2), (4, .int p3), (5, .int q1), (6, .int v3), (7, .int x9.1)] 56 []) (GoX := fun v9 : MS => gw_G p l e (rmOf 3 73) s m args below meth c D A (CtM D below (some (.int o.1)) (wM cI a o.2) A args s) 8 0 0 (wM cI a v9) [(0, .ref (a 0)), (1, .int p1), (5, .int q1)] 100 []) h (fun v9 h => ?_) (fun x9 K9 X9 I9 h => ?_)
    · refine gw_aload_n C dX4_giveEnd_100 0 rfl ?_
      refine gw_get C dX4_giveEnd_101 0 3 1 rfl rfl iX4 (by decide) f7 rfl ?_
      refine gw_sipush (v := (640 : Int32)) C dX4_giveEnd_104 rfl ?_
      refine gw_iload_n C dX4_giveEnd_107 1 rfl ?_
      refine gw_iadd C dX4_giveEnd_108 ?_
      refine gw_iload C dX4_giveEnd_109 2 rfl ?_
      refine gw_chk h (fun b16 h => ?_)
      refine gw_lt h (fun t17 et17 h => ?_)
      refine gw_iast (ws' := wM cI a t17) C dX4_giveEnd_111 1 0 rfl rfl b16 (by subst et17; rfl) ?_
      refine gw_iconst (v := (1 : Int32)) C dX4_giveEnd_112 rfl ?_
      have h := gw_some h
      have ho := Option.some.inj h
      subst ho
      exact gw_zret C (Or.inr rfl) dX4_giveEnd_113
    · refine gw_iload C dX4_giveEnd_56 7 rfl ?_
      refine gw_bipush (v := (12 : Int32)) C dX4_giveEnd_58 rfl ?_
      refine gw_icmp_ge (tgt := 100) C dX4_giveEnd_60 (by decide) h (fun c10 h => ?_) (fun c10 h => ?_)
      · refine gw_sub [0, 1, 5] rfl ?_
        have h := gw_some h
        exact X9 _ h
      · refine gw_aload_n C dX4_giveEnd_63 0 rfl ?_
        refine gw_get C dX4_giveEnd_64 0 3 1 rfl rfl iX4 (by decide) f7 rfl ?_
        refine gw_iload C dX4_giveEnd_67 6 rfl ?_
        refine gw_iconst (v := (2 : Int32)) C dX4_giveEnd_69 rfl ?_
        refine gw_iadd C dX4_giveEnd_70 ?_
        refine gw_iload C dX4_giveEnd_71 7 rfl ?_
        refine gw_iadd C dX4_giveEnd_73 ?_
        refine gw_iload_n C dX4_giveEnd_74 3 rfl ?_
        refine gw_iload C dX4_giveEnd_75 7 rfl ?_
        refine gw_iadd C dX4_giveEnd_77 ?_
        refine gw_iload C dX4_giveEnd_78 4 rfl ?_
        refine gw_lt h (fun j11 ej11 h => ?_)
        have J11 : ∀ v11 : Int32, Rs K9 o (j11 v11) → gw_G p l e (rmOf 3 73) s m args below meth c D A (CtM D below (some (.int o.1)) (wM cI a o.2) A args s) 8 0 0 (wM cI a x9.2) [(0, .ref (a 0)), (1, .int p1), (2, .ref (a 5)), (3, .int p2), (4, .int p3), (5, .int q1), (6, .int v3), (7, .int x9.1)] 93 [.int v11, .int ((v3 + (2 : Int32)) + x9.1), .ref (a 1)] := by
          intro v11 h
          have h := gw_app ej11 h
          refine gw_chk h (fun b14 h => ?_)
          refine gw_lt h (fun t15 et15 h => ?_)
          refine gw_iast (ws' := wM cI a t15) C dX4_giveEnd_93 1 0 rfl rfl b14 (by subst et15; rfl) ?_
          refine gw_iinc (v := (x9.1 + (1 : Int32))) C dX4_giveEnd_94 [(7, .int (x9.1 + (1 : Int32))), (0, .ref (a 0)), (1, .int p1), (2, .ref (a 5)), (3, .int p2), (4, .int p3), (5, .int q1), (6, .int v3)] 7 rfl rfl (by decide) rfl ?_
          refine gw_goto (tgt := 56) C dX4_giveEnd_97 (by decide) ?_
          refine gw_sub [1, 2, 3, 4, 5, 6, 7, 0] rfl ?_
          have h := gw_some h
          exact I9 _ h
        refine gw_icmp_ge (tgt := 92) C dX4_giveEnd_80 (by decide) h (fun c12 h => ?_) (fun c12 h => ?_)
        · refine gw_iconst (v := (0 : Int32)) C dX4_giveEnd_92 rfl ?_
          exact J11 _ h
        · refine gw_aload_n C dX4_giveEnd_83 2 rfl ?_
          refine gw_iload_n C dX4_giveEnd_84 3 rfl ?_
          refine gw_iload C dX4_giveEnd_85 7 rfl ?_
          refine gw_iadd C dX4_giveEnd_87 ?_
          refine gw_chk h (fun b13 h => ?_)
          refine gw_iald C dX4_giveEnd_88 5 0 rfl rfl b13 ?_
          refine gw_goto (tgt := 93) C dX4_giveEnd_89 (by decide) ?_
          exact J11 _ h
set_option maxHeartbeats 4000000 in
set_option maxRecDepth 100000 in
theorem c_X4_giveEnd_9 (l : Launch) (D : va_G) (cI cJ cO : ClassId) (a : Nat → Nat) (t : MS) (p1 : Int32) (p2 : Int32) (p3 : Int32) {o : Int32 × MS} (h : fM_giveEnd mRo p1 p2 p3 t = some o) : Ct l D (tysA cI cJ cO) yX4_giveEnd wsX4_giveEnd (rmOf 3 73) [.ref (a 0), .int p1, .ref (a 9), .int p2, .int p3] (wM cI a t) (some (.int o.1)) (wM cI a o.2) := by
  refine Ct_of (own := RX4) cX4_giveEnd 8 (some .boolean) (by decide +kernel) rfl rfl (Nat.le_of_ble_eq_true rfl) ?_
  intro p e s m args below meth c A C hnm
  have iX4 : ∀ w ∈ u_ws RX4 TX4 16, w ∈ wsX4_giveEnd := fun w h => List.mem_cons_of_mem _ (List.mem_append_right _ h)
  have f7 : Cond.fieldLink RX4 7 (TX4 1).1 (TX4 1).2.1 (TX4 1).2.2.1 ∈ wsX4_giveEnd := List.mem_of_getElem? (i := 1) rfl
  have w_X4_placeFor := cwV (R := (rmOf 3 73)) (rm := rmOf 2 48) (s := s) (args := args) 3 C.1.2.2.2.2 gX4_giveEnd_X4_placeFor rfl rfl rfl hd_X4_placeFor ⟨Nat.le_of_ble_eq_true rfl, Nat.le_of_ble_eq_true rfl⟩
  have h := gw_top h
  unfold fM_giveEnd at h
  show gw_G p l e (rmOf 3 73) s m args below meth c D A (CtM D below (some (.int o.1)) (wM cI a o.2) A args s) 8 0 0 (wM cI a t) [(0, .ref (a 0)), (1, .int p1), (2, .ref (a 9)), (3, .int p2), (4, .int p3)] 0 []
  refine gw_aload_n C dX4_giveEnd_0 0 rfl ?_
  refine gw_aload_n C dX4_giveEnd_1 2 rfl ?_
  refine gw_iload_n C dX4_giveEnd_2 3 rfl ?_
  refine gw_iload C dX4_giveEnd_3 4 rfl ?_
  refine gw_bind h (fun q1 hq1 h => ?_)
  refine gw_whole (st2 := [.int q1]) C (run_V (rest := []) C (c_X4_placeFor_9 l D cI cJ cO a t p2 p3 hq1) w_X4_placeFor 0 3 rfl rfl rfl rfl rfl (Nat.le_of_ble_eq_true rfl) dX4_giveEnd_5 ⟨Nat.zero_le _, Nat.zero_le _⟩) rfl ?_
  refine gw_istore C dX4_giveEnd_8 [(5, .int q1), (0, .ref (a 0)), (1, .int p1), (2, .ref (a 9)), (3, .int p2), (4, .int p3)] (by decide) rfl ?_
  refine gw_iload C dX4_giveEnd_10 0 rfl ?_
  refine gw_iconst (v := (-1 : Int32)) C dX4_giveEnd_12 rfl ?_
  refine gw_icmp_ne (tgt := 18) C dX4_giveEnd_13 (by decide) h (fun c2 h => ?_) (fun c2 h => ?_)
  · refine gw_iconst (v := (0 : Int32)) C dX4_giveEnd_16 rfl ?_
    have h := gw_some h
    have ho := Option.some.inj h
    subst ho
    exact gw_zret C (Or.inl rfl) dX4_giveEnd_17
  · refine gw_sipush (v := (800 : Int32)) C dX4_giveEnd_18 rfl ?_
    refine gw_bipush (v := (14 : Int32)) C dX4_giveEnd_21 rfl ?_
    refine gw_iload C dX4_giveEnd_23 0 rfl ?_
    refine gw_imul C dX4_giveEnd_25 ?_
    refine gw_iadd C dX4_giveEnd_26 ?_
    refine gw_lt h (fun v3 ev3 h => ?_)
    rw [ev3]
    refine gw_istore C dX4_giveEnd_27 [(6, .int v3), (5, .int q1), (0, .ref (a 0)), (1, .int p1), (2, .ref (a 9)), (3, .int p2), (4, .int p3)] (by decide) rfl ?_
    refine gw_aload_n C dX4_giveEnd_29 2 rfl ?_
    refine gw_get C dX4_giveEnd_30 0 3 1 rfl rfl iX4 (by decide) f7 rfl ?_
    refine gw_iload C dX4_giveEnd_33 0 rfl ?_
    refine gw_dup2_11 C dX4_giveEnd_35 rfl rfl ?_
    refine gw_chk h (fun b4 h => ?_)
    refine gw_iald C dX4_giveEnd_36 1 0 rfl rfl b4 ?_
    refine gw_iconst (v := (1 : Int32)) C dX4_giveEnd_37 rfl ?_
    refine gw_iadd C dX4_giveEnd_38 ?_
    refine gw_chk h (fun b5 h => ?_)
    refine gw_lt h (fun t6 et6 h => ?_)
    refine gw_iast (ws' := wM cI a t6) C dX4_giveEnd_39 1 0 rfl rfl b5 (by subst et6; rfl) ?_
    refine gw_aload_n C dX4_giveEnd_40 2 rfl ?_
    refine gw_get C dX4_giveEnd_41 0 3 1 rfl rfl iX4 (by decide) f7 rfl ?_
    refine gw_iload C dX4_giveEnd_44 0 rfl ?_
    refine gw_iconst (v := (1 : Int32)) C dX4_giveEnd_46 rfl ?_
    refine gw_iadd C dX4_giveEnd_47 ?_
    refine gw_iload C dX4_giveEnd_48 6 rfl ?_
    refine gw_iload_n C dX4_giveEnd_50 5 rfl ?_
    refine gw_isub C dX4_giveEnd_51 ?_
    refine gw_chk h (fun b7 h => ?_)
    refine gw_lt h (fun t8 et8 h => ?_)
    refine gw_iast (ws' := wM cI a t8) C dX4_giveEnd_52 1 0 rfl rfl b7 (by subst et8; rfl) ?_
    refine gw_iconst (v := (0 : Int32)) C dX4_giveEnd_53 rfl ?_
    refine gw_istore C dX4_giveEnd_54 [(7, .int (0 : Int32)), (6, .int v3), (5, .int q1), (0, .ref (a 0)), (1, .int p1), (2, .ref (a 9)), (3, .int p2), (4, .int p3)] (by decide) rfl ?_
    refine gw_sub [3, 4, 5, 6, 7, 2, 1, 0] rfl ?_
    refine gw_lpb (x0 := ((0 : Int32), t8)) (Go := fun x9 : Int32 × MS => gw_G p l e (rmOf 3 73) s m args below meth c D A (CtM D below (some (.int o.1)) (wM cI a o.2) A args s) 8 0 0 (wM cI a x9.2) [(0, .ref (a 0)), (1, .int p1), (2, .ref (a 9)), (3, .int p2), (4, .int p3), (5, .int q1), (6, .int v3), (7, .int x9.1)] 56 []) (GoX := fun v9 : MS => gw_G p l e (rmOf 3 73) s m args below meth c D A (CtM D below (some (.int o.1)) (wM cI a o.2) A args s) 8 0 0 (wM cI a v9) [(0, .ref (a 0)), (1, .int p1), (5, .int q1)] 100 []) h (fun v9 h => ?_) (fun x9 K9 X9 I9 h => ?_)
    · refine gw_aload_n C dX4_giveEnd_100 0 rfl ?_
      refine gw_get C dX4_giveEnd_101 0 3 1 rfl rfl iX4 (by decide) f7 rfl ?_
      refine gw_sipush (v := (640 : Int32)) C dX4_giveEnd_104 rfl ?_
      refine gw_iload_n C dX4_giveEnd_107 1 rfl ?_
      refine gw_iadd C dX4_giveEnd_108 ?_
      refine gw_iload C dX4_giveEnd_109 2 rfl ?_
      refine gw_chk h (fun b16 h => ?_)
      refine gw_lt h (fun t17 et17 h => ?_)
      refine gw_iast (ws' := wM cI a t17) C dX4_giveEnd_111 1 0 rfl rfl b16 (by subst et17; rfl) ?_
      refine gw_iconst (v := (1 : Int32)) C dX4_giveEnd_112 rfl ?_
      have h := gw_some h
      have ho := Option.some.inj h
      subst ho
      exact gw_zret C (Or.inr rfl) dX4_giveEnd_113
    · refine gw_iload C dX4_giveEnd_56 7 rfl ?_
      refine gw_bipush (v := (12 : Int32)) C dX4_giveEnd_58 rfl ?_
      refine gw_icmp_ge (tgt := 100) C dX4_giveEnd_60 (by decide) h (fun c10 h => ?_) (fun c10 h => ?_)
      · refine gw_sub [0, 1, 5] rfl ?_
        have h := gw_some h
        exact X9 _ h
      · refine gw_aload_n C dX4_giveEnd_63 0 rfl ?_
        refine gw_get C dX4_giveEnd_64 0 3 1 rfl rfl iX4 (by decide) f7 rfl ?_
        refine gw_iload C dX4_giveEnd_67 6 rfl ?_
        refine gw_iconst (v := (2 : Int32)) C dX4_giveEnd_69 rfl ?_
        refine gw_iadd C dX4_giveEnd_70 ?_
        refine gw_iload C dX4_giveEnd_71 7 rfl ?_
        refine gw_iadd C dX4_giveEnd_73 ?_
        refine gw_iload_n C dX4_giveEnd_74 3 rfl ?_
        refine gw_iload C dX4_giveEnd_75 7 rfl ?_
        refine gw_iadd C dX4_giveEnd_77 ?_
        refine gw_iload C dX4_giveEnd_78 4 rfl ?_
        refine gw_lt h (fun j11 ej11 h => ?_)
        have J11 : ∀ v11 : Int32, Rs K9 o (j11 v11) → gw_G p l e (rmOf 3 73) s m args below meth c D A (CtM D below (some (.int o.1)) (wM cI a o.2) A args s) 8 0 0 (wM cI a x9.2) [(0, .ref (a 0)), (1, .int p1), (2, .ref (a 9)), (3, .int p2), (4, .int p3), (5, .int q1), (6, .int v3), (7, .int x9.1)] 93 [.int v11, .int ((v3 + (2 : Int32)) + x9.1), .ref (a 1)] := by
          intro v11 h
          have h := gw_app ej11 h
          refine gw_chk h (fun b14 h => ?_)
          refine gw_lt h (fun t15 et15 h => ?_)
          refine gw_iast (ws' := wM cI a t15) C dX4_giveEnd_93 1 0 rfl rfl b14 (by subst et15; rfl) ?_
          refine gw_iinc (v := (x9.1 + (1 : Int32))) C dX4_giveEnd_94 [(7, .int (x9.1 + (1 : Int32))), (0, .ref (a 0)), (1, .int p1), (2, .ref (a 9)), (3, .int p2), (4, .int p3), (5, .int q1), (6, .int v3)] 7 rfl rfl (by decide) rfl ?_
          refine gw_goto (tgt := 56) C dX4_giveEnd_97 (by decide) ?_
          refine gw_sub [1, 2, 3, 4, 5, 6, 7, 0] rfl ?_
          have h := gw_some h
          exact I9 _ h
        refine gw_icmp_ge (tgt := 92) C dX4_giveEnd_80 (by decide) h (fun c12 h => ?_) (fun c12 h => ?_)
        · refine gw_iconst (v := (0 : Int32)) C dX4_giveEnd_92 rfl ?_
          exact J11 _ h
        · refine gw_aload_n C dX4_giveEnd_83 2 rfl ?_
          refine gw_iload_n C dX4_giveEnd_84 3 rfl ?_
          refine gw_iload C dX4_giveEnd_85 7 rfl ?_
          refine gw_iadd C dX4_giveEnd_87 ?_
          refine gw_chk h (fun b13 h => ?_)
          refine gw_iald C dX4_giveEnd_88 9 0 rfl rfl b13 ?_
          refine gw_goto (tgt := 93) C dX4_giveEnd_89 (by decide) ?_
          exact J11 _ h
theorem hd_X4_dropEnd : yX4_dropEnd.cls = RX4 ∧ yX4_dropEnd.cls ≠ "java/lang/invoke/MethodHandle" ∧ yX4_dropEnd.cls ≠ "java/lang/invoke/VarHandle" ∧ (parseMethodDescriptor yX4_dropEnd.desc).map (fun d => d.parameters.length) = some 1 := by decide +kernel
set_option maxHeartbeats 4000000 in
set_option maxRecDepth 100000 in
theorem c_X4_dropEnd (l : Launch) (D : va_G) (cI cJ cO : ClassId) (a : Nat → Nat) (t : MS) (p1 : Int32) {o : MS} (h : fM_dropEnd p1 t = some o) : Ct l D (tysA cI cJ cO) yX4_dropEnd wsX4_dropEnd (rmOf 0 0) [.ref (a 0), .int p1] (wM cI a t) none (wM cI a o) := by
  refine Ct_of (own := RX4) cX4_dropEnd 4 none (by decide +kernel) rfl rfl (Nat.le_of_ble_eq_true rfl) ?_
  intro p e s m args below meth c A C hnm
  have iX4 : ∀ w ∈ u_ws RX4 TX4 16, w ∈ wsX4_dropEnd := fun w h => List.mem_cons_of_mem _ (List.mem_append_right _ h)
  have f7 : Cond.fieldLink RX4 7 (TX4 1).1 (TX4 1).2.1 (TX4 1).2.2.1 ∈ wsX4_dropEnd := List.mem_of_getElem? (i := 1) rfl
  have h := gw_top h
  unfold fM_dropEnd at h
  show gw_G p l e (rmOf 0 0) s m args below meth c D A (CtM D below none (wM cI a o) A args s) 4 0 0 (wM cI a t) [(0, .ref (a 0)), (1, .int p1)] 0 []
  refine gw_sipush (v := (800 : Int32)) C dX4_dropEnd_0 rfl ?_
  refine gw_bipush (v := (14 : Int32)) C dX4_dropEnd_3 rfl ?_
  refine gw_aload_n C dX4_dropEnd_5 0 rfl ?_
  refine gw_get C dX4_dropEnd_6 0 3 1 rfl rfl iX4 (by decide) f7 rfl ?_
  refine gw_sipush (v := (640 : Int32)) C dX4_dropEnd_9 rfl ?_
  refine gw_iload_n C dX4_dropEnd_12 1 rfl ?_
  refine gw_iadd C dX4_dropEnd_13 ?_
  refine gw_chk h (fun b1 h => ?_)
  refine gw_iald C dX4_dropEnd_14 1 0 rfl rfl b1 ?_
  refine gw_imul C dX4_dropEnd_15 ?_
  refine gw_iadd C dX4_dropEnd_16 ?_
  refine gw_lt h (fun v2 ev2 h => ?_)
  rw [ev2]
  refine gw_istore_n C dX4_dropEnd_17 [(2, .int v2), (0, .ref (a 0)), (1, .int p1)] rfl (by decide) rfl ?_
  refine gw_aload_n C dX4_dropEnd_18 1 rfl ?_
  refine gw_get C dX4_dropEnd_19 0 3 1 rfl rfl iX4 (by decide) f7 rfl ?_
  refine gw_sipush (v := (640 : Int32)) C dX4_dropEnd_22 rfl ?_
  refine gw_iload_n C dX4_dropEnd_25 2 rfl ?_
  refine gw_iadd C dX4_dropEnd_26 ?_
  refine gw_iconst (v := (-1 : Int32)) C dX4_dropEnd_27 rfl ?_
  refine gw_chk h (fun b3 h => ?_)
  refine gw_lt h (fun t4 et4 h => ?_)
  refine gw_iast (ws' := wM cI a t4) C dX4_dropEnd_28 1 0 rfl rfl b3 (by subst et4; rfl) ?_
  refine gw_aload_n C dX4_dropEnd_29 1 rfl ?_
  refine gw_get C dX4_dropEnd_30 0 3 1 rfl rfl iX4 (by decide) f7 rfl ?_
  refine gw_iload_n C dX4_dropEnd_33 0 rfl ?_
  refine gw_dup2_11 C dX4_dropEnd_34 rfl rfl ?_
  refine gw_chk h (fun b5 h => ?_)
  refine gw_iald C dX4_dropEnd_35 1 0 rfl rfl b5 ?_
  refine gw_iconst (v := (1 : Int32)) C dX4_dropEnd_36 rfl ?_
  refine gw_isub C dX4_dropEnd_37 ?_
  refine gw_chk h (fun b6 h => ?_)
  refine gw_lt h (fun t7 et7 h => ?_)
  refine gw_iast (ws' := wM cI a t7) C dX4_dropEnd_38 1 0 rfl rfl b6 (by subst et7; rfl) ?_
  refine gw_iconst (v := (1 : Int32)) C dX4_dropEnd_39 rfl ?_
  refine gw_istore_n C dX4_dropEnd_40 [(3, .int (1 : Int32)), (2, .int v2), (0, .ref (a 0)), (1, .int p1)] rfl (by decide) rfl ?_
  refine gw_sub [2, 1, 0] rfl ?_
  refine gw_lpb (x0 := ((1 : Int32), t7)) (Go := fun x8 : Int32 × MS => gw_G p l e (rmOf 0 0) s m args below meth c D A (CtM D below none (wM cI a o) A args s) 4 0 0 (wM cI a x8.2) [(0, .ref (a 0)), (2, .int v2), (3, .int x8.1)] 41 []) (GoX := fun v8 : MS => gw_G p l e (rmOf 0 0) s m args below meth c D A (CtM D below none (wM cI a o) A args s) 4 0 0 (wM cI a v8) [] 71 []) h (fun v8 h => ?_) (fun x8 K8 X8 I8 h => ?_)
  · have h := gw_some h
    have ho := Option.some.inj h
    subst ho
    exact gw_vret C dX4_dropEnd_71
  · refine gw_iload_n C dX4_dropEnd_41 2 rfl ?_
    refine gw_bipush (v := (14 : Int32)) C dX4_dropEnd_42 rfl ?_
    refine gw_icmp_ge (tgt := 71) C dX4_dropEnd_44 (by decide) h (fun c9 h => ?_) (fun c9 h => ?_)
    · refine gw_sub [] rfl ?_
      have h := gw_some h
      exact X8 _ h
    · refine gw_aload_n C dX4_dropEnd_47 0 rfl ?_
      refine gw_get C dX4_dropEnd_48 0 3 1 rfl rfl iX4 (by decide) f7 rfl ?_
      refine gw_iload_n C dX4_dropEnd_51 1 rfl ?_
      refine gw_chk h (fun b10 h => ?_)
      refine gw_iald C dX4_dropEnd_52 1 0 rfl rfl b10 ?_
      refine gw_if_ne (tgt := 71) C dX4_dropEnd_53 (by decide) h (fun c11 h => ?_) (fun c11 h => ?_)
      · refine gw_aload_n C dX4_dropEnd_56 0 rfl ?_
        refine gw_get C dX4_dropEnd_57 0 3 1 rfl rfl iX4 (by decide) f7 rfl ?_
        refine gw_iload_n C dX4_dropEnd_60 1 rfl ?_
        refine gw_iload_n C dX4_dropEnd_61 2 rfl ?_
        refine gw_iadd C dX4_dropEnd_62 ?_
        refine gw_iconst (v := (0 : Int32)) C dX4_dropEnd_63 rfl ?_
        refine gw_chk h (fun b12 h => ?_)
        refine gw_lt h (fun t13 et13 h => ?_)
        refine gw_iast (ws' := wM cI a t13) C dX4_dropEnd_64 1 0 rfl rfl b12 (by subst et13; rfl) ?_
        refine gw_iinc (v := (x8.1 + (1 : Int32))) C dX4_dropEnd_65 [(3, .int (x8.1 + (1 : Int32))), (0, .ref (a 0)), (2, .int v2)] 2 rfl rfl (by decide) rfl ?_
        refine gw_goto (tgt := 41) C dX4_dropEnd_68 (by decide) ?_
        refine gw_sub [1, 2, 0] rfl ?_
        have h := gw_some h
        exact I8 _ h
      · refine gw_sub [] rfl ?_
        have h := gw_some h
        exact X8 _ h
theorem hd_X4_addLeaf : yX4_addLeaf.cls = RX4 ∧ yX4_addLeaf.cls ≠ "java/lang/invoke/MethodHandle" ∧ yX4_addLeaf.cls ≠ "java/lang/invoke/VarHandle" ∧ (parseMethodDescriptor yX4_addLeaf.desc).map (fun d => d.parameters.length) = some 5 := by decide +kernel
set_option maxHeartbeats 4000000 in
set_option maxRecDepth 100000 in
theorem c_X4_addLeaf_4 (l : Launch) (D : va_G) (cI cJ cO : ClassId) (a : Nat → Nat) (t : MS) (p1 : Int32) (p2 : Int32) (p3 : Int32) (p4 : Int32) {o : Int32 × MS} (h : fM_addLeaf mBu p1 p2 p3 p4 t = some o) : Ct l D (tysA cI cJ cO) yX4_addLeaf wsX4_addLeaf (rmOf 5 126) [.ref (a 0), .int p1, .int p2, .ref (a 4), .int p3, .int p4] (wM cI a t) (some (.int o.1)) (wM cI a o.2) := by
  refine Ct_of (own := RX4) cX4_addLeaf 7 (some .int) (by decide +kernel) rfl rfl (Nat.le_of_ble_eq_true rfl) ?_
  intro p e s m args below meth c A C hnm
  have iX4 : ∀ w ∈ u_ws RX4 TX4 16, w ∈ wsX4_addLeaf := fun w h => List.mem_cons_of_mem _ (List.mem_append_right _ h)
  have f110 : Cond.fieldLink RX4 110 (TX4 8).1 (TX4 8).2.1 (TX4 8).2.2.1 ∈ wsX4_addLeaf := List.mem_of_getElem? (i := 1) rfl
  have w_X4_giveEnd := cwV (R := (rmOf 5 126)) (rm := rmOf 3 73) (s := s) (args := args) 4 C.1.2.2.2.2 gX4_addLeaf_X4_giveEnd rfl rfl rfl hd_X4_giveEnd ⟨Nat.le_of_ble_eq_true rfl, Nat.le_of_ble_eq_true rfl⟩
  have w_X4_makeRoom := cwV (R := (rmOf 5 126)) (rm := rmOf 4 96) (s := s) (args := args) 2 C.1.2.2.2.2 gX4_addLeaf_X4_makeRoom rfl rfl rfl hd_X4_makeRoom ⟨Nat.le_of_ble_eq_true rfl, Nat.le_of_ble_eq_true rfl⟩
  have w_X4_offset := cwV (R := (rmOf 5 126)) (rm := rmOf 0 0) (s := s) (args := args) 1 C.1.2.2.2.2 gX4_addLeaf_X4_offset rfl rfl rfl hd_X4_offset ⟨Nat.le_of_ble_eq_true rfl, Nat.le_of_ble_eq_true rfl⟩
  have w_X4_open := cwV (R := (rmOf 5 126)) (rm := rmOf 3 68) (s := s) (args := args) 2 C.1.2.2.2.2 gX4_addLeaf_X4_open rfl rfl rfl hd_X4_open ⟨Nat.le_of_ble_eq_true rfl, Nat.le_of_ble_eq_true rfl⟩
  have w_X4_putChild := cwV (R := (rmOf 5 126)) (rm := rmOf 1 21) (s := s) (args := args) 3 C.1.2.2.2.2 gX4_addLeaf_X4_putChild rfl rfl rfl hd_X4_putChild ⟨Nat.le_of_ble_eq_true rfl, Nat.le_of_ble_eq_true rfl⟩
  have h := gw_top h
  unfold fM_addLeaf at h
  show gw_G p l e (rmOf 5 126) s m args below meth c D A (CtM D below (some (.int o.1)) (wM cI a o.2) A args s) 7 0 0 (wM cI a t) [(0, .ref (a 0)), (1, .int p1), (2, .int p2), (3, .ref (a 4)), (4, .int p3), (5, .int p4)] 0 []
  refine gw_iload_n C dX4_addLeaf_0 1 rfl ?_
  refine gw_istore C dX4_addLeaf_1 [(6, .int p1), (0, .ref (a 0)), (1, .int p1), (2, .int p2), (3, .ref (a 4)), (4, .int p3), (5, .int p4)] (by decide) rfl ?_
  refine gw_aload_n C dX4_addLeaf_3 1 rfl ?_
  refine gw_iload_n C dX4_addLeaf_4 2 rfl ?_
  refine gw_bind h (fun q1 hq1 h => ?_)
  refine gw_whole (st2 := [.int q1]) C (run_V (rest := []) C (c_X4_offset l D cI cJ cO a t p1 hq1) w_X4_offset 0 3 rfl rfl rfl rfl rfl (Nat.le_of_ble_eq_true rfl) dX4_addLeaf_5 ⟨Nat.zero_le _, Nat.zero_le _⟩) rfl ?_
  refine gw_lt h (fun j2 ej2 h => ?_)
  have J2 : ∀ v2 : Int32 × MS, Rs some o (j2 v2) → gw_G p l e (rmOf 5 126) s m args below meth c D A (CtM D below (some (.int o.1)) (wM cI a o.2) A args s) 7 0 0 (wM cI a v2.2) [(0, .ref (a 0)), (2, .int p2), (3, .ref (a 4)), (4, .int p3), (5, .int p4), (6, .int v2.1)] 40 [] := by
    intro v2 h
    have h := gw_app ej2 h
    refine gw_iload C dX4_addLeaf_40 5 rfl ?_
    refine gw_iconst (v := (-1 : Int32)) C dX4_addLeaf_42 rfl ?_
    refine gw_icmp_ne (tgt := 48) C dX4_addLeaf_43 (by decide) h (fun c8 h => ?_) (fun c8 h => ?_)
    · refine gw_iconst (v := (2 : Int32)) C dX4_addLeaf_46 rfl ?_
      have h := gw_some h
      have ho := Option.some.inj h
      subst ho
      exact gw_iret C dX4_addLeaf_47
    · refine gw_aload_n C dX4_addLeaf_48 0 rfl ?_
      refine gw_aload_n C dX4_addLeaf_49 0 rfl ?_
      refine gw_iload C dX4_addLeaf_50 5 rfl ?_
      refine gw_iload_n C dX4_addLeaf_52 1 rfl ?_
      refine gw_iconst (v := (2 : Int32)) C dX4_addLeaf_53 rfl ?_
      refine gw_bind h (fun q9 hq9 h => ?_)
      refine gw_whole (st2 := [.int q9.1, .ref (a 0)]) C (run_V (rest := [.ref (a 0)]) C (c_X4_putChild l D cI cJ cO a v2.2 v2.1 p2 (2 : Int32) hq9) w_X4_putChild 0 3 rfl rfl rfl rfl rfl (Nat.le_of_ble_eq_true rfl) dX4_addLeaf_54 ⟨Nat.zero_le _, Nat.zero_le _⟩) rfl ?_
      refine gw_lt h (fun t10 et10 h => ?_)
      refine gw_put (ws' := wM cI a t10) (ty := .int) C dX4_addLeaf_57 0 3 8 tyX4 tyX4_ok nmX4 rfl rfl iX4 (by decide) f110 rfl (tyX4_ok 8 (by decide)) rfl rfl (Nat.le_of_ble_eq_true rfl) (by subst et10; rfl) ?_
      refine gw_aload_n C dX4_addLeaf_60 0 rfl ?_
      refine gw_aload_n C dX4_addLeaf_61 0 rfl ?_
      refine gw_get C dX4_addLeaf_62 0 3 8 rfl rfl iX4 (by decide) f110 rfl ?_
      refine gw_aload_n C dX4_addLeaf_65 2 rfl ?_
      refine gw_iload C dX4_addLeaf_66 3 rfl ?_
      refine gw_iload C dX4_addLeaf_68 4 rfl ?_
      refine gw_lt h (fun j11 ej11 h => ?_)
      have J11 : ∀ v11 : Int32, Rs some o (j11 v11) → gw_G p l e (rmOf 5 126) s m args below meth c D A (CtM D below (some (.int o.1)) (wM cI a o.2) A args s) 7 0 0 (wM cI a t10) [(5, .int p4)] 82 [.int v11, .ref (a 4), .int (mLn t10), .ref (a 0)] := by
        intro v11 h
        have h := gw_app ej11 h
        refine gw_iload C dX4_addLeaf_82 0 rfl ?_
        refine gw_bind h (fun q13 hq13 h => ?_)
        refine gw_whole (st2 := [.int q13.1]) C (run_V (rest := []) C (c_X4_giveEnd_4 l D cI cJ cO a t10 (mLn t10) v11 p4 hq13) w_X4_giveEnd 0 3 rfl rfl rfl rfl rfl (Nat.le_of_ble_eq_true rfl) dX4_addLeaf_84 ⟨Nat.zero_le _, Nat.zero_le _⟩) rfl ?_
        refine gw_if_eq (tgt := 94) C dX4_addLeaf_87 (by decide) h (fun c14 h => ?_) (fun c14 h => ?_)
        · refine gw_iconst (v := (2 : Int32)) C dX4_addLeaf_94 rfl ?_
          have h := gw_some h
          have ho := Option.some.inj h
          subst ho
          exact gw_iret C dX4_addLeaf_95
        · refine gw_iconst (v := (0 : Int32)) C dX4_addLeaf_90 rfl ?_
          refine gw_goto (tgt := 95) C dX4_addLeaf_91 (by decide) ?_
          have h := gw_some h
          have ho := Option.some.inj h
          subst ho
          exact gw_iret C dX4_addLeaf_95
      refine gw_icmp_ge (tgt := 80) C dX4_addLeaf_70 (by decide) h (fun c12 h => ?_) (fun c12 h => ?_)
      · refine gw_iload C dX4_addLeaf_80 4 rfl ?_
        refine gw_sub [4] rfl ?_
        exact J11 _ h
      · refine gw_iload C dX4_addLeaf_73 3 rfl ?_
        refine gw_iconst (v := (1 : Int32)) C dX4_addLeaf_75 rfl ?_
        refine gw_iadd C dX4_addLeaf_76 ?_
        refine gw_goto (tgt := 82) C dX4_addLeaf_77 (by decide) ?_
        refine gw_sub [4] rfl ?_
        exact J11 _ h
  refine gw_if_ne (tgt := 32) C dX4_addLeaf_8 (by decide) h (fun c3 h => ?_) (fun c3 h => ?_)
  · refine gw_aload_n C dX4_addLeaf_11 1 rfl ?_
    refine gw_iload_n C dX4_addLeaf_12 2 rfl ?_
    refine gw_iconst (v := (1 : Int32)) C dX4_addLeaf_13 rfl ?_
    refine gw_iload_n C dX4_addLeaf_14 3 rfl ?_
    refine gw_ishl C dX4_addLeaf_15 ?_
    refine gw_bind h (fun q4 hq4 h => ?_)
    refine gw_whole (st2 := [.int q4.1]) C (run_V (rest := []) C (c_X4_open l D cI cJ cO a t p1 ((1 : Int32) <<< (p2 &&& 31)) hq4) w_X4_open 0 3 rfl rfl rfl rfl rfl (Nat.le_of_ble_eq_true rfl) dX4_addLeaf_16 ⟨Nat.zero_le _, Nat.zero_le _⟩) rfl ?_
    refine gw_lt h (fun j5 ej5 h => ?_)
    have J5 : ∀ v5 : Int32, Rs some o (j5 v5) → gw_G p l e (rmOf 5 126) s m args below meth c D A (CtM D below (some (.int o.1)) (wM cI a o.2) A args s) 7 0 0 (wM cI a q4.2) [(0, .ref (a 0)), (2, .int p2), (3, .ref (a 4)), (4, .int p3), (5, .int p4)] 27 [.int v5] := by
      intro v5 h
      have h := gw_app ej5 h
      refine gw_istore C dX4_addLeaf_27 [(6, .int v5), (0, .ref (a 0)), (2, .int p2), (3, .ref (a 4)), (4, .int p3), (5, .int p4)] (by decide) rfl ?_
      refine gw_goto (tgt := 40) C dX4_addLeaf_29 (by decide) ?_
      refine gw_sub [1, 2, 3, 4, 5, 0] rfl ?_
      exact J2 _ h
    refine gw_if_eq (tgt := 26) C dX4_addLeaf_19 (by decide) h (fun c6 h => ?_) (fun c6 h => ?_)
    · refine gw_iconst (v := (-1 : Int32)) C dX4_addLeaf_26 rfl ?_
      refine gw_sub [1, 3, 4, 5, 6] rfl ?_
      exact J5 _ h
    · refine gw_iload_n C dX4_addLeaf_22 2 rfl ?_
      refine gw_goto (tgt := 27) C dX4_addLeaf_23 (by decide) ?_
      refine gw_sub [1, 3, 4, 5, 6] rfl ?_
      exact J5 _ h
  · refine gw_aload_n C dX4_addLeaf_32 1 rfl ?_
    refine gw_iload_n C dX4_addLeaf_33 2 rfl ?_
    refine gw_iload_n C dX4_addLeaf_34 3 rfl ?_
    refine gw_bind h (fun q7 hq7 h => ?_)
    refine gw_whole (st2 := [.int q7.1]) C (run_V (rest := []) C (c_X4_makeRoom l D cI cJ cO a t p1 p2 hq7) w_X4_makeRoom 0 3 rfl rfl rfl rfl rfl (Nat.le_of_ble_eq_true rfl) dX4_addLeaf_35 ⟨Nat.zero_le _, Nat.zero_le _⟩) rfl ?_
    refine gw_istore C dX4_addLeaf_38 [(6, .int q7.1), (0, .ref (a 0)), (1, .int p1), (2, .int p2), (3, .ref (a 4)), (4, .int p3), (5, .int p4)] (by decide) rfl ?_
    refine gw_sub [1, 3, 4, 5, 6, 0] rfl ?_
    exact J2 _ h
set_option maxHeartbeats 4000000 in
set_option maxRecDepth 100000 in
theorem c_X4_addLeaf_9 (l : Launch) (D : va_G) (cI cJ cO : ClassId) (a : Nat → Nat) (t : MS) (p1 : Int32) (p2 : Int32) (p3 : Int32) (p4 : Int32) {o : Int32 × MS} (h : fM_addLeaf mRo p1 p2 p3 p4 t = some o) : Ct l D (tysA cI cJ cO) yX4_addLeaf wsX4_addLeaf (rmOf 5 126) [.ref (a 0), .int p1, .int p2, .ref (a 9), .int p3, .int p4] (wM cI a t) (some (.int o.1)) (wM cI a o.2) := by
  refine Ct_of (own := RX4) cX4_addLeaf 7 (some .int) (by decide +kernel) rfl rfl (Nat.le_of_ble_eq_true rfl) ?_
  intro p e s m args below meth c A C hnm
  have iX4 : ∀ w ∈ u_ws RX4 TX4 16, w ∈ wsX4_addLeaf := fun w h => List.mem_cons_of_mem _ (List.mem_append_right _ h)
  have f110 : Cond.fieldLink RX4 110 (TX4 8).1 (TX4 8).2.1 (TX4 8).2.2.1 ∈ wsX4_addLeaf := List.mem_of_getElem? (i := 1) rfl
  have w_X4_giveEnd := cwV (R := (rmOf 5 126)) (rm := rmOf 3 73) (s := s) (args := args) 4 C.1.2.2.2.2 gX4_addLeaf_X4_giveEnd rfl rfl rfl hd_X4_giveEnd ⟨Nat.le_of_ble_eq_true rfl, Nat.le_of_ble_eq_true rfl⟩
  have w_X4_makeRoom := cwV (R := (rmOf 5 126)) (rm := rmOf 4 96) (s := s) (args := args) 2 C.1.2.2.2.2 gX4_addLeaf_X4_makeRoom rfl rfl rfl hd_X4_makeRoom ⟨Nat.le_of_ble_eq_true rfl, Nat.le_of_ble_eq_true rfl⟩
  have w_X4_offset := cwV (R := (rmOf 5 126)) (rm := rmOf 0 0) (s := s) (args := args) 1 C.1.2.2.2.2 gX4_addLeaf_X4_offset rfl rfl rfl hd_X4_offset ⟨Nat.le_of_ble_eq_true rfl, Nat.le_of_ble_eq_true rfl⟩
  have w_X4_open := cwV (R := (rmOf 5 126)) (rm := rmOf 3 68) (s := s) (args := args) 2 C.1.2.2.2.2 gX4_addLeaf_X4_open rfl rfl rfl hd_X4_open ⟨Nat.le_of_ble_eq_true rfl, Nat.le_of_ble_eq_true rfl⟩
  have w_X4_putChild := cwV (R := (rmOf 5 126)) (rm := rmOf 1 21) (s := s) (args := args) 3 C.1.2.2.2.2 gX4_addLeaf_X4_putChild rfl rfl rfl hd_X4_putChild ⟨Nat.le_of_ble_eq_true rfl, Nat.le_of_ble_eq_true rfl⟩
  have h := gw_top h
  unfold fM_addLeaf at h
  show gw_G p l e (rmOf 5 126) s m args below meth c D A (CtM D below (some (.int o.1)) (wM cI a o.2) A args s) 7 0 0 (wM cI a t) [(0, .ref (a 0)), (1, .int p1), (2, .int p2), (3, .ref (a 9)), (4, .int p3), (5, .int p4)] 0 []
  refine gw_iload_n C dX4_addLeaf_0 1 rfl ?_
  refine gw_istore C dX4_addLeaf_1 [(6, .int p1), (0, .ref (a 0)), (1, .int p1), (2, .int p2), (3, .ref (a 9)), (4, .int p3), (5, .int p4)] (by decide) rfl ?_
  refine gw_aload_n C dX4_addLeaf_3 1 rfl ?_
  refine gw_iload_n C dX4_addLeaf_4 2 rfl ?_
  refine gw_bind h (fun q1 hq1 h => ?_)
  refine gw_whole (st2 := [.int q1]) C (run_V (rest := []) C (c_X4_offset l D cI cJ cO a t p1 hq1) w_X4_offset 0 3 rfl rfl rfl rfl rfl (Nat.le_of_ble_eq_true rfl) dX4_addLeaf_5 ⟨Nat.zero_le _, Nat.zero_le _⟩) rfl ?_
  refine gw_lt h (fun j2 ej2 h => ?_)
  have J2 : ∀ v2 : Int32 × MS, Rs some o (j2 v2) → gw_G p l e (rmOf 5 126) s m args below meth c D A (CtM D below (some (.int o.1)) (wM cI a o.2) A args s) 7 0 0 (wM cI a v2.2) [(0, .ref (a 0)), (2, .int p2), (3, .ref (a 9)), (4, .int p3), (5, .int p4), (6, .int v2.1)] 40 [] := by
    intro v2 h
    have h := gw_app ej2 h
    refine gw_iload C dX4_addLeaf_40 5 rfl ?_
    refine gw_iconst (v := (-1 : Int32)) C dX4_addLeaf_42 rfl ?_
    refine gw_icmp_ne (tgt := 48) C dX4_addLeaf_43 (by decide) h (fun c8 h => ?_) (fun c8 h => ?_)
    · refine gw_iconst (v := (2 : Int32)) C dX4_addLeaf_46 rfl ?_
      have h := gw_some h
      have ho := Option.some.inj h
      subst ho
      exact gw_iret C dX4_addLeaf_47
    · refine gw_aload_n C dX4_addLeaf_48 0 rfl ?_
      refine gw_aload_n C dX4_addLeaf_49 0 rfl ?_
      refine gw_iload C dX4_addLeaf_50 5 rfl ?_
      refine gw_iload_n C dX4_addLeaf_52 1 rfl ?_
      refine gw_iconst (v := (2 : Int32)) C dX4_addLeaf_53 rfl ?_
      refine gw_bind h (fun q9 hq9 h => ?_)
      refine gw_whole (st2 := [.int q9.1, .ref (a 0)]) C (run_V (rest := [.ref (a 0)]) C (c_X4_putChild l D cI cJ cO a v2.2 v2.1 p2 (2 : Int32) hq9) w_X4_putChild 0 3 rfl rfl rfl rfl rfl (Nat.le_of_ble_eq_true rfl) dX4_addLeaf_54 ⟨Nat.zero_le _, Nat.zero_le _⟩) rfl ?_
      refine gw_lt h (fun t10 et10 h => ?_)
      refine gw_put (ws' := wM cI a t10) (ty := .int) C dX4_addLeaf_57 0 3 8 tyX4 tyX4_ok nmX4 rfl rfl iX4 (by decide) f110 rfl (tyX4_ok 8 (by decide)) rfl rfl (Nat.le_of_ble_eq_true rfl) (by subst et10; rfl) ?_
      refine gw_aload_n C dX4_addLeaf_60 0 rfl ?_
      refine gw_aload_n C dX4_addLeaf_61 0 rfl ?_
      refine gw_get C dX4_addLeaf_62 0 3 8 rfl rfl iX4 (by decide) f110 rfl ?_
      refine gw_aload_n C dX4_addLeaf_65 2 rfl ?_
      refine gw_iload C dX4_addLeaf_66 3 rfl ?_
      refine gw_iload C dX4_addLeaf_68 4 rfl ?_
      refine gw_lt h (fun j11 ej11 h => ?_)
      have J11 : ∀ v11 : Int32, Rs some o (j11 v11) → gw_G p l e (rmOf 5 126) s m args below meth c D A (CtM D below (some (.int o.1)) (wM cI a o.2) A args s) 7 0 0 (wM cI a t10) [(5, .int p4)] 82 [.int v11, .ref (a 9), .int (mLn t10), .ref (a 0)] := by
        intro v11 h
        have h := gw_app ej11 h
        refine gw_iload C dX4_addLeaf_82 0 rfl ?_
        refine gw_bind h (fun q13 hq13 h => ?_)
        refine gw_whole (st2 := [.int q13.1]) C (run_V (rest := []) C (c_X4_giveEnd_9 l D cI cJ cO a t10 (mLn t10) v11 p4 hq13) w_X4_giveEnd 0 3 rfl rfl rfl rfl rfl (Nat.le_of_ble_eq_true rfl) dX4_addLeaf_84 ⟨Nat.zero_le _, Nat.zero_le _⟩) rfl ?_
        refine gw_if_eq (tgt := 94) C dX4_addLeaf_87 (by decide) h (fun c14 h => ?_) (fun c14 h => ?_)
        · refine gw_iconst (v := (2 : Int32)) C dX4_addLeaf_94 rfl ?_
          have h := gw_some h
          have ho := Option.some.inj h
          subst ho
          exact gw_iret C dX4_addLeaf_95
        · refine gw_iconst (v := (0 : Int32)) C dX4_addLeaf_90 rfl ?_
          refine gw_goto (tgt := 95) C dX4_addLeaf_91 (by decide) ?_
          have h := gw_some h
          have ho := Option.some.inj h
          subst ho
          exact gw_iret C dX4_addLeaf_95
      refine gw_icmp_ge (tgt := 80) C dX4_addLeaf_70 (by decide) h (fun c12 h => ?_) (fun c12 h => ?_)
      · refine gw_iload C dX4_addLeaf_80 4 rfl ?_
        refine gw_sub [4] rfl ?_
        exact J11 _ h
      · refine gw_iload C dX4_addLeaf_73 3 rfl ?_
        refine gw_iconst (v := (1 : Int32)) C dX4_addLeaf_75 rfl ?_
        refine gw_iadd C dX4_addLeaf_76 ?_
        refine gw_goto (tgt := 82) C dX4_addLeaf_77 (by decide) ?_
        refine gw_sub [4] rfl ?_
        exact J11 _ h
  refine gw_if_ne (tgt := 32) C dX4_addLeaf_8 (by decide) h (fun c3 h => ?_) (fun c3 h => ?_)
  · refine gw_aload_n C dX4_addLeaf_11 1 rfl ?_
    refine gw_iload_n C dX4_addLeaf_12 2 rfl ?_
    refine gw_iconst (v := (1 : Int32)) C dX4_addLeaf_13 rfl ?_
    refine gw_iload_n C dX4_addLeaf_14 3 rfl ?_
    refine gw_ishl C dX4_addLeaf_15 ?_
    refine gw_bind h (fun q4 hq4 h => ?_)
    refine gw_whole (st2 := [.int q4.1]) C (run_V (rest := []) C (c_X4_open l D cI cJ cO a t p1 ((1 : Int32) <<< (p2 &&& 31)) hq4) w_X4_open 0 3 rfl rfl rfl rfl rfl (Nat.le_of_ble_eq_true rfl) dX4_addLeaf_16 ⟨Nat.zero_le _, Nat.zero_le _⟩) rfl ?_
    refine gw_lt h (fun j5 ej5 h => ?_)
    have J5 : ∀ v5 : Int32, Rs some o (j5 v5) → gw_G p l e (rmOf 5 126) s m args below meth c D A (CtM D below (some (.int o.1)) (wM cI a o.2) A args s) 7 0 0 (wM cI a q4.2) [(0, .ref (a 0)), (2, .int p2), (3, .ref (a 9)), (4, .int p3), (5, .int p4)] 27 [.int v5] := by
      intro v5 h
      have h := gw_app ej5 h
      refine gw_istore C dX4_addLeaf_27 [(6, .int v5), (0, .ref (a 0)), (2, .int p2), (3, .ref (a 9)), (4, .int p3), (5, .int p4)] (by decide) rfl ?_
      refine gw_goto (tgt := 40) C dX4_addLeaf_29 (by decide) ?_
      refine gw_sub [1, 2, 3, 4, 5, 0] rfl ?_
      exact J2 _ h
    refine gw_if_eq (tgt := 26) C dX4_addLeaf_19 (by decide) h (fun c6 h => ?_) (fun c6 h => ?_)
    · refine gw_iconst (v := (-1 : Int32)) C dX4_addLeaf_26 rfl ?_
      refine gw_sub [1, 3, 4, 5, 6] rfl ?_
      exact J5 _ h
    · refine gw_iload_n C dX4_addLeaf_22 2 rfl ?_
      refine gw_goto (tgt := 27) C dX4_addLeaf_23 (by decide) ?_
      refine gw_sub [1, 3, 4, 5, 6] rfl ?_
      exact J5 _ h
  · refine gw_aload_n C dX4_addLeaf_32 1 rfl ?_
    refine gw_iload_n C dX4_addLeaf_33 2 rfl ?_
    refine gw_iload_n C dX4_addLeaf_34 3 rfl ?_
    refine gw_bind h (fun q7 hq7 h => ?_)
    refine gw_whole (st2 := [.int q7.1]) C (run_V (rest := []) C (c_X4_makeRoom l D cI cJ cO a t p1 p2 hq7) w_X4_makeRoom 0 3 rfl rfl rfl rfl rfl (Nat.le_of_ble_eq_true rfl) dX4_addLeaf_35 ⟨Nat.zero_le _, Nat.zero_le _⟩) rfl ?_
    refine gw_istore C dX4_addLeaf_38 [(6, .int q7.1), (0, .ref (a 0)), (1, .int p1), (2, .int p2), (3, .ref (a 9)), (4, .int p3), (5, .int p4)] (by decide) rfl ?_
    refine gw_sub [1, 3, 4, 5, 6, 0] rfl ?_
    exact J2 _ h
theorem hd_X4_split : yX4_split.cls = RX4 ∧ yX4_split.cls ≠ "java/lang/invoke/MethodHandle" ∧ yX4_split.cls ≠ "java/lang/invoke/VarHandle" ∧ (parseMethodDescriptor yX4_split.desc).map (fun d => d.parameters.length) = some 4 := by decide +kernel
set_option maxHeartbeats 4000000 in
set_option maxRecDepth 100000 in
theorem c_X4_split_4 (l : Launch) (D : va_G) (cI cJ cO : ClassId) (a : Nat → Nat) (t : MS) (p1 : Int32) (p2 : Int32) (p3 : Int32) {o : Int32 × MS} (h : fM_split mBu p1 p2 p3 t = some o) : Ct l D (tysA cI cJ cO) yX4_split wsX4_split (rmOf 4 100) [.ref (a 0), .int p1, .ref (a 4), .int p2, .int p3] (wM cI a t) (some (.int o.1)) (wM cI a o.2) := by
  refine Ct_of (own := RX4) cX4_split 13 (some .int) (by decide +kernel) rfl rfl (Nat.le_of_ble_eq_true rfl) ?_
  intro p e s m args below meth c A C hnm
  have iX4 : ∀ w ∈ u_ws RX4 TX4 16, w ∈ wsX4_split := fun w h => List.mem_cons_of_mem _ (List.mem_append_right _ h)
  have f7 : Cond.fieldLink RX4 7 (TX4 1).1 (TX4 1).2.1 (TX4 1).2.2.1 ∈ wsX4_split := List.mem_of_getElem? (i := 1) rfl
  have f22 : Cond.fieldLink RX4 22 (TX4 7).1 (TX4 7).2.1 (TX4 7).2.2.1 ∈ wsX4_split := List.mem_of_getElem? (i := 2) rfl
  have f110 : Cond.fieldLink RX4 110 (TX4 8).1 (TX4 8).2.1 (TX4 8).2.2.1 ∈ wsX4_split := List.mem_of_getElem? (i := 3) rfl
  have w_X4_dropEnd := cwV (R := (rmOf 4 100)) (rm := rmOf 0 0) (s := s) (args := args) 1 C.1.2.2.2.2 gX4_split_X4_dropEnd rfl rfl rfl hd_X4_dropEnd ⟨Nat.le_of_ble_eq_true rfl, Nat.le_of_ble_eq_true rfl⟩
  have w_X4_giveEnd := cwV (R := (rmOf 4 100)) (rm := rmOf 3 73) (s := s) (args := args) 4 C.1.2.2.2.2 gX4_split_X4_giveEnd rfl rfl rfl hd_X4_giveEnd ⟨Nat.le_of_ble_eq_true rfl, Nat.le_of_ble_eq_true rfl⟩
  have w_X4_lengthOf := cwV (R := (rmOf 4 100)) (rm := rmOf 0 0) (s := s) (args := args) 1 C.1.2.2.2.2 gX4_split_X4_lengthOf rfl rfl rfl hd_X4_lengthOf ⟨Nat.le_of_ble_eq_true rfl, Nat.le_of_ble_eq_true rfl⟩
  have w_X4_letterOf := cwV (R := (rmOf 4 100)) (rm := rmOf 0 0) (s := s) (args := args) 2 C.1.2.2.2.2 gX4_split_X4_letterOf rfl rfl rfl hd_X4_letterOf ⟨Nat.le_of_ble_eq_true rfl, Nat.le_of_ble_eq_true rfl⟩
  have w_X4_open := cwV (R := (rmOf 4 100)) (rm := rmOf 3 68) (s := s) (args := args) 2 C.1.2.2.2.2 gX4_split_X4_open rfl rfl rfl hd_X4_open ⟨Nat.le_of_ble_eq_true rfl, Nat.le_of_ble_eq_true rfl⟩
  have w_X4_putChild := cwV (R := (rmOf 4 100)) (rm := rmOf 1 21) (s := s) (args := args) 3 C.1.2.2.2.2 gX4_split_X4_putChild rfl rfl rfl hd_X4_putChild ⟨Nat.le_of_ble_eq_true rfl, Nat.le_of_ble_eq_true rfl⟩
  have h := gw_top h
  unfold fM_split at h
  show gw_G p l e (rmOf 4 100) s m args below meth c D A (CtM D below (some (.int o.1)) (wM cI a o.2) A args s) 13 0 0 (wM cI a t) [(0, .ref (a 0)), (1, .int p1), (2, .ref (a 4)), (3, .int p2), (4, .int p3)] 0 []
  refine gw_aload_n C dX4_split_0 0 rfl ?_
  refine gw_get C dX4_split_1 0 3 1 rfl rfl iX4 (by decide) f7 rfl ?_
  refine gw_sipush (v := (640 : Int32)) C dX4_split_4 rfl ?_
  refine gw_iload_n C dX4_split_7 1 rfl ?_
  refine gw_iadd C dX4_split_8 ?_
  refine gw_chk h (fun b1 h => ?_)
  refine gw_iald C dX4_split_9 1 0 rfl rfl b1 ?_
  refine gw_lt h (fun v2 ev2 h => ?_)
  rw [ev2]
  refine gw_istore C dX4_split_10 [(5, .int v2), (0, .ref (a 0)), (1, .int p1), (2, .ref (a 4)), (3, .int p2), (4, .int p3)] (by decide) rfl ?_
  refine gw_aload_n C dX4_split_12 1 rfl ?_
  refine gw_iload C dX4_split_13 0 rfl ?_
  refine gw_bind h (fun q3 hq3 h => ?_)
  refine gw_whole (st2 := [.int q3]) C (run_V (rest := []) C (c_X4_lengthOf l D cI cJ cO a t v2 hq3) w_X4_lengthOf 0 3 rfl rfl rfl rfl rfl (Nat.le_of_ble_eq_true rfl) dX4_split_15 ⟨Nat.zero_le _, Nat.zero_le _⟩) rfl ?_
  refine gw_istore C dX4_split_18 [(6, .int q3), (5, .int v2), (0, .ref (a 0)), (1, .int p1), (2, .ref (a 4)), (3, .int p2), (4, .int p3)] (by decide) rfl ?_
  refine gw_iconst (v := (0 : Int32)) C dX4_split_20 rfl ?_
  refine gw_istore C dX4_split_21 [(7, .int (0 : Int32)), (6, .int q3), (5, .int v2), (0, .ref (a 0)), (1, .int p1), (2, .ref (a 4)), (3, .int p2), (4, .int p3)] (by decide) rfl ?_
  refine gw_sub [3, 4, 5, 6, 7, 2, 1, 0] rfl ?_
  refine gw_lpb (x0 := ((0 : Int32), t)) (Go := fun x4 : Int32 × MS => gw_G p l e (rmOf 4 100) s m args below meth c D A (CtM D below (some (.int o.1)) (wM cI a o.2) A args s) 13 0 0 (wM cI a x4.2) [(0, .ref (a 0)), (1, .int p1), (2, .ref (a 4)), (3, .int p2), (4, .int p3), (5, .int v2), (6, .int q3), (7, .int x4.1)] 23 []) (GoX := fun v4 : MS => gw_G p l e (rmOf 4 100) s m args below meth c D A (CtM D below (some (.int o.1)) (wM cI a o.2) A args s) 13 0 0 (wM cI a v4) [(0, .ref (a 0)), (1, .int p1), (2, .ref (a 4)), (3, .int p2), (4, .int p3), (6, .int q3)] 51 []) h (fun v4 h => ?_) (fun x4 K4 X4 I4 h => ?_)
  · refine gw_aload_n C dX4_split_51 0 rfl ?_
    refine gw_iload_n C dX4_split_52 1 rfl ?_
    refine gw_bind h (fun q9 hq9 h => ?_)
    refine gw_whole (st2 := []) C (run_V (rest := []) C (c_X4_dropEnd l D cI cJ cO a v4 p1 hq9) w_X4_dropEnd 0 3 rfl rfl rfl rfl rfl (Nat.le_of_ble_eq_true rfl) dX4_split_53 ⟨Nat.zero_le _, Nat.zero_le _⟩) rfl ?_
    refine gw_aload_n C dX4_split_56 0 rfl ?_
    refine gw_get C dX4_split_57 0 3 1 rfl rfl iX4 (by decide) f7 rfl ?_
    refine gw_iconst (v := (0 : Int32)) C dX4_split_60 rfl ?_
    refine gw_iload_n C dX4_split_61 1 rfl ?_
    refine gw_iadd C dX4_split_62 ?_
    refine gw_iconst (v := (1 : Int32)) C dX4_split_63 rfl ?_
    refine gw_chk h (fun b10 h => ?_)
    refine gw_lt h (fun t11 et11 h => ?_)
    refine gw_iast (ws' := wM cI a t11) C dX4_split_64 1 0 rfl rfl b10 (by subst et11; rfl) ?_
    refine gw_iload_n C dX4_split_65 1 rfl ?_
    refine gw_istore C dX4_split_66 [(7, .int p1), (0, .ref (a 0)), (1, .int p1), (2, .ref (a 4)), (3, .int p2), (4, .int p3), (6, .int q3)] (by decide) rfl ?_
    refine gw_iconst (v := (0 : Int32)) C dX4_split_68 rfl ?_
    refine gw_istore C dX4_split_69 [(8, .int (0 : Int32)), (7, .int p1), (0, .ref (a 0)), (1, .int p1), (2, .ref (a 4)), (3, .int p2), (4, .int p3), (6, .int q3)] (by decide) rfl ?_
    refine gw_sub [2, 4, 5, 6, 7, 1, 0] rfl ?_
    refine gw_lpt (x0 := (p1, (0 : Int32), t11)) (Go := fun x12 : Int32 × Int32 × MS => gw_G p l e (rmOf 4 100) s m args below meth c D A (CtM D below (some (.int o.1)) (wM cI a o.2) A args s) 13 0 0 (wM cI a x12.2.2) [(0, .ref (a 0)), (2, .ref (a 4)), (3, .int p2), (4, .int p3), (6, .int q3), (7, .int x12.1), (8, .int x12.2.1)] 71 []) h (fun x12 K12 X12 I12 h => ?_)
    refine gw_iload C dX4_split_71 6 rfl ?_
    refine gw_iload C dX4_split_73 4 rfl ?_
    refine gw_lt h (fun j13 ej13 h => ?_)
    have J13 : ∀ v13 : Unit, Rs K12 o (j13 v13) → gw_G p l e (rmOf 4 100) s m args below meth c D A (CtM D below (some (.int o.1)) (wM cI a o.2) A args s) 13 0 0 (wM cI a x12.2.2) [(0, .ref (a 0)), (2, .ref (a 4)), (3, .int p2), (4, .int p3), (6, .int q3), (7, .int x12.1), (8, .int x12.2.1)] 145 [] := by
      intro v13 h
      have h := gw_app ej13 h
      refine gw_iload C dX4_split_145 6 rfl ?_
      refine gw_iload C dX4_split_147 4 rfl ?_
      refine gw_lt h (fun j24 ej24 h => ?_)
      have J24 : ∀ v24 : Int32, Rs K12 o (j24 v24) → gw_G p l e (rmOf 4 100) s m args below meth c D A (CtM D below (some (.int o.1)) (wM cI a o.2) A args s) 13 0 0 (wM cI a x12.2.2) [(0, .ref (a 0)), (2, .ref (a 4)), (3, .int p2), (4, .int p3), (6, .int q3), (7, .int x12.1), (8, .int x12.2.1)] 163 [.int v24] := by
        intro v24 h
        have h := gw_app ej24 h
        refine gw_istore C dX4_split_163 [(9, .int v24), (0, .ref (a 0)), (2, .ref (a 4)), (3, .int p2), (4, .int p3), (6, .int q3), (7, .int x12.1), (8, .int x12.2.1)] (by decide) rfl ?_
        refine gw_iload_n C dX4_split_165 3 rfl ?_
        refine gw_iload C dX4_split_166 7 rfl ?_
        refine gw_iadd C dX4_split_168 ?_
        refine gw_iload C dX4_split_169 4 rfl ?_
        refine gw_lt h (fun j27 ej27 h => ?_)
        have J27 : ∀ v27 : Int32, Rs K12 o (j27 v27) → gw_G p l e (rmOf 4 100) s m args below meth c D A (CtM D below (some (.int o.1)) (wM cI a o.2) A args s) 13 0 0 (wM cI a x12.2.2) [(0, .ref (a 0)), (2, .ref (a 4)), (3, .int p2), (4, .int p3), (6, .int q3), (7, .int x12.1), (8, .int x12.2.1), (9, .int v24)] 184 [.int v27] := by
          intro v27 h
          have h := gw_app ej27 h
          refine gw_istore C dX4_split_184 [(10, .int v27), (0, .ref (a 0)), (2, .ref (a 4)), (3, .int p2), (4, .int p3), (6, .int q3), (7, .int x12.1), (8, .int x12.2.1), (9, .int v24)] (by decide) rfl ?_
          refine gw_aload_n C dX4_split_186 1 rfl ?_
          refine gw_iload C dX4_split_187 6 rfl ?_
          refine gw_iconst (v := (1 : Int32)) C dX4_split_189 rfl ?_
          refine gw_iload C dX4_split_190 8 rfl ?_
          refine gw_ishl C dX4_split_192 ?_
          refine gw_iconst (v := (1 : Int32)) C dX4_split_193 rfl ?_
          refine gw_iload C dX4_split_194 0 rfl ?_
          refine gw_ishl C dX4_split_196 ?_
          refine gw_ior C dX4_split_197 ?_
          refine gw_bind h (fun q30 hq30 h => ?_)
          refine gw_whole (st2 := [.int q30.1]) C (run_V (rest := []) C (c_X4_open l D cI cJ cO a x12.2.2 x12.1 (((1 : Int32) <<< (v24 &&& 31)) ||| ((1 : Int32) <<< (v27 &&& 31))) hq30) w_X4_open 0 3 rfl rfl rfl rfl rfl (Nat.le_of_ble_eq_true rfl) dX4_split_198 ⟨Nat.zero_le _, Nat.zero_le _⟩) rfl ?_
          refine gw_if_ne (tgt := 206) C dX4_split_201 (by decide) h (fun c31 h => ?_) (fun c31 h => ?_)
          · refine gw_iconst (v := (2 : Int32)) C dX4_split_204 rfl ?_
            have h := gw_some h
            have h := X12 _ h
            have ho := Option.some.inj h
            subst ho
            exact gw_iret C dX4_split_205
          · refine gw_aload_n C dX4_split_206 1 rfl ?_
            refine gw_iload C dX4_split_207 6 rfl ?_
            refine gw_iload C dX4_split_209 8 rfl ?_
            refine gw_iconst (v := (2 : Int32)) C dX4_split_211 rfl ?_
            refine gw_bind h (fun q32 hq32 h => ?_)
            refine gw_whole (st2 := [.int q32.1]) C (run_V (rest := []) C (c_X4_putChild l D cI cJ cO a q30.2 x12.1 v24 (2 : Int32) hq32) w_X4_putChild 0 3 rfl rfl rfl rfl rfl (Nat.le_of_ble_eq_true rfl) dX4_split_212 ⟨Nat.zero_le _, Nat.zero_le _⟩) rfl ?_
            refine gw_istore C dX4_split_215 [(11, .int q32.1), (10, .int v27), (0, .ref (a 0)), (2, .ref (a 4)), (3, .int p2), (4, .int p3), (6, .int q3), (7, .int x12.1), (8, .int x12.2.1), (9, .int v24)] (by decide) rfl ?_
            refine gw_aload_n C dX4_split_217 2 rfl ?_
            refine gw_aload_n C dX4_split_218 2 rfl ?_
            refine gw_iload C dX4_split_219 7 rfl ?_
            refine gw_iload C dX4_split_221 1 rfl ?_
            refine gw_iconst (v := (2 : Int32)) C dX4_split_223 rfl ?_
            refine gw_bind h (fun q33 hq33 h => ?_)
            refine gw_whole (st2 := [.int q33.1, .ref (a 0)]) C (run_V (rest := [.ref (a 0)]) C (c_X4_putChild l D cI cJ cO a q32.2 x12.1 v27 (2 : Int32) hq33) w_X4_putChild 0 3 rfl rfl rfl rfl rfl (Nat.le_of_ble_eq_true rfl) dX4_split_224 ⟨Nat.zero_le _, Nat.zero_le _⟩) rfl ?_
            refine gw_lt h (fun t34 et34 h => ?_)
            refine gw_put (ws' := wM cI a t34) (ty := .int) C dX4_split_227 0 3 8 tyX4 tyX4_ok nmX4 rfl rfl iX4 (by decide) f110 rfl (tyX4_ok 8 (by decide)) rfl rfl (Nat.le_of_ble_eq_true rfl) (by subst et34; rfl) ?_
            refine gw_aload_n C dX4_split_230 2 rfl ?_
            refine gw_iload C dX4_split_231 0 rfl ?_
            refine gw_aload_n C dX4_split_233 2 rfl ?_
            refine gw_get C dX4_split_234 0 3 7 rfl rfl iX4 (by decide) f22 rfl ?_
            refine gw_iload C dX4_split_237 8 rfl ?_
            refine gw_iload C dX4_split_239 6 rfl ?_
            refine gw_lt h (fun j35 ej35 h => ?_)
            have J35 : ∀ v35 : Int32, Rs K12 o (j35 v35) → gw_G p l e (rmOf 4 100) s m args below meth c D A (CtM D below (some (.int o.1)) (wM cI a o.2) A args s) 13 0 0 (wM cI a t34) [(0, .ref (a 0)), (2, .ref (a 4)), (3, .int p2), (4, .int p3), (6, .int q3), (8, .int x12.2.1)] 253 [.int v35, .ref (a 5), .int q32.1, .ref (a 0)] := by
              intro v35 h
              have h := gw_app ej35 h
              refine gw_iload C dX4_split_253 4 rfl ?_
              refine gw_bind h (fun q37 hq37 h => ?_)
              refine gw_whole (st2 := [.int q37.1]) C (run_V (rest := []) C (c_X4_giveEnd_5 l D cI cJ cO a t34 q32.1 v35 q3 hq37) w_X4_giveEnd 0 3 rfl rfl rfl rfl rfl (Nat.le_of_ble_eq_true rfl) dX4_split_255 ⟨Nat.zero_le _, Nat.zero_le _⟩) rfl ?_
              refine gw_istore C dX4_split_258 [(12, .int q37.1), (0, .ref (a 0)), (2, .ref (a 4)), (3, .int p2), (4, .int p3), (6, .int q3), (8, .int x12.2.1)] (by decide) rfl ?_
              refine gw_iload C dX4_split_260 0 rfl ?_
              refine gw_if_eq (tgt := 303) C dX4_split_262 (by decide) h (fun c38 h => ?_) (fun c38 h => ?_)
              · refine gw_iconst (v := (2 : Int32)) C dX4_split_303 rfl ?_
                have h := gw_some h
                have h := X12 _ h
                have ho := Option.some.inj h
                subst ho
                exact gw_iret C dX4_split_304
              · refine gw_aload_n C dX4_split_265 1 rfl ?_
                refine gw_aload_n C dX4_split_266 1 rfl ?_
                refine gw_get C dX4_split_267 0 3 8 rfl rfl iX4 (by decide) f110 rfl ?_
                refine gw_aload_n C dX4_split_270 2 rfl ?_
                refine gw_iload_n C dX4_split_271 3 rfl ?_
                refine gw_iload C dX4_split_272 6 rfl ?_
                refine gw_iadd C dX4_split_274 ?_
                refine gw_iload C dX4_split_275 4 rfl ?_
                refine gw_lt h (fun j39 ej39 h => ?_)
                have J39 : ∀ v39 : Int32, Rs K12 o (j39 v39) → gw_G p l e (rmOf 4 100) s m args below meth c D A (CtM D below (some (.int o.1)) (wM cI a o.2) A args s) 13 0 0 (wM cI a q37.2) [(4, .int p3)] 291 [.int v39, .ref (a 4), .int (mLn q37.2), .ref (a 0)] := by
                  intro v39 h
                  have h := gw_app ej39 h
                  refine gw_iload C dX4_split_291 0 rfl ?_
                  refine gw_bind h (fun q41 hq41 h => ?_)
                  refine gw_whole (st2 := [.int q41.1]) C (run_V (rest := []) C (c_X4_giveEnd_4 l D cI cJ cO a q37.2 (mLn q37.2) v39 p3 hq41) w_X4_giveEnd 0 3 rfl rfl rfl rfl rfl (Nat.le_of_ble_eq_true rfl) dX4_split_293 ⟨Nat.zero_le _, Nat.zero_le _⟩) rfl ?_
                  refine gw_if_eq (tgt := 303) C dX4_split_296 (by decide) h (fun c42 h => ?_) (fun c42 h => ?_)
                  · refine gw_iconst (v := (2 : Int32)) C dX4_split_303 rfl ?_
                    have h := gw_some h
                    have h := X12 _ h
                    have ho := Option.some.inj h
                    subst ho
                    exact gw_iret C dX4_split_304
                  · refine gw_iconst (v := (0 : Int32)) C dX4_split_299 rfl ?_
                    refine gw_goto (tgt := 304) C dX4_split_300 (by decide) ?_
                    have h := gw_some h
                    have h := X12 _ h
                    have ho := Option.some.inj h
                    subst ho
                    exact gw_iret C dX4_split_304
                refine gw_icmp_ge (tgt := 289) C dX4_split_277 (by decide) h (fun c40 h => ?_) (fun c40 h => ?_)
                · refine gw_iload C dX4_split_289 4 rfl ?_
                  refine gw_sub [4] rfl ?_
                  exact J39 _ h
                · refine gw_iload_n C dX4_split_280 3 rfl ?_
                  refine gw_iload C dX4_split_281 6 rfl ?_
                  refine gw_iadd C dX4_split_283 ?_
                  refine gw_iconst (v := (1 : Int32)) C dX4_split_284 rfl ?_
                  refine gw_iadd C dX4_split_285 ?_
                  refine gw_goto (tgt := 291) C dX4_split_286 (by decide) ?_
                  refine gw_sub [4] rfl ?_
                  exact J39 _ h
            refine gw_icmp_ge (tgt := 251) C dX4_split_241 (by decide) h (fun c36 h => ?_) (fun c36 h => ?_)
            · refine gw_iload C dX4_split_251 6 rfl ?_
              refine gw_sub [2, 3, 4, 5, 6, 8] rfl ?_
              exact J35 _ h
            · refine gw_iload C dX4_split_244 8 rfl ?_
              refine gw_iconst (v := (1 : Int32)) C dX4_split_246 rfl ?_
              refine gw_iadd C dX4_split_247 ?_
              refine gw_goto (tgt := 253) C dX4_split_248 (by decide) ?_
              refine gw_sub [2, 3, 4, 5, 6, 8] rfl ?_
              exact J35 _ h
        refine gw_icmp_ge (tgt := 183) C dX4_split_171 (by decide) h (fun c28 h => ?_) (fun c28 h => ?_)
        · refine gw_iconst (v := (0 : Int32)) C dX4_split_183 rfl ?_
          refine gw_sub [1, 2, 3, 4, 5, 6, 7, 0] rfl ?_
          exact J27 _ h
        · refine gw_aload_n C dX4_split_174 2 rfl ?_
          refine gw_iload_n C dX4_split_175 3 rfl ?_
          refine gw_iload C dX4_split_176 7 rfl ?_
          refine gw_iadd C dX4_split_178 ?_
          refine gw_chk h (fun b29 h => ?_)
          refine gw_iald C dX4_split_179 4 0 rfl rfl b29 ?_
          refine gw_goto (tgt := 184) C dX4_split_180 (by decide) ?_
          refine gw_sub [1, 2, 3, 4, 5, 6, 7, 0] rfl ?_
          exact J27 _ h
      refine gw_icmp_ge (tgt := 162) C dX4_split_149 (by decide) h (fun c25 h => ?_) (fun c25 h => ?_)
      · refine gw_iconst (v := (0 : Int32)) C dX4_split_162 rfl ?_
        exact J24 _ h
      · refine gw_aload_n C dX4_split_152 0 rfl ?_
        refine gw_get C dX4_split_153 0 3 7 rfl rfl iX4 (by decide) f22 rfl ?_
        refine gw_iload C dX4_split_156 6 rfl ?_
        refine gw_chk h (fun b26 h => ?_)
        refine gw_iald C dX4_split_158 5 0 rfl rfl b26 ?_
        refine gw_goto (tgt := 163) C dX4_split_159 (by decide) ?_
        exact J24 _ h
    refine gw_icmp_ge (tgt := 145) C dX4_split_75 (by decide) h (fun c14 h => ?_) (fun c14 h => ?_)
    · exact J13 _ h
    · refine gw_iload_n C dX4_split_78 2 rfl ?_
      refine gw_iload C dX4_split_79 6 rfl ?_
      refine gw_iadd C dX4_split_81 ?_
      refine gw_iload C dX4_split_82 3 rfl ?_
      refine gw_icmp_ge (tgt := 145) C dX4_split_84 (by decide) h (fun c15 h => ?_) (fun c15 h => ?_)
      · exact J13 _ h
      · refine gw_aload_n C dX4_split_87 0 rfl ?_
        refine gw_get C dX4_split_88 0 3 7 rfl rfl iX4 (by decide) f22 rfl ?_
        refine gw_iload C dX4_split_91 6 rfl ?_
        refine gw_chk h (fun b16 h => ?_)
        refine gw_iald C dX4_split_93 5 0 rfl rfl b16 ?_
        refine gw_aload_n C dX4_split_94 1 rfl ?_
        refine gw_iload_n C dX4_split_95 2 rfl ?_
        refine gw_iload C dX4_split_96 6 rfl ?_
        refine gw_iadd C dX4_split_98 ?_
        refine gw_chk h (fun b17 h => ?_)
        refine gw_iald C dX4_split_99 4 0 rfl rfl b17 ?_
        refine gw_icmp_ne (tgt := 145) C dX4_split_100 (by decide) h (fun c18 h => ?_) (fun c18 h => ?_)
        · refine gw_aload_n C dX4_split_103 0 rfl ?_
          refine gw_iload C dX4_split_104 5 rfl ?_
          refine gw_iconst (v := (1 : Int32)) C dX4_split_106 rfl ?_
          refine gw_aload_n C dX4_split_107 0 rfl ?_
          refine gw_get C dX4_split_108 0 3 7 rfl rfl iX4 (by decide) f22 rfl ?_
          refine gw_iload C dX4_split_111 6 rfl ?_
          refine gw_chk h (fun b19 h => ?_)
          refine gw_iald C dX4_split_113 5 0 rfl rfl b19 ?_
          refine gw_ishl C dX4_split_114 ?_
          refine gw_bind h (fun q20 hq20 h => ?_)
          refine gw_whole (st2 := [.int q20.1]) C (run_V (rest := []) C (c_X4_open l D cI cJ cO a x12.2.2 x12.1 ((1 : Int32) <<< ((mOl x12.2.2 x12.2.1.toNatClampNeg) &&& 31)) hq20) w_X4_open 0 3 rfl rfl rfl rfl rfl (Nat.le_of_ble_eq_true rfl) dX4_split_115 ⟨Nat.zero_le _, Nat.zero_le _⟩) rfl ?_
          refine gw_if_ne (tgt := 123) C dX4_split_118 (by decide) h (fun c21 h => ?_) (fun c21 h => ?_)
          · refine gw_iconst (v := (2 : Int32)) C dX4_split_121 rfl ?_
            have h := gw_some h
            have h := X12 _ h
            have ho := Option.some.inj h
            subst ho
            exact gw_iret C dX4_split_122
          · refine gw_aload_n C dX4_split_123 0 rfl ?_
            refine gw_iload C dX4_split_124 5 rfl ?_
            refine gw_aload_n C dX4_split_126 0 rfl ?_
            refine gw_get C dX4_split_127 0 3 7 rfl rfl iX4 (by decide) f22 rfl ?_
            refine gw_iload C dX4_split_130 6 rfl ?_
            refine gw_chk h (fun b22 h => ?_)
            refine gw_iald C dX4_split_132 5 0 rfl rfl b22 ?_
            refine gw_iconst (v := (1 : Int32)) C dX4_split_133 rfl ?_
            refine gw_bind h (fun q23 hq23 h => ?_)
            refine gw_whole (st2 := [.int q23.1]) C (run_V (rest := []) C (c_X4_putChild l D cI cJ cO a q20.2 x12.1 (mOl q20.2 x12.2.1.toNatClampNeg) (1 : Int32) hq23) w_X4_putChild 0 3 rfl rfl rfl rfl rfl (Nat.le_of_ble_eq_true rfl) dX4_split_134 ⟨Nat.zero_le _, Nat.zero_le _⟩) rfl ?_
            refine gw_istore C dX4_split_137 [(7, .int q23.1), (0, .ref (a 0)), (2, .ref (a 4)), (3, .int p2), (4, .int p3), (6, .int q3), (8, .int x12.2.1)] (by decide) rfl ?_
            refine gw_iinc (v := (x12.2.1 + (1 : Int32))) C dX4_split_139 [(8, .int (x12.2.1 + (1 : Int32))), (7, .int q23.1), (0, .ref (a 0)), (2, .ref (a 4)), (3, .int p2), (4, .int p3), (6, .int q3)] 6 rfl rfl (by decide) rfl ?_
            refine gw_goto (tgt := 71) C dX4_split_142 (by decide) ?_
            refine gw_sub [2, 3, 4, 5, 6, 1, 0] rfl ?_
            have h := gw_some h
            exact I12 _ h
        · exact J13 _ h
  · refine gw_iload C dX4_split_23 7 rfl ?_
    refine gw_iload C dX4_split_25 6 rfl ?_
    refine gw_icmp_ge (tgt := 51) C dX4_split_27 (by decide) h (fun c5 h => ?_) (fun c5 h => ?_)
    · refine gw_sub [0, 1, 2, 3, 4, 6] rfl ?_
      have h := gw_some h
      exact X4 _ h
    · refine gw_aload_n C dX4_split_30 0 rfl ?_
      refine gw_get C dX4_split_31 0 3 7 rfl rfl iX4 (by decide) f22 rfl ?_
      refine gw_iload C dX4_split_34 7 rfl ?_
      refine gw_aload_n C dX4_split_36 0 rfl ?_
      refine gw_iload C dX4_split_37 5 rfl ?_
      refine gw_iload C dX4_split_39 7 rfl ?_
      refine gw_bind h (fun q6 hq6 h => ?_)
      refine gw_whole (st2 := [.int q6, .int x4.1, .ref (a 5)]) C (run_V (rest := [.int x4.1, .ref (a 5)]) C (c_X4_letterOf l D cI cJ cO a x4.2 v2 x4.1 hq6) w_X4_letterOf 0 3 rfl rfl rfl rfl rfl (Nat.le_of_ble_eq_true rfl) dX4_split_41 ⟨Nat.zero_le _, Nat.zero_le _⟩) rfl ?_
      refine gw_chk h (fun b7 h => ?_)
      refine gw_lt h (fun t8 et8 h => ?_)
      refine gw_iast (ws' := wM cI a t8) C dX4_split_44 5 0 rfl rfl b7 (by subst et8; rfl) ?_
      refine gw_iinc (v := (x4.1 + (1 : Int32))) C dX4_split_45 [(7, .int (x4.1 + (1 : Int32))), (0, .ref (a 0)), (1, .int p1), (2, .ref (a 4)), (3, .int p2), (4, .int p3), (5, .int v2), (6, .int q3)] 7 rfl rfl (by decide) rfl ?_
      refine gw_goto (tgt := 23) C dX4_split_48 (by decide) ?_
      refine gw_sub [1, 2, 3, 4, 5, 6, 7, 0] rfl ?_
      have h := gw_some h
      exact I4 _ h
set_option maxHeartbeats 4000000 in
set_option maxRecDepth 100000 in
theorem c_X4_split_9 (l : Launch) (D : va_G) (cI cJ cO : ClassId) (a : Nat → Nat) (t : MS) (p1 : Int32) (p2 : Int32) (p3 : Int32) {o : Int32 × MS} (h : fM_split mRo p1 p2 p3 t = some o) : Ct l D (tysA cI cJ cO) yX4_split wsX4_split (rmOf 4 100) [.ref (a 0), .int p1, .ref (a 9), .int p2, .int p3] (wM cI a t) (some (.int o.1)) (wM cI a o.2) := by
  refine Ct_of (own := RX4) cX4_split 13 (some .int) (by decide +kernel) rfl rfl (Nat.le_of_ble_eq_true rfl) ?_
  intro p e s m args below meth c A C hnm
  have iX4 : ∀ w ∈ u_ws RX4 TX4 16, w ∈ wsX4_split := fun w h => List.mem_cons_of_mem _ (List.mem_append_right _ h)
  have f7 : Cond.fieldLink RX4 7 (TX4 1).1 (TX4 1).2.1 (TX4 1).2.2.1 ∈ wsX4_split := List.mem_of_getElem? (i := 1) rfl
  have f22 : Cond.fieldLink RX4 22 (TX4 7).1 (TX4 7).2.1 (TX4 7).2.2.1 ∈ wsX4_split := List.mem_of_getElem? (i := 2) rfl
  have f110 : Cond.fieldLink RX4 110 (TX4 8).1 (TX4 8).2.1 (TX4 8).2.2.1 ∈ wsX4_split := List.mem_of_getElem? (i := 3) rfl
  have w_X4_dropEnd := cwV (R := (rmOf 4 100)) (rm := rmOf 0 0) (s := s) (args := args) 1 C.1.2.2.2.2 gX4_split_X4_dropEnd rfl rfl rfl hd_X4_dropEnd ⟨Nat.le_of_ble_eq_true rfl, Nat.le_of_ble_eq_true rfl⟩
  have w_X4_giveEnd := cwV (R := (rmOf 4 100)) (rm := rmOf 3 73) (s := s) (args := args) 4 C.1.2.2.2.2 gX4_split_X4_giveEnd rfl rfl rfl hd_X4_giveEnd ⟨Nat.le_of_ble_eq_true rfl, Nat.le_of_ble_eq_true rfl⟩
  have w_X4_lengthOf := cwV (R := (rmOf 4 100)) (rm := rmOf 0 0) (s := s) (args := args) 1 C.1.2.2.2.2 gX4_split_X4_lengthOf rfl rfl rfl hd_X4_lengthOf ⟨Nat.le_of_ble_eq_true rfl, Nat.le_of_ble_eq_true rfl⟩
  have w_X4_letterOf := cwV (R := (rmOf 4 100)) (rm := rmOf 0 0) (s := s) (args := args) 2 C.1.2.2.2.2 gX4_split_X4_letterOf rfl rfl rfl hd_X4_letterOf ⟨Nat.le_of_ble_eq_true rfl, Nat.le_of_ble_eq_true rfl⟩
  have w_X4_open := cwV (R := (rmOf 4 100)) (rm := rmOf 3 68) (s := s) (args := args) 2 C.1.2.2.2.2 gX4_split_X4_open rfl rfl rfl hd_X4_open ⟨Nat.le_of_ble_eq_true rfl, Nat.le_of_ble_eq_true rfl⟩
  have w_X4_putChild := cwV (R := (rmOf 4 100)) (rm := rmOf 1 21) (s := s) (args := args) 3 C.1.2.2.2.2 gX4_split_X4_putChild rfl rfl rfl hd_X4_putChild ⟨Nat.le_of_ble_eq_true rfl, Nat.le_of_ble_eq_true rfl⟩
  have h := gw_top h
  unfold fM_split at h
  show gw_G p l e (rmOf 4 100) s m args below meth c D A (CtM D below (some (.int o.1)) (wM cI a o.2) A args s) 13 0 0 (wM cI a t) [(0, .ref (a 0)), (1, .int p1), (2, .ref (a 9)), (3, .int p2), (4, .int p3)] 0 []
  refine gw_aload_n C dX4_split_0 0 rfl ?_
  refine gw_get C dX4_split_1 0 3 1 rfl rfl iX4 (by decide) f7 rfl ?_
  refine gw_sipush (v := (640 : Int32)) C dX4_split_4 rfl ?_
  refine gw_iload_n C dX4_split_7 1 rfl ?_
  refine gw_iadd C dX4_split_8 ?_
  refine gw_chk h (fun b1 h => ?_)
  refine gw_iald C dX4_split_9 1 0 rfl rfl b1 ?_
  refine gw_lt h (fun v2 ev2 h => ?_)
  rw [ev2]
  refine gw_istore C dX4_split_10 [(5, .int v2), (0, .ref (a 0)), (1, .int p1), (2, .ref (a 9)), (3, .int p2), (4, .int p3)] (by decide) rfl ?_
  refine gw_aload_n C dX4_split_12 1 rfl ?_
  refine gw_iload C dX4_split_13 0 rfl ?_
  refine gw_bind h (fun q3 hq3 h => ?_)
  refine gw_whole (st2 := [.int q3]) C (run_V (rest := []) C (c_X4_lengthOf l D cI cJ cO a t v2 hq3) w_X4_lengthOf 0 3 rfl rfl rfl rfl rfl (Nat.le_of_ble_eq_true rfl) dX4_split_15 ⟨Nat.zero_le _, Nat.zero_le _⟩) rfl ?_
  refine gw_istore C dX4_split_18 [(6, .int q3), (5, .int v2), (0, .ref (a 0)), (1, .int p1), (2, .ref (a 9)), (3, .int p2), (4, .int p3)] (by decide) rfl ?_
  refine gw_iconst (v := (0 : Int32)) C dX4_split_20 rfl ?_
  refine gw_istore C dX4_split_21 [(7, .int (0 : Int32)), (6, .int q3), (5, .int v2), (0, .ref (a 0)), (1, .int p1), (2, .ref (a 9)), (3, .int p2), (4, .int p3)] (by decide) rfl ?_
  refine gw_sub [3, 4, 5, 6, 7, 2, 1, 0] rfl ?_
  refine gw_lpb (x0 := ((0 : Int32), t)) (Go := fun x4 : Int32 × MS => gw_G p l e (rmOf 4 100) s m args below meth c D A (CtM D below (some (.int o.1)) (wM cI a o.2) A args s) 13 0 0 (wM cI a x4.2) [(0, .ref (a 0)), (1, .int p1), (2, .ref (a 9)), (3, .int p2), (4, .int p3), (5, .int v2), (6, .int q3), (7, .int x4.1)] 23 []) (GoX := fun v4 : MS => gw_G p l e (rmOf 4 100) s m args below meth c D A (CtM D below (some (.int o.1)) (wM cI a o.2) A args s) 13 0 0 (wM cI a v4) [(0, .ref (a 0)), (1, .int p1), (2, .ref (a 9)), (3, .int p2), (4, .int p3), (6, .int q3)] 51 []) h (fun v4 h => ?_) (fun x4 K4 X4 I4 h => ?_)
  · refine gw_aload_n C dX4_split_51 0 rfl ?_
    refine gw_iload_n C dX4_split_52 1 rfl ?_
    refine gw_bind h (fun q9 hq9 h => ?_)
    refine gw_whole (st2 := []) C (run_V (rest := []) C (c_X4_dropEnd l D cI cJ cO a v4 p1 hq9) w_X4_dropEnd 0 3 rfl rfl rfl rfl rfl (Nat.le_of_ble_eq_true rfl) dX4_split_53 ⟨Nat.zero_le _, Nat.zero_le _⟩) rfl ?_
    refine gw_aload_n C dX4_split_56 0 rfl ?_
    refine gw_get C dX4_split_57 0 3 1 rfl rfl iX4 (by decide) f7 rfl ?_
    refine gw_iconst (v := (0 : Int32)) C dX4_split_60 rfl ?_
    refine gw_iload_n C dX4_split_61 1 rfl ?_
    refine gw_iadd C dX4_split_62 ?_
    refine gw_iconst (v := (1 : Int32)) C dX4_split_63 rfl ?_
    refine gw_chk h (fun b10 h => ?_)
    refine gw_lt h (fun t11 et11 h => ?_)
    refine gw_iast (ws' := wM cI a t11) C dX4_split_64 1 0 rfl rfl b10 (by subst et11; rfl) ?_
    refine gw_iload_n C dX4_split_65 1 rfl ?_
    refine gw_istore C dX4_split_66 [(7, .int p1), (0, .ref (a 0)), (1, .int p1), (2, .ref (a 9)), (3, .int p2), (4, .int p3), (6, .int q3)] (by decide) rfl ?_
    refine gw_iconst (v := (0 : Int32)) C dX4_split_68 rfl ?_
    refine gw_istore C dX4_split_69 [(8, .int (0 : Int32)), (7, .int p1), (0, .ref (a 0)), (1, .int p1), (2, .ref (a 9)), (3, .int p2), (4, .int p3), (6, .int q3)] (by decide) rfl ?_
    refine gw_sub [2, 4, 5, 6, 7, 1, 0] rfl ?_
    refine gw_lpt (x0 := (p1, (0 : Int32), t11)) (Go := fun x12 : Int32 × Int32 × MS => gw_G p l e (rmOf 4 100) s m args below meth c D A (CtM D below (some (.int o.1)) (wM cI a o.2) A args s) 13 0 0 (wM cI a x12.2.2) [(0, .ref (a 0)), (2, .ref (a 9)), (3, .int p2), (4, .int p3), (6, .int q3), (7, .int x12.1), (8, .int x12.2.1)] 71 []) h (fun x12 K12 X12 I12 h => ?_)
    refine gw_iload C dX4_split_71 6 rfl ?_
    refine gw_iload C dX4_split_73 4 rfl ?_
    refine gw_lt h (fun j13 ej13 h => ?_)
    have J13 : ∀ v13 : Unit, Rs K12 o (j13 v13) → gw_G p l e (rmOf 4 100) s m args below meth c D A (CtM D below (some (.int o.1)) (wM cI a o.2) A args s) 13 0 0 (wM cI a x12.2.2) [(0, .ref (a 0)), (2, .ref (a 9)), (3, .int p2), (4, .int p3), (6, .int q3), (7, .int x12.1), (8, .int x12.2.1)] 145 [] := by
      intro v13 h
      have h := gw_app ej13 h
      refine gw_iload C dX4_split_145 6 rfl ?_
      refine gw_iload C dX4_split_147 4 rfl ?_
      refine gw_lt h (fun j24 ej24 h => ?_)
      have J24 : ∀ v24 : Int32, Rs K12 o (j24 v24) → gw_G p l e (rmOf 4 100) s m args below meth c D A (CtM D below (some (.int o.1)) (wM cI a o.2) A args s) 13 0 0 (wM cI a x12.2.2) [(0, .ref (a 0)), (2, .ref (a 9)), (3, .int p2), (4, .int p3), (6, .int q3), (7, .int x12.1), (8, .int x12.2.1)] 163 [.int v24] := by
        intro v24 h
        have h := gw_app ej24 h
        refine gw_istore C dX4_split_163 [(9, .int v24), (0, .ref (a 0)), (2, .ref (a 9)), (3, .int p2), (4, .int p3), (6, .int q3), (7, .int x12.1), (8, .int x12.2.1)] (by decide) rfl ?_
        refine gw_iload_n C dX4_split_165 3 rfl ?_
        refine gw_iload C dX4_split_166 7 rfl ?_
        refine gw_iadd C dX4_split_168 ?_
        refine gw_iload C dX4_split_169 4 rfl ?_
        refine gw_lt h (fun j27 ej27 h => ?_)
        have J27 : ∀ v27 : Int32, Rs K12 o (j27 v27) → gw_G p l e (rmOf 4 100) s m args below meth c D A (CtM D below (some (.int o.1)) (wM cI a o.2) A args s) 13 0 0 (wM cI a x12.2.2) [(0, .ref (a 0)), (2, .ref (a 9)), (3, .int p2), (4, .int p3), (6, .int q3), (7, .int x12.1), (8, .int x12.2.1), (9, .int v24)] 184 [.int v27] := by
          intro v27 h
          have h := gw_app ej27 h
          refine gw_istore C dX4_split_184 [(10, .int v27), (0, .ref (a 0)), (2, .ref (a 9)), (3, .int p2), (4, .int p3), (6, .int q3), (7, .int x12.1), (8, .int x12.2.1), (9, .int v24)] (by decide) rfl ?_
          refine gw_aload_n C dX4_split_186 1 rfl ?_
          refine gw_iload C dX4_split_187 6 rfl ?_
          refine gw_iconst (v := (1 : Int32)) C dX4_split_189 rfl ?_
          refine gw_iload C dX4_split_190 8 rfl ?_
          refine gw_ishl C dX4_split_192 ?_
          refine gw_iconst (v := (1 : Int32)) C dX4_split_193 rfl ?_
          refine gw_iload C dX4_split_194 0 rfl ?_
          refine gw_ishl C dX4_split_196 ?_
          refine gw_ior C dX4_split_197 ?_
          refine gw_bind h (fun q30 hq30 h => ?_)
          refine gw_whole (st2 := [.int q30.1]) C (run_V (rest := []) C (c_X4_open l D cI cJ cO a x12.2.2 x12.1 (((1 : Int32) <<< (v24 &&& 31)) ||| ((1 : Int32) <<< (v27 &&& 31))) hq30) w_X4_open 0 3 rfl rfl rfl rfl rfl (Nat.le_of_ble_eq_true rfl) dX4_split_198 ⟨Nat.zero_le _, Nat.zero_le _⟩) rfl ?_
          refine gw_if_ne (tgt := 206) C dX4_split_201 (by decide) h (fun c31 h => ?_) (fun c31 h => ?_)
          · refine gw_iconst (v := (2 : Int32)) C dX4_split_204 rfl ?_
            have h := gw_some h
            have h := X12 _ h
            have ho := Option.some.inj h
            subst ho
            exact gw_iret C dX4_split_205
          · refine gw_aload_n C dX4_split_206 1 rfl ?_
            refine gw_iload C dX4_split_207 6 rfl ?_
            refine gw_iload C dX4_split_209 8 rfl ?_
            refine gw_iconst (v := (2 : Int32)) C dX4_split_211 rfl ?_
            refine gw_bind h (fun q32 hq32 h => ?_)
            refine gw_whole (st2 := [.int q32.1]) C (run_V (rest := []) C (c_X4_putChild l D cI cJ cO a q30.2 x12.1 v24 (2 : Int32) hq32) w_X4_putChild 0 3 rfl rfl rfl rfl rfl (Nat.le_of_ble_eq_true rfl) dX4_split_212 ⟨Nat.zero_le _, Nat.zero_le _⟩) rfl ?_
            refine gw_istore C dX4_split_215 [(11, .int q32.1), (10, .int v27), (0, .ref (a 0)), (2, .ref (a 9)), (3, .int p2), (4, .int p3), (6, .int q3), (7, .int x12.1), (8, .int x12.2.1), (9, .int v24)] (by decide) rfl ?_
            refine gw_aload_n C dX4_split_217 2 rfl ?_
            refine gw_aload_n C dX4_split_218 2 rfl ?_
            refine gw_iload C dX4_split_219 7 rfl ?_
            refine gw_iload C dX4_split_221 1 rfl ?_
            refine gw_iconst (v := (2 : Int32)) C dX4_split_223 rfl ?_
            refine gw_bind h (fun q33 hq33 h => ?_)
            refine gw_whole (st2 := [.int q33.1, .ref (a 0)]) C (run_V (rest := [.ref (a 0)]) C (c_X4_putChild l D cI cJ cO a q32.2 x12.1 v27 (2 : Int32) hq33) w_X4_putChild 0 3 rfl rfl rfl rfl rfl (Nat.le_of_ble_eq_true rfl) dX4_split_224 ⟨Nat.zero_le _, Nat.zero_le _⟩) rfl ?_
            refine gw_lt h (fun t34 et34 h => ?_)
            refine gw_put (ws' := wM cI a t34) (ty := .int) C dX4_split_227 0 3 8 tyX4 tyX4_ok nmX4 rfl rfl iX4 (by decide) f110 rfl (tyX4_ok 8 (by decide)) rfl rfl (Nat.le_of_ble_eq_true rfl) (by subst et34; rfl) ?_
            refine gw_aload_n C dX4_split_230 2 rfl ?_
            refine gw_iload C dX4_split_231 0 rfl ?_
            refine gw_aload_n C dX4_split_233 2 rfl ?_
            refine gw_get C dX4_split_234 0 3 7 rfl rfl iX4 (by decide) f22 rfl ?_
            refine gw_iload C dX4_split_237 8 rfl ?_
            refine gw_iload C dX4_split_239 6 rfl ?_
            refine gw_lt h (fun j35 ej35 h => ?_)
            have J35 : ∀ v35 : Int32, Rs K12 o (j35 v35) → gw_G p l e (rmOf 4 100) s m args below meth c D A (CtM D below (some (.int o.1)) (wM cI a o.2) A args s) 13 0 0 (wM cI a t34) [(0, .ref (a 0)), (2, .ref (a 9)), (3, .int p2), (4, .int p3), (6, .int q3), (8, .int x12.2.1)] 253 [.int v35, .ref (a 5), .int q32.1, .ref (a 0)] := by
              intro v35 h
              have h := gw_app ej35 h
              refine gw_iload C dX4_split_253 4 rfl ?_
              refine gw_bind h (fun q37 hq37 h => ?_)
              refine gw_whole (st2 := [.int q37.1]) C (run_V (rest := []) C (c_X4_giveEnd_5 l D cI cJ cO a t34 q32.1 v35 q3 hq37) w_X4_giveEnd 0 3 rfl rfl rfl rfl rfl (Nat.le_of_ble_eq_true rfl) dX4_split_255 ⟨Nat.zero_le _, Nat.zero_le _⟩) rfl ?_
              refine gw_istore C dX4_split_258 [(12, .int q37.1), (0, .ref (a 0)), (2, .ref (a 9)), (3, .int p2), (4, .int p3), (6, .int q3), (8, .int x12.2.1)] (by decide) rfl ?_
              refine gw_iload C dX4_split_260 0 rfl ?_
              refine gw_if_eq (tgt := 303) C dX4_split_262 (by decide) h (fun c38 h => ?_) (fun c38 h => ?_)
              · refine gw_iconst (v := (2 : Int32)) C dX4_split_303 rfl ?_
                have h := gw_some h
                have h := X12 _ h
                have ho := Option.some.inj h
                subst ho
                exact gw_iret C dX4_split_304
              · refine gw_aload_n C dX4_split_265 1 rfl ?_
                refine gw_aload_n C dX4_split_266 1 rfl ?_
                refine gw_get C dX4_split_267 0 3 8 rfl rfl iX4 (by decide) f110 rfl ?_
                refine gw_aload_n C dX4_split_270 2 rfl ?_
                refine gw_iload_n C dX4_split_271 3 rfl ?_
                refine gw_iload C dX4_split_272 6 rfl ?_
                refine gw_iadd C dX4_split_274 ?_
                refine gw_iload C dX4_split_275 4 rfl ?_
                refine gw_lt h (fun j39 ej39 h => ?_)
                have J39 : ∀ v39 : Int32, Rs K12 o (j39 v39) → gw_G p l e (rmOf 4 100) s m args below meth c D A (CtM D below (some (.int o.1)) (wM cI a o.2) A args s) 13 0 0 (wM cI a q37.2) [(4, .int p3)] 291 [.int v39, .ref (a 9), .int (mLn q37.2), .ref (a 0)] := by
                  intro v39 h
                  have h := gw_app ej39 h
                  refine gw_iload C dX4_split_291 0 rfl ?_
                  refine gw_bind h (fun q41 hq41 h => ?_)
                  refine gw_whole (st2 := [.int q41.1]) C (run_V (rest := []) C (c_X4_giveEnd_9 l D cI cJ cO a q37.2 (mLn q37.2) v39 p3 hq41) w_X4_giveEnd 0 3 rfl rfl rfl rfl rfl (Nat.le_of_ble_eq_true rfl) dX4_split_293 ⟨Nat.zero_le _, Nat.zero_le _⟩) rfl ?_
                  refine gw_if_eq (tgt := 303) C dX4_split_296 (by decide) h (fun c42 h => ?_) (fun c42 h => ?_)
                  · refine gw_iconst (v := (2 : Int32)) C dX4_split_303 rfl ?_
                    have h := gw_some h
                    have h := X12 _ h
                    have ho := Option.some.inj h
                    subst ho
                    exact gw_iret C dX4_split_304
                  · refine gw_iconst (v := (0 : Int32)) C dX4_split_299 rfl ?_
                    refine gw_goto (tgt := 304) C dX4_split_300 (by decide) ?_
                    have h := gw_some h
                    have h := X12 _ h
                    have ho := Option.some.inj h
                    subst ho
                    exact gw_iret C dX4_split_304
                refine gw_icmp_ge (tgt := 289) C dX4_split_277 (by decide) h (fun c40 h => ?_) (fun c40 h => ?_)
                · refine gw_iload C dX4_split_289 4 rfl ?_
                  refine gw_sub [4] rfl ?_
                  exact J39 _ h
                · refine gw_iload_n C dX4_split_280 3 rfl ?_
                  refine gw_iload C dX4_split_281 6 rfl ?_
                  refine gw_iadd C dX4_split_283 ?_
                  refine gw_iconst (v := (1 : Int32)) C dX4_split_284 rfl ?_
                  refine gw_iadd C dX4_split_285 ?_
                  refine gw_goto (tgt := 291) C dX4_split_286 (by decide) ?_
                  refine gw_sub [4] rfl ?_
                  exact J39 _ h
            refine gw_icmp_ge (tgt := 251) C dX4_split_241 (by decide) h (fun c36 h => ?_) (fun c36 h => ?_)
            · refine gw_iload C dX4_split_251 6 rfl ?_
              refine gw_sub [2, 3, 4, 5, 6, 8] rfl ?_
              exact J35 _ h
            · refine gw_iload C dX4_split_244 8 rfl ?_
              refine gw_iconst (v := (1 : Int32)) C dX4_split_246 rfl ?_
              refine gw_iadd C dX4_split_247 ?_
              refine gw_goto (tgt := 253) C dX4_split_248 (by decide) ?_
              refine gw_sub [2, 3, 4, 5, 6, 8] rfl ?_
              exact J35 _ h
        refine gw_icmp_ge (tgt := 183) C dX4_split_171 (by decide) h (fun c28 h => ?_) (fun c28 h => ?_)
        · refine gw_iconst (v := (0 : Int32)) C dX4_split_183 rfl ?_
          refine gw_sub [1, 2, 3, 4, 5, 6, 7, 0] rfl ?_
          exact J27 _ h
        · refine gw_aload_n C dX4_split_174 2 rfl ?_
          refine gw_iload_n C dX4_split_175 3 rfl ?_
          refine gw_iload C dX4_split_176 7 rfl ?_
          refine gw_iadd C dX4_split_178 ?_
          refine gw_chk h (fun b29 h => ?_)
          refine gw_iald C dX4_split_179 9 0 rfl rfl b29 ?_
          refine gw_goto (tgt := 184) C dX4_split_180 (by decide) ?_
          refine gw_sub [1, 2, 3, 4, 5, 6, 7, 0] rfl ?_
          exact J27 _ h
      refine gw_icmp_ge (tgt := 162) C dX4_split_149 (by decide) h (fun c25 h => ?_) (fun c25 h => ?_)
      · refine gw_iconst (v := (0 : Int32)) C dX4_split_162 rfl ?_
        exact J24 _ h
      · refine gw_aload_n C dX4_split_152 0 rfl ?_
        refine gw_get C dX4_split_153 0 3 7 rfl rfl iX4 (by decide) f22 rfl ?_
        refine gw_iload C dX4_split_156 6 rfl ?_
        refine gw_chk h (fun b26 h => ?_)
        refine gw_iald C dX4_split_158 5 0 rfl rfl b26 ?_
        refine gw_goto (tgt := 163) C dX4_split_159 (by decide) ?_
        exact J24 _ h
    refine gw_icmp_ge (tgt := 145) C dX4_split_75 (by decide) h (fun c14 h => ?_) (fun c14 h => ?_)
    · exact J13 _ h
    · refine gw_iload_n C dX4_split_78 2 rfl ?_
      refine gw_iload C dX4_split_79 6 rfl ?_
      refine gw_iadd C dX4_split_81 ?_
      refine gw_iload C dX4_split_82 3 rfl ?_
      refine gw_icmp_ge (tgt := 145) C dX4_split_84 (by decide) h (fun c15 h => ?_) (fun c15 h => ?_)
      · exact J13 _ h
      · refine gw_aload_n C dX4_split_87 0 rfl ?_
        refine gw_get C dX4_split_88 0 3 7 rfl rfl iX4 (by decide) f22 rfl ?_
        refine gw_iload C dX4_split_91 6 rfl ?_
        refine gw_chk h (fun b16 h => ?_)
        refine gw_iald C dX4_split_93 5 0 rfl rfl b16 ?_
        refine gw_aload_n C dX4_split_94 1 rfl ?_
        refine gw_iload_n C dX4_split_95 2 rfl ?_
        refine gw_iload C dX4_split_96 6 rfl ?_
        refine gw_iadd C dX4_split_98 ?_
        refine gw_chk h (fun b17 h => ?_)
        refine gw_iald C dX4_split_99 9 0 rfl rfl b17 ?_
        refine gw_icmp_ne (tgt := 145) C dX4_split_100 (by decide) h (fun c18 h => ?_) (fun c18 h => ?_)
        · refine gw_aload_n C dX4_split_103 0 rfl ?_
          refine gw_iload C dX4_split_104 5 rfl ?_
          refine gw_iconst (v := (1 : Int32)) C dX4_split_106 rfl ?_
          refine gw_aload_n C dX4_split_107 0 rfl ?_
          refine gw_get C dX4_split_108 0 3 7 rfl rfl iX4 (by decide) f22 rfl ?_
          refine gw_iload C dX4_split_111 6 rfl ?_
          refine gw_chk h (fun b19 h => ?_)
          refine gw_iald C dX4_split_113 5 0 rfl rfl b19 ?_
          refine gw_ishl C dX4_split_114 ?_
          refine gw_bind h (fun q20 hq20 h => ?_)
          refine gw_whole (st2 := [.int q20.1]) C (run_V (rest := []) C (c_X4_open l D cI cJ cO a x12.2.2 x12.1 ((1 : Int32) <<< ((mOl x12.2.2 x12.2.1.toNatClampNeg) &&& 31)) hq20) w_X4_open 0 3 rfl rfl rfl rfl rfl (Nat.le_of_ble_eq_true rfl) dX4_split_115 ⟨Nat.zero_le _, Nat.zero_le _⟩) rfl ?_
          refine gw_if_ne (tgt := 123) C dX4_split_118 (by decide) h (fun c21 h => ?_) (fun c21 h => ?_)
          · refine gw_iconst (v := (2 : Int32)) C dX4_split_121 rfl ?_
            have h := gw_some h
            have h := X12 _ h
            have ho := Option.some.inj h
            subst ho
            exact gw_iret C dX4_split_122
          · refine gw_aload_n C dX4_split_123 0 rfl ?_
            refine gw_iload C dX4_split_124 5 rfl ?_
            refine gw_aload_n C dX4_split_126 0 rfl ?_
            refine gw_get C dX4_split_127 0 3 7 rfl rfl iX4 (by decide) f22 rfl ?_
            refine gw_iload C dX4_split_130 6 rfl ?_
            refine gw_chk h (fun b22 h => ?_)
            refine gw_iald C dX4_split_132 5 0 rfl rfl b22 ?_
            refine gw_iconst (v := (1 : Int32)) C dX4_split_133 rfl ?_
            refine gw_bind h (fun q23 hq23 h => ?_)
            refine gw_whole (st2 := [.int q23.1]) C (run_V (rest := []) C (c_X4_putChild l D cI cJ cO a q20.2 x12.1 (mOl q20.2 x12.2.1.toNatClampNeg) (1 : Int32) hq23) w_X4_putChild 0 3 rfl rfl rfl rfl rfl (Nat.le_of_ble_eq_true rfl) dX4_split_134 ⟨Nat.zero_le _, Nat.zero_le _⟩) rfl ?_
            refine gw_istore C dX4_split_137 [(7, .int q23.1), (0, .ref (a 0)), (2, .ref (a 9)), (3, .int p2), (4, .int p3), (6, .int q3), (8, .int x12.2.1)] (by decide) rfl ?_
            refine gw_iinc (v := (x12.2.1 + (1 : Int32))) C dX4_split_139 [(8, .int (x12.2.1 + (1 : Int32))), (7, .int q23.1), (0, .ref (a 0)), (2, .ref (a 9)), (3, .int p2), (4, .int p3), (6, .int q3)] 6 rfl rfl (by decide) rfl ?_
            refine gw_goto (tgt := 71) C dX4_split_142 (by decide) ?_
            refine gw_sub [2, 3, 4, 5, 6, 1, 0] rfl ?_
            have h := gw_some h
            exact I12 _ h
        · exact J13 _ h
  · refine gw_iload C dX4_split_23 7 rfl ?_
    refine gw_iload C dX4_split_25 6 rfl ?_
    refine gw_icmp_ge (tgt := 51) C dX4_split_27 (by decide) h (fun c5 h => ?_) (fun c5 h => ?_)
    · refine gw_sub [0, 1, 2, 3, 4, 6] rfl ?_
      have h := gw_some h
      exact X4 _ h
    · refine gw_aload_n C dX4_split_30 0 rfl ?_
      refine gw_get C dX4_split_31 0 3 7 rfl rfl iX4 (by decide) f22 rfl ?_
      refine gw_iload C dX4_split_34 7 rfl ?_
      refine gw_aload_n C dX4_split_36 0 rfl ?_
      refine gw_iload C dX4_split_37 5 rfl ?_
      refine gw_iload C dX4_split_39 7 rfl ?_
      refine gw_bind h (fun q6 hq6 h => ?_)
      refine gw_whole (st2 := [.int q6, .int x4.1, .ref (a 5)]) C (run_V (rest := [.int x4.1, .ref (a 5)]) C (c_X4_letterOf l D cI cJ cO a x4.2 v2 x4.1 hq6) w_X4_letterOf 0 3 rfl rfl rfl rfl rfl (Nat.le_of_ble_eq_true rfl) dX4_split_41 ⟨Nat.zero_le _, Nat.zero_le _⟩) rfl ?_
      refine gw_chk h (fun b7 h => ?_)
      refine gw_lt h (fun t8 et8 h => ?_)
      refine gw_iast (ws' := wM cI a t8) C dX4_split_44 5 0 rfl rfl b7 (by subst et8; rfl) ?_
      refine gw_iinc (v := (x4.1 + (1 : Int32))) C dX4_split_45 [(7, .int (x4.1 + (1 : Int32))), (0, .ref (a 0)), (1, .int p1), (2, .ref (a 9)), (3, .int p2), (4, .int p3), (5, .int v2), (6, .int q3)] 7 rfl rfl (by decide) rfl ?_
      refine gw_goto (tgt := 23) C dX4_split_48 (by decide) ?_
      refine gw_sub [1, 2, 3, 4, 5, 6, 7, 0] rfl ?_
      have h := gw_some h
      exact I4 _ h
theorem hd_X4_addWord : yX4_addWord.cls = RX4 ∧ yX4_addWord.cls ≠ "java/lang/invoke/MethodHandle" ∧ yX4_addWord.cls ≠ "java/lang/invoke/VarHandle" ∧ (parseMethodDescriptor yX4_addWord.desc).map (fun d => d.parameters.length) = some 2 := by decide +kernel
set_option maxHeartbeats 4000000 in
set_option maxRecDepth 100000 in
theorem c_X4_addWord_4 (l : Launch) (D : va_G) (cI cJ cO : ClassId) (a : Nat → Nat) (t : MS) (p1 : Int32) {o : Int32 × MS} (h : fM_addWord mBu p1 t = some o) : Ct l D (tysA cI cJ cO) yX4_addWord wsX4_addWord (rmOf 6 152) [.ref (a 0), .ref (a 4), .int p1] (wM cI a t) (some (.int o.1)) (wM cI a o.2) := by
  refine Ct_of (own := RX4) cX4_addWord 8 (some .int) (by decide +kernel) rfl rfl (Nat.le_of_ble_eq_true rfl) ?_
  intro p e s m args below meth c A C hnm
  have iX4 : ∀ w ∈ u_ws RX4 TX4 16, w ∈ wsX4_addWord := fun w h => List.mem_cons_of_mem _ (List.mem_append_right _ h)
  have f7 : Cond.fieldLink RX4 7 (TX4 1).1 (TX4 1).2.1 (TX4 1).2.2.1 ∈ wsX4_addWord := List.mem_of_getElem? (i := 2) rfl
  have f110 : Cond.fieldLink RX4 110 (TX4 8).1 (TX4 8).2.1 (TX4 8).2.2.1 ∈ wsX4_addWord := List.mem_of_getElem? (i := 1) rfl
  have w_X4_addLeaf := cwV (R := (rmOf 6 152)) (rm := rmOf 5 126) (s := s) (args := args) 5 C.1.2.2.2.2 gX4_addWord_X4_addLeaf rfl rfl rfl hd_X4_addLeaf ⟨Nat.le_of_ble_eq_true rfl, Nat.le_of_ble_eq_true rfl⟩
  have w_X4_child := cwV (R := (rmOf 6 152)) (rm := rmOf 1 21) (s := s) (args := args) 2 C.1.2.2.2.2 gX4_addWord_X4_child rfl rfl rfl hd_X4_child ⟨Nat.le_of_ble_eq_true rfl, Nat.le_of_ble_eq_true rfl⟩
  have w_X4_isEnd := cwV (R := (rmOf 6 152)) (rm := rmOf 1 22) (s := s) (args := args) 4 C.1.2.2.2.2 gX4_addWord_X4_isEnd rfl rfl rfl hd_X4_isEnd ⟨Nat.le_of_ble_eq_true rfl, Nat.le_of_ble_eq_true rfl⟩
  have w_X4_isLeaf := cwV (R := (rmOf 6 152)) (rm := rmOf 0 0) (s := s) (args := args) 1 C.1.2.2.2.2 gX4_addWord_X4_isLeaf rfl rfl rfl hd_X4_isLeaf ⟨Nat.le_of_ble_eq_true rfl, Nat.le_of_ble_eq_true rfl⟩
  have w_X4_split := cwV (R := (rmOf 6 152)) (rm := rmOf 4 100) (s := s) (args := args) 4 C.1.2.2.2.2 gX4_addWord_X4_split rfl rfl rfl hd_X4_split ⟨Nat.le_of_ble_eq_true rfl, Nat.le_of_ble_eq_true rfl⟩
  have h := gw_top h
  unfold fM_addWord at h
  show gw_G p l e (rmOf 6 152) s m args below meth c D A (CtM D below (some (.int o.1)) (wM cI a o.2) A args s) 8 0 0 (wM cI a t) [(0, .ref (a 0)), (1, .ref (a 4)), (2, .int p1)] 0 []
  refine gw_iconst (v := (0 : Int32)) C dX4_addWord_0 rfl ?_
  refine gw_istore_n C dX4_addWord_1 [(3, .int (0 : Int32)), (0, .ref (a 0)), (1, .ref (a 4)), (2, .int p1)] rfl (by decide) rfl ?_
  refine gw_iconst (v := (0 : Int32)) C dX4_addWord_2 rfl ?_
  refine gw_istore C dX4_addWord_3 [(4, .int (0 : Int32)), (3, .int (0 : Int32)), (0, .ref (a 0)), (1, .ref (a 4)), (2, .int p1)] (by decide) rfl ?_
  refine gw_sub [2, 3, 4, 1, 0] rfl ?_
  refine gw_lpt (x0 := ((0 : Int32), (0 : Int32))) (Go := fun x1 : Int32 × Int32 => gw_G p l e (rmOf 6 152) s m args below meth c D A (CtM D below (some (.int o.1)) (wM cI a o.2) A args s) 8 0 0 (wM cI a t) [(0, .ref (a 0)), (1, .ref (a 4)), (2, .int p1), (3, .int x1.1), (4, .int x1.2)] 5 []) h (fun x1 K1 X1 I1 h => ?_)
  refine gw_iload C dX4_addWord_5 4 rfl ?_
  refine gw_iload_n C dX4_addWord_7 2 rfl ?_
  refine gw_lt h (fun j2 ej2 h => ?_)
  have J2 : ∀ v2 : Int32, Rs K1 o (j2 v2) → gw_G p l e (rmOf 6 152) s m args below meth c D A (CtM D below (some (.int o.1)) (wM cI a o.2) A args s) 8 0 0 (wM cI a t) [(0, .ref (a 0)), (1, .ref (a 4)), (2, .int p1), (3, .int x1.1), (4, .int x1.2)] 19 [.int v2] := by
    intro v2 h
    have h := gw_app ej2 h
    refine gw_istore C dX4_addWord_19 [(5, .int v2), (0, .ref (a 0)), (1, .ref (a 4)), (2, .int p1), (3, .int x1.1), (4, .int x1.2)] (by decide) rfl ?_
    refine gw_aload_n C dX4_addWord_21 1 rfl ?_
    refine gw_iload_n C dX4_addWord_22 4 rfl ?_
    refine gw_iload C dX4_addWord_23 0 rfl ?_
    refine gw_bind h (fun q5 hq5 h => ?_)
    refine gw_whole (st2 := [.int q5]) C (run_V (rest := []) C (c_X4_child l D cI cJ cO a t x1.1 v2 hq5) w_X4_child 0 3 rfl rfl rfl rfl rfl (Nat.le_of_ble_eq_true rfl) dX4_addWord_25 ⟨Nat.zero_le _, Nat.zero_le _⟩) rfl ?_
    refine gw_istore C dX4_addWord_28 [(6, .int q5), (5, .int v2), (0, .ref (a 0)), (1, .ref (a 4)), (2, .int p1), (3, .int x1.1), (4, .int x1.2)] (by decide) rfl ?_
    refine gw_iload C dX4_addWord_30 0 rfl ?_
    refine gw_iconst (v := (-1 : Int32)) C dX4_addWord_32 rfl ?_
    refine gw_icmp_ne (tgt := 48) C dX4_addWord_33 (by decide) h (fun c6 h => ?_) (fun c6 h => ?_)
    · refine gw_aload_n C dX4_addWord_36 2 rfl ?_
      refine gw_iload_n C dX4_addWord_37 5 rfl ?_
      refine gw_iload C dX4_addWord_38 1 rfl ?_
      refine gw_aload_n C dX4_addWord_40 3 rfl ?_
      refine gw_iload C dX4_addWord_41 6 rfl ?_
      refine gw_iload_n C dX4_addWord_43 4 rfl ?_
      refine gw_bind h (fun q7 hq7 h => ?_)
      refine gw_whole (st2 := [.int q7.1]) C (run_V (rest := []) C (c_X4_addLeaf_4 l D cI cJ cO a t x1.1 v2 x1.2 p1 hq7) w_X4_addLeaf 0 3 rfl rfl rfl rfl rfl (Nat.le_of_ble_eq_true rfl) dX4_addWord_44 ⟨Nat.zero_le _, Nat.zero_le _⟩) rfl ?_
      have h := gw_some h
      have h := X1 _ h
      have ho := Option.some.inj h
      subst ho
      exact gw_iret C dX4_addWord_47
    · refine gw_iload C dX4_addWord_48 6 rfl ?_
      refine gw_iload_n C dX4_addWord_50 4 rfl ?_
      refine gw_lt h (fun j8 ej8 h => ?_)
      have J8 : ∀ v8 : Int32, Rs K1 o (j8 v8) → gw_G p l e (rmOf 6 152) s m args below meth c D A (CtM D below (some (.int o.1)) (wM cI a o.2) A args s) 8 0 0 (wM cI a t) [(0, .ref (a 0)), (1, .ref (a 4)), (2, .int p1), (4, .int x1.2), (6, .int q5)] 62 [.int v8] := by
        intro v8 h
        have h := gw_app ej8 h
        refine gw_istore C dX4_addWord_62 [(7, .int v8), (0, .ref (a 0)), (1, .ref (a 4)), (2, .int p1), (4, .int x1.2), (6, .int q5)] (by decide) rfl ?_
        refine gw_aload_n C dX4_addWord_64 1 rfl ?_
        refine gw_iload C dX4_addWord_65 5 rfl ?_
        refine gw_bind h (fun q10 hq10 h => ?_)
        refine gw_whole (st2 := [.int q10]) C (run_V (rest := []) C (c_X4_isLeaf l D cI cJ cO a t q5 hq10) w_X4_isLeaf 0 3 rfl rfl rfl rfl rfl (Nat.le_of_ble_eq_true rfl) dX4_addWord_67 ⟨Nat.zero_le _, Nat.zero_le _⟩) rfl ?_
        refine gw_if_eq (tgt := 116) C dX4_addWord_70 (by decide) h (fun c11 h => ?_) (fun c11 h => ?_)
        · refine gw_iload C dX4_addWord_116 5 rfl ?_
          refine gw_istore_n C dX4_addWord_118 [(3, .int q5), (7, .int v8), (0, .ref (a 0)), (1, .ref (a 4)), (2, .int p1), (4, .int x1.2), (6, .int q5)] rfl (by decide) rfl ?_
          refine gw_iinc (v := (x1.2 + (1 : Int32))) C dX4_addWord_119 [(4, .int (x1.2 + (1 : Int32))), (3, .int q5), (7, .int v8), (0, .ref (a 0)), (1, .ref (a 4)), (2, .int p1), (6, .int q5)] 5 rfl rfl (by decide) rfl ?_
          refine gw_goto (tgt := 5) C dX4_addWord_122 (by decide) ?_
          refine gw_sub [3, 4, 5, 1, 0] rfl ?_
          have h := gw_some h
          exact I1 _ h
        · refine gw_aload_n C dX4_addWord_73 1 rfl ?_
          refine gw_iload C dX4_addWord_74 5 rfl ?_
          refine gw_lt h (fun t12 et12 h => ?_)
          refine gw_put (ws' := wM cI a t12) (ty := .int) C dX4_addWord_76 0 3 8 tyX4 tyX4_ok nmX4 rfl rfl iX4 (by decide) f110 rfl (tyX4_ok 8 (by decide)) rfl rfl (Nat.le_of_ble_eq_true rfl) (by subst et12; rfl) ?_
          refine gw_aload_n C dX4_addWord_79 1 rfl ?_
          refine gw_aload_n C dX4_addWord_80 1 rfl ?_
          refine gw_get C dX4_addWord_81 0 3 1 rfl rfl iX4 (by decide) f7 rfl ?_
          refine gw_sipush (v := (640 : Int32)) C dX4_addWord_84 rfl ?_
          refine gw_iload C dX4_addWord_87 5 rfl ?_
          refine gw_iadd C dX4_addWord_89 ?_
          refine gw_chk h (fun b13 h => ?_)
          refine gw_iald C dX4_addWord_90 1 0 rfl rfl b13 ?_
          refine gw_aload_n C dX4_addWord_91 2 rfl ?_
          refine gw_iload C dX4_addWord_92 0 rfl ?_
          refine gw_iload_n C dX4_addWord_94 3 rfl ?_
          refine gw_bind h (fun q14 hq14 h => ?_)
          refine gw_whole (st2 := [.int q14]) C (run_V (rest := []) C (c_X4_isEnd_4 l D cI cJ cO a t12 (mZ t12 ((640 : Int32) + q5).toNatClampNeg) v8 p1 hq14) w_X4_isEnd 0 3 rfl rfl rfl rfl rfl (Nat.le_of_ble_eq_true rfl) dX4_addWord_95 ⟨Nat.zero_le _, Nat.zero_le _⟩) rfl ?_
          refine gw_if_eq (tgt := 105) C dX4_addWord_98 (by decide) h (fun c15 h => ?_) (fun c15 h => ?_)
          · refine gw_aload_n C dX4_addWord_105 1 rfl ?_
            refine gw_iload C dX4_addWord_106 5 rfl ?_
            refine gw_aload_n C dX4_addWord_108 2 rfl ?_
            refine gw_iload C dX4_addWord_109 0 rfl ?_
            refine gw_iload_n C dX4_addWord_111 3 rfl ?_
            refine gw_bind h (fun q16 hq16 h => ?_)
            refine gw_whole (st2 := [.int q16.1]) C (run_V (rest := []) C (c_X4_split_4 l D cI cJ cO a t12 q5 v8 p1 hq16) w_X4_split 0 3 rfl rfl rfl rfl rfl (Nat.le_of_ble_eq_true rfl) dX4_addWord_112 ⟨Nat.zero_le _, Nat.zero_le _⟩) rfl ?_
            have h := gw_some h
            have h := X1 _ h
            have ho := Option.some.inj h
            subst ho
            exact gw_iret C dX4_addWord_115
          · refine gw_iconst (v := (1 : Int32)) C dX4_addWord_101 rfl ?_
            refine gw_goto (tgt := 115) C dX4_addWord_102 (by decide) ?_
            have h := gw_some h
            have h := X1 _ h
            have ho := Option.some.inj h
            subst ho
            exact gw_iret C dX4_addWord_115
      refine gw_icmp_ge (tgt := 61) C dX4_addWord_51 (by decide) h (fun c9 h => ?_) (fun c9 h => ?_)
      · refine gw_iload_n C dX4_addWord_61 4 rfl ?_
        refine gw_sub [2, 3, 4, 6, 0] rfl ?_
        exact J8 _ h
      · refine gw_iload C dX4_addWord_54 6 rfl ?_
        refine gw_iconst (v := (1 : Int32)) C dX4_addWord_56 rfl ?_
        refine gw_iadd C dX4_addWord_57 ?_
        refine gw_goto (tgt := 62) C dX4_addWord_58 (by decide) ?_
        refine gw_sub [2, 3, 4, 6, 0] rfl ?_
        exact J8 _ h
  refine gw_icmp_ge (tgt := 18) C dX4_addWord_8 (by decide) h (fun c3 h => ?_) (fun c3 h => ?_)
  · refine gw_iconst (v := (0 : Int32)) C dX4_addWord_18 rfl ?_
    exact J2 _ h
  · refine gw_aload_n C dX4_addWord_11 1 rfl ?_
    refine gw_iload C dX4_addWord_12 4 rfl ?_
    refine gw_chk h (fun b4 h => ?_)
    refine gw_iald C dX4_addWord_14 4 0 rfl rfl b4 ?_
    refine gw_goto (tgt := 19) C dX4_addWord_15 (by decide) ?_
    exact J2 _ h
set_option maxHeartbeats 4000000 in
set_option maxRecDepth 100000 in
theorem c_X4_addWord_9 (l : Launch) (D : va_G) (cI cJ cO : ClassId) (a : Nat → Nat) (t : MS) (p1 : Int32) {o : Int32 × MS} (h : fM_addWord mRo p1 t = some o) : Ct l D (tysA cI cJ cO) yX4_addWord wsX4_addWord (rmOf 6 152) [.ref (a 0), .ref (a 9), .int p1] (wM cI a t) (some (.int o.1)) (wM cI a o.2) := by
  refine Ct_of (own := RX4) cX4_addWord 8 (some .int) (by decide +kernel) rfl rfl (Nat.le_of_ble_eq_true rfl) ?_
  intro p e s m args below meth c A C hnm
  have iX4 : ∀ w ∈ u_ws RX4 TX4 16, w ∈ wsX4_addWord := fun w h => List.mem_cons_of_mem _ (List.mem_append_right _ h)
  have f7 : Cond.fieldLink RX4 7 (TX4 1).1 (TX4 1).2.1 (TX4 1).2.2.1 ∈ wsX4_addWord := List.mem_of_getElem? (i := 2) rfl
  have f110 : Cond.fieldLink RX4 110 (TX4 8).1 (TX4 8).2.1 (TX4 8).2.2.1 ∈ wsX4_addWord := List.mem_of_getElem? (i := 1) rfl
  have w_X4_addLeaf := cwV (R := (rmOf 6 152)) (rm := rmOf 5 126) (s := s) (args := args) 5 C.1.2.2.2.2 gX4_addWord_X4_addLeaf rfl rfl rfl hd_X4_addLeaf ⟨Nat.le_of_ble_eq_true rfl, Nat.le_of_ble_eq_true rfl⟩
  have w_X4_child := cwV (R := (rmOf 6 152)) (rm := rmOf 1 21) (s := s) (args := args) 2 C.1.2.2.2.2 gX4_addWord_X4_child rfl rfl rfl hd_X4_child ⟨Nat.le_of_ble_eq_true rfl, Nat.le_of_ble_eq_true rfl⟩
  have w_X4_isEnd := cwV (R := (rmOf 6 152)) (rm := rmOf 1 22) (s := s) (args := args) 4 C.1.2.2.2.2 gX4_addWord_X4_isEnd rfl rfl rfl hd_X4_isEnd ⟨Nat.le_of_ble_eq_true rfl, Nat.le_of_ble_eq_true rfl⟩
  have w_X4_isLeaf := cwV (R := (rmOf 6 152)) (rm := rmOf 0 0) (s := s) (args := args) 1 C.1.2.2.2.2 gX4_addWord_X4_isLeaf rfl rfl rfl hd_X4_isLeaf ⟨Nat.le_of_ble_eq_true rfl, Nat.le_of_ble_eq_true rfl⟩
  have w_X4_split := cwV (R := (rmOf 6 152)) (rm := rmOf 4 100) (s := s) (args := args) 4 C.1.2.2.2.2 gX4_addWord_X4_split rfl rfl rfl hd_X4_split ⟨Nat.le_of_ble_eq_true rfl, Nat.le_of_ble_eq_true rfl⟩
  have h := gw_top h
  unfold fM_addWord at h
  show gw_G p l e (rmOf 6 152) s m args below meth c D A (CtM D below (some (.int o.1)) (wM cI a o.2) A args s) 8 0 0 (wM cI a t) [(0, .ref (a 0)), (1, .ref (a 9)), (2, .int p1)] 0 []
  refine gw_iconst (v := (0 : Int32)) C dX4_addWord_0 rfl ?_
  refine gw_istore_n C dX4_addWord_1 [(3, .int (0 : Int32)), (0, .ref (a 0)), (1, .ref (a 9)), (2, .int p1)] rfl (by decide) rfl ?_
  refine gw_iconst (v := (0 : Int32)) C dX4_addWord_2 rfl ?_
  refine gw_istore C dX4_addWord_3 [(4, .int (0 : Int32)), (3, .int (0 : Int32)), (0, .ref (a 0)), (1, .ref (a 9)), (2, .int p1)] (by decide) rfl ?_
  refine gw_sub [2, 3, 4, 1, 0] rfl ?_
  refine gw_lpt (x0 := ((0 : Int32), (0 : Int32))) (Go := fun x1 : Int32 × Int32 => gw_G p l e (rmOf 6 152) s m args below meth c D A (CtM D below (some (.int o.1)) (wM cI a o.2) A args s) 8 0 0 (wM cI a t) [(0, .ref (a 0)), (1, .ref (a 9)), (2, .int p1), (3, .int x1.1), (4, .int x1.2)] 5 []) h (fun x1 K1 X1 I1 h => ?_)
  refine gw_iload C dX4_addWord_5 4 rfl ?_
  refine gw_iload_n C dX4_addWord_7 2 rfl ?_
  refine gw_lt h (fun j2 ej2 h => ?_)
  have J2 : ∀ v2 : Int32, Rs K1 o (j2 v2) → gw_G p l e (rmOf 6 152) s m args below meth c D A (CtM D below (some (.int o.1)) (wM cI a o.2) A args s) 8 0 0 (wM cI a t) [(0, .ref (a 0)), (1, .ref (a 9)), (2, .int p1), (3, .int x1.1), (4, .int x1.2)] 19 [.int v2] := by
    intro v2 h
    have h := gw_app ej2 h
    refine gw_istore C dX4_addWord_19 [(5, .int v2), (0, .ref (a 0)), (1, .ref (a 9)), (2, .int p1), (3, .int x1.1), (4, .int x1.2)] (by decide) rfl ?_
    refine gw_aload_n C dX4_addWord_21 1 rfl ?_
    refine gw_iload_n C dX4_addWord_22 4 rfl ?_
    refine gw_iload C dX4_addWord_23 0 rfl ?_
    refine gw_bind h (fun q5 hq5 h => ?_)
    refine gw_whole (st2 := [.int q5]) C (run_V (rest := []) C (c_X4_child l D cI cJ cO a t x1.1 v2 hq5) w_X4_child 0 3 rfl rfl rfl rfl rfl (Nat.le_of_ble_eq_true rfl) dX4_addWord_25 ⟨Nat.zero_le _, Nat.zero_le _⟩) rfl ?_
    refine gw_istore C dX4_addWord_28 [(6, .int q5), (5, .int v2), (0, .ref (a 0)), (1, .ref (a 9)), (2, .int p1), (3, .int x1.1), (4, .int x1.2)] (by decide) rfl ?_
    refine gw_iload C dX4_addWord_30 0 rfl ?_
    refine gw_iconst (v := (-1 : Int32)) C dX4_addWord_32 rfl ?_
    refine gw_icmp_ne (tgt := 48) C dX4_addWord_33 (by decide) h (fun c6 h => ?_) (fun c6 h => ?_)
    · refine gw_aload_n C dX4_addWord_36 2 rfl ?_
      refine gw_iload_n C dX4_addWord_37 5 rfl ?_
      refine gw_iload C dX4_addWord_38 1 rfl ?_
      refine gw_aload_n C dX4_addWord_40 3 rfl ?_
      refine gw_iload C dX4_addWord_41 6 rfl ?_
      refine gw_iload_n C dX4_addWord_43 4 rfl ?_
      refine gw_bind h (fun q7 hq7 h => ?_)
      refine gw_whole (st2 := [.int q7.1]) C (run_V (rest := []) C (c_X4_addLeaf_9 l D cI cJ cO a t x1.1 v2 x1.2 p1 hq7) w_X4_addLeaf 0 3 rfl rfl rfl rfl rfl (Nat.le_of_ble_eq_true rfl) dX4_addWord_44 ⟨Nat.zero_le _, Nat.zero_le _⟩) rfl ?_
      have h := gw_some h
      have h := X1 _ h
      have ho := Option.some.inj h
      subst ho
      exact gw_iret C dX4_addWord_47
    · refine gw_iload C dX4_addWord_48 6 rfl ?_
      refine gw_iload_n C dX4_addWord_50 4 rfl ?_
      refine gw_lt h (fun j8 ej8 h => ?_)
      have J8 : ∀ v8 : Int32, Rs K1 o (j8 v8) → gw_G p l e (rmOf 6 152) s m args below meth c D A (CtM D below (some (.int o.1)) (wM cI a o.2) A args s) 8 0 0 (wM cI a t) [(0, .ref (a 0)), (1, .ref (a 9)), (2, .int p1), (4, .int x1.2), (6, .int q5)] 62 [.int v8] := by
        intro v8 h
        have h := gw_app ej8 h
        refine gw_istore C dX4_addWord_62 [(7, .int v8), (0, .ref (a 0)), (1, .ref (a 9)), (2, .int p1), (4, .int x1.2), (6, .int q5)] (by decide) rfl ?_
        refine gw_aload_n C dX4_addWord_64 1 rfl ?_
        refine gw_iload C dX4_addWord_65 5 rfl ?_
        refine gw_bind h (fun q10 hq10 h => ?_)
        refine gw_whole (st2 := [.int q10]) C (run_V (rest := []) C (c_X4_isLeaf l D cI cJ cO a t q5 hq10) w_X4_isLeaf 0 3 rfl rfl rfl rfl rfl (Nat.le_of_ble_eq_true rfl) dX4_addWord_67 ⟨Nat.zero_le _, Nat.zero_le _⟩) rfl ?_
        refine gw_if_eq (tgt := 116) C dX4_addWord_70 (by decide) h (fun c11 h => ?_) (fun c11 h => ?_)
        · refine gw_iload C dX4_addWord_116 5 rfl ?_
          refine gw_istore_n C dX4_addWord_118 [(3, .int q5), (7, .int v8), (0, .ref (a 0)), (1, .ref (a 9)), (2, .int p1), (4, .int x1.2), (6, .int q5)] rfl (by decide) rfl ?_
          refine gw_iinc (v := (x1.2 + (1 : Int32))) C dX4_addWord_119 [(4, .int (x1.2 + (1 : Int32))), (3, .int q5), (7, .int v8), (0, .ref (a 0)), (1, .ref (a 9)), (2, .int p1), (6, .int q5)] 5 rfl rfl (by decide) rfl ?_
          refine gw_goto (tgt := 5) C dX4_addWord_122 (by decide) ?_
          refine gw_sub [3, 4, 5, 1, 0] rfl ?_
          have h := gw_some h
          exact I1 _ h
        · refine gw_aload_n C dX4_addWord_73 1 rfl ?_
          refine gw_iload C dX4_addWord_74 5 rfl ?_
          refine gw_lt h (fun t12 et12 h => ?_)
          refine gw_put (ws' := wM cI a t12) (ty := .int) C dX4_addWord_76 0 3 8 tyX4 tyX4_ok nmX4 rfl rfl iX4 (by decide) f110 rfl (tyX4_ok 8 (by decide)) rfl rfl (Nat.le_of_ble_eq_true rfl) (by subst et12; rfl) ?_
          refine gw_aload_n C dX4_addWord_79 1 rfl ?_
          refine gw_aload_n C dX4_addWord_80 1 rfl ?_
          refine gw_get C dX4_addWord_81 0 3 1 rfl rfl iX4 (by decide) f7 rfl ?_
          refine gw_sipush (v := (640 : Int32)) C dX4_addWord_84 rfl ?_
          refine gw_iload C dX4_addWord_87 5 rfl ?_
          refine gw_iadd C dX4_addWord_89 ?_
          refine gw_chk h (fun b13 h => ?_)
          refine gw_iald C dX4_addWord_90 1 0 rfl rfl b13 ?_
          refine gw_aload_n C dX4_addWord_91 2 rfl ?_
          refine gw_iload C dX4_addWord_92 0 rfl ?_
          refine gw_iload_n C dX4_addWord_94 3 rfl ?_
          refine gw_bind h (fun q14 hq14 h => ?_)
          refine gw_whole (st2 := [.int q14]) C (run_V (rest := []) C (c_X4_isEnd_9 l D cI cJ cO a t12 (mZ t12 ((640 : Int32) + q5).toNatClampNeg) v8 p1 hq14) w_X4_isEnd 0 3 rfl rfl rfl rfl rfl (Nat.le_of_ble_eq_true rfl) dX4_addWord_95 ⟨Nat.zero_le _, Nat.zero_le _⟩) rfl ?_
          refine gw_if_eq (tgt := 105) C dX4_addWord_98 (by decide) h (fun c15 h => ?_) (fun c15 h => ?_)
          · refine gw_aload_n C dX4_addWord_105 1 rfl ?_
            refine gw_iload C dX4_addWord_106 5 rfl ?_
            refine gw_aload_n C dX4_addWord_108 2 rfl ?_
            refine gw_iload C dX4_addWord_109 0 rfl ?_
            refine gw_iload_n C dX4_addWord_111 3 rfl ?_
            refine gw_bind h (fun q16 hq16 h => ?_)
            refine gw_whole (st2 := [.int q16.1]) C (run_V (rest := []) C (c_X4_split_9 l D cI cJ cO a t12 q5 v8 p1 hq16) w_X4_split 0 3 rfl rfl rfl rfl rfl (Nat.le_of_ble_eq_true rfl) dX4_addWord_112 ⟨Nat.zero_le _, Nat.zero_le _⟩) rfl ?_
            have h := gw_some h
            have h := X1 _ h
            have ho := Option.some.inj h
            subst ho
            exact gw_iret C dX4_addWord_115
          · refine gw_iconst (v := (1 : Int32)) C dX4_addWord_101 rfl ?_
            refine gw_goto (tgt := 115) C dX4_addWord_102 (by decide) ?_
            have h := gw_some h
            have h := X1 _ h
            have ho := Option.some.inj h
            subst ho
            exact gw_iret C dX4_addWord_115
      refine gw_icmp_ge (tgt := 61) C dX4_addWord_51 (by decide) h (fun c9 h => ?_) (fun c9 h => ?_)
      · refine gw_iload_n C dX4_addWord_61 4 rfl ?_
        refine gw_sub [2, 3, 4, 6, 0] rfl ?_
        exact J8 _ h
      · refine gw_iload C dX4_addWord_54 6 rfl ?_
        refine gw_iconst (v := (1 : Int32)) C dX4_addWord_56 rfl ?_
        refine gw_iadd C dX4_addWord_57 ?_
        refine gw_goto (tgt := 62) C dX4_addWord_58 (by decide) ?_
        refine gw_sub [2, 3, 4, 6, 0] rfl ?_
        exact J8 _ h
  refine gw_icmp_ge (tgt := 18) C dX4_addWord_8 (by decide) h (fun c3 h => ?_) (fun c3 h => ?_)
  · refine gw_iconst (v := (0 : Int32)) C dX4_addWord_18 rfl ?_
    exact J2 _ h
  · refine gw_aload_n C dX4_addWord_11 1 rfl ?_
    refine gw_iload C dX4_addWord_12 4 rfl ?_
    refine gw_chk h (fun b4 h => ?_)
    refine gw_iald C dX4_addWord_14 9 0 rfl rfl b4 ?_
    refine gw_goto (tgt := 19) C dX4_addWord_15 (by decide) ?_
    exact J2 _ h
theorem hd_X4_addIt : yX4_addIt.cls = RX4 ∧ yX4_addIt.cls ≠ "java/lang/invoke/MethodHandle" ∧ yX4_addIt.cls ≠ "java/lang/invoke/VarHandle" ∧ (parseMethodDescriptor yX4_addIt.desc).map (fun d => d.parameters.length) = some 0 := by decide +kernel
set_option maxHeartbeats 4000000 in
set_option maxRecDepth 100000 in
theorem c_X4_addIt (l : Launch) (D : va_G) (cI cJ cO : ClassId) (a : Nat → Nat) (t : MS)  {o : Int32 × MS} (h : fM_addIt t = some o) : Ct l D (tysA cI cJ cO) yX4_addIt wsX4_addIt (rmOf 7 179) [.ref (a 0)] (wM cI a t) (some (.int o.1)) (wM cI a o.2) := by
  refine Ct_of (own := RX4) cX4_addIt 2 (some .int) (by decide +kernel) rfl rfl (Nat.le_of_ble_eq_true rfl) ?_
  intro p e s m args below meth c A C hnm
  have iX4 : ∀ w ∈ u_ws RX4 TX4 16, w ∈ wsX4_addIt := fun w h => List.mem_cons_of_mem _ (List.mem_append_right _ h)
  have f19 : Cond.fieldLink RX4 19 (TX4 5).1 (TX4 5).2.1 (TX4 5).2.2.1 ∈ wsX4_addIt := List.mem_of_getElem? (i := 2) rfl
  have f133 : Cond.fieldLink RX4 133 (TX4 6).1 (TX4 6).2.1 (TX4 6).2.2.1 ∈ wsX4_addIt := List.mem_of_getElem? (i := 1) rfl
  have w_X4_addWord := cwV (R := (rmOf 7 179)) (rm := rmOf 6 152) (s := s) (args := args) 2 C.1.2.2.2.2 gX4_addIt_X4_addWord rfl rfl rfl hd_X4_addWord ⟨Nat.le_of_ble_eq_true rfl, Nat.le_of_ble_eq_true rfl⟩
  have w_X4_bringBack := cwV (R := (rmOf 7 179)) (rm := rmOf 0 0) (s := s) (args := args) 0 C.1.2.2.2.2 gX4_addIt_X4_bringBack rfl rfl rfl hd_X4_bringBack ⟨Nat.le_of_ble_eq_true rfl, Nat.le_of_ble_eq_true rfl⟩
  have w_X4_putAside := cwV (R := (rmOf 7 179)) (rm := rmOf 0 0) (s := s) (args := args) 0 C.1.2.2.2.2 gX4_addIt_X4_putAside rfl rfl rfl hd_X4_putAside ⟨Nat.le_of_ble_eq_true rfl, Nat.le_of_ble_eq_true rfl⟩
  have h := gw_top h
  unfold fM_addIt at h
  show gw_G p l e (rmOf 7 179) s m args below meth c D A (CtM D below (some (.int o.1)) (wM cI a o.2) A args s) 2 0 0 (wM cI a t) [(0, .ref (a 0))] 0 []
  refine gw_aload_n C dX4_addIt_0 0 rfl ?_
  refine gw_bind h (fun q1 hq1 h => ?_)
  refine gw_whole (st2 := []) C (run_V (rest := []) C (c_X4_putAside l D cI cJ cO a t hq1) w_X4_putAside 0 3 rfl rfl rfl rfl rfl (Nat.le_of_ble_eq_true rfl) dX4_addIt_1 ⟨Nat.zero_le _, Nat.zero_le _⟩) rfl ?_
  refine gw_aload_n C dX4_addIt_4 0 rfl ?_
  refine gw_get C dX4_addIt_5 0 3 6 rfl rfl iX4 (by decide) f133 rfl ?_
  refine gw_lt h (fun j2 ej2 h => ?_)
  have J2 : ∀ v2 : Int32 × MS, Rs some o (j2 v2) → gw_G p l e (rmOf 7 179) s m args below meth c D A (CtM D below (some (.int o.1)) (wM cI a o.2) A args s) 2 0 0 (wM cI a v2.2) [(0, .ref (a 0))] 27 [.int v2.1] := by
    intro v2 h
    have h := gw_app ej2 h
    refine gw_istore_n C dX4_addIt_27 [(1, .int v2.1), (0, .ref (a 0))] rfl (by decide) rfl ?_
    refine gw_iload_n C dX4_addIt_28 0 rfl ?_
    refine gw_if_eq (tgt := 36) C dX4_addIt_29 (by decide) h (fun c5 h => ?_) (fun c5 h => ?_)
    · refine gw_iload_n C dX4_addIt_36 0 rfl ?_
      have h := gw_some h
      have ho := Option.some.inj h
      subst ho
      exact gw_iret C dX4_addIt_37
    · refine gw_aload_n C dX4_addIt_32 1 rfl ?_
      refine gw_bind h (fun q6 hq6 h => ?_)
      refine gw_whole (st2 := []) C (run_V (rest := []) C (c_X4_bringBack l D cI cJ cO a v2.2 hq6) w_X4_bringBack 0 3 rfl rfl rfl rfl rfl (Nat.le_of_ble_eq_true rfl) dX4_addIt_33 ⟨Nat.zero_le _, Nat.zero_le _⟩) rfl ?_
      refine gw_iload_n C dX4_addIt_36 0 rfl ?_
      have h := gw_some h
      have ho := Option.some.inj h
      subst ho
      exact gw_iret C dX4_addIt_37
  refine gw_if_ne (tgt := 15) C dX4_addIt_8 (by decide) h (fun c3 h => ?_) (fun c3 h => ?_)
  · refine gw_iconst (v := (3 : Int32)) C dX4_addIt_11 rfl ?_
    refine gw_goto (tgt := 27) C dX4_addIt_12 (by decide) ?_
    exact J2 _ h
  · refine gw_aload_n C dX4_addIt_15 0 rfl ?_
    refine gw_aload_n C dX4_addIt_16 0 rfl ?_
    refine gw_get C dX4_addIt_17 0 3 5 rfl rfl iX4 (by decide) f19 rfl ?_
    refine gw_aload_n C dX4_addIt_20 0 rfl ?_
    refine gw_get C dX4_addIt_21 0 3 6 rfl rfl iX4 (by decide) f133 rfl ?_
    refine gw_bind h (fun q4 hq4 h => ?_)
    refine gw_whole (st2 := [.int q4.1]) C (run_V (rest := []) C (c_X4_addWord_4 l D cI cJ cO a q1 (mTy q1) hq4) w_X4_addWord 0 3 rfl rfl rfl rfl rfl (Nat.le_of_ble_eq_true rfl) dX4_addIt_24 ⟨Nat.zero_le _, Nat.zero_le _⟩) rfl ?_
    exact J2 _ h
theorem hd_X4_append : yX4_append.cls = RX4 ∧ yX4_append.cls ≠ "java/lang/invoke/MethodHandle" ∧ yX4_append.cls ≠ "java/lang/invoke/VarHandle" ∧ (parseMethodDescriptor yX4_append.desc).map (fun d => d.parameters.length) = some 1 := by decide +kernel
set_option maxHeartbeats 4000000 in
set_option maxRecDepth 100000 in
theorem c_X4_append (l : Launch) (D : va_G) (cI cJ cO : ClassId) (a : Nat → Nat) (t : MS) (p1 : Int32) {o : Int32 × MS} (h : fM_append p1 t = some o) : Ct l D (tysA cI cJ cO) yX4_append wsX4_append (rmOf 1 22) [.ref (a 0), .int p1] (wM cI a t) (some (.int o.1)) (wM cI a o.2) := by
  refine Ct_of (own := RX4) cX4_append 2 (some .int) (by decide +kernel) rfl rfl (Nat.le_of_ble_eq_true rfl) ?_
  intro p e s m args below meth c A C hnm
  have iX4 : ∀ w ∈ u_ws RX4 TX4 16, w ∈ wsX4_append := fun w h => List.mem_cons_of_mem _ (List.mem_append_right _ h)
  have f19 : Cond.fieldLink RX4 19 (TX4 5).1 (TX4 5).2.1 (TX4 5).2.2.1 ∈ wsX4_append := List.mem_of_getElem? (i := 3) rfl
  have f40 : Cond.fieldLink RX4 40 (TX4 0).1 (TX4 0).2.1 (TX4 0).2.2.1 ∈ wsX4_append := List.mem_of_getElem? (i := 2) rfl
  have f133 : Cond.fieldLink RX4 133 (TX4 6).1 (TX4 6).2.1 (TX4 6).2.2.1 ∈ wsX4_append := List.mem_of_getElem? (i := 1) rfl
  have w_X4_in := va_cwS (R := (rmOf 1 22)) (rm := rmOf 0 0) (s := s) (args := args) 3 C.1.2.2.2.2 gX4_append_X4_in rfl rfl rfl hd_X4_in.2 ⟨Nat.le_of_ble_eq_true rfl, Nat.le_of_ble_eq_true rfl⟩
  have h := gw_top h
  unfold fM_append at h
  show gw_G p l e (rmOf 1 22) s m args below meth c D A (CtM D below (some (.int o.1)) (wM cI a o.2) A args s) 2 0 0 (wM cI a t) [(0, .ref (a 0)), (1, .int p1)] 0 []
  refine gw_aload_n C dX4_append_0 0 rfl ?_
  refine gw_iload_n C dX4_append_1 1 rfl ?_
  refine gw_iconst (v := (1 : Int32)) C dX4_append_2 rfl ?_
  refine gw_bipush (v := (8 : Int32)) C dX4_append_3 rfl ?_
  refine gw_none (st2 := [.int (fM_in p1 (1 : Int32) (8 : Int32)), .ref (a 0)]) C (run_S (rest := [.ref (a 0)]) C (c_X4_in l D cI cJ cO p1 (1 : Int32) (8 : Int32) rfl) w_X4_in rfl rfl (Nat.le_of_ble_eq_true rfl) dX4_append_5 ⟨Nat.zero_le _, Nat.zero_le _⟩) rfl ?_
  refine gw_lt h (fun j1 ej1 h => ?_)
  have J1 : ∀ v1 : Int32, Rs some o (j1 v1) → gw_G p l e (rmOf 1 22) s m args below meth c D A (CtM D below (some (.int o.1)) (wM cI a o.2) A args s) 2 0 0 (wM cI a t) [(0, .ref (a 0)), (1, .int p1)] 29 [.int v1, .ref (a 0)] := by
    intro v1 h
    have h := gw_app ej1 h
    refine gw_lt h (fun t4 et4 h => ?_)
    refine gw_put (ws' := wM cI a t4) (ty := .int) C dX4_append_29 0 3 0 tyX4 tyX4_ok nmX4 rfl rfl iX4 (by decide) f40 rfl (tyX4_ok 0 (by decide)) rfl rfl (Nat.le_of_ble_eq_true rfl) (by subst et4; rfl) ?_
    refine gw_aload_n C dX4_append_32 0 rfl ?_
    refine gw_get C dX4_append_33 0 3 0 rfl rfl iX4 (by decide) f40 rfl ?_
    refine gw_if_le (tgt := 41) C dX4_append_36 (by decide) h (fun c5 h => ?_) (fun c5 h => ?_)
    · refine gw_aload_n C dX4_append_41 0 rfl ?_
      refine gw_get C dX4_append_42 0 3 5 rfl rfl iX4 (by decide) f19 rfl ?_
      refine gw_aload_n C dX4_append_45 0 rfl ?_
      refine gw_get C dX4_append_46 0 3 6 rfl rfl iX4 (by decide) f133 rfl ?_
      refine gw_iload_n C dX4_append_49 1 rfl ?_
      refine gw_chk h (fun b6 h => ?_)
      refine gw_lt h (fun t7 et7 h => ?_)
      refine gw_iast (ws' := wM cI a t7) C dX4_append_50 4 0 rfl rfl b6 (by subst et7; rfl) ?_
      refine gw_aload_n C dX4_append_51 0 rfl ?_
      refine gw_dup C dX4_append_52 rfl ?_
      refine gw_get C dX4_append_53 0 3 6 rfl rfl iX4 (by decide) f133 rfl ?_
      refine gw_iconst (v := (1 : Int32)) C dX4_append_56 rfl ?_
      refine gw_iadd C dX4_append_57 ?_
      refine gw_lt h (fun t8 et8 h => ?_)
      refine gw_put (ws' := wM cI a t8) (ty := .int) C dX4_append_58 0 3 6 tyX4 tyX4_ok nmX4 rfl rfl iX4 (by decide) f133 rfl (tyX4_ok 6 (by decide)) rfl rfl (Nat.le_of_ble_eq_true rfl) (by subst et8; rfl) ?_
      refine gw_aload_n C dX4_append_61 0 rfl ?_
      refine gw_get C dX4_append_62 0 3 6 rfl rfl iX4 (by decide) f133 rfl ?_
      have h := gw_some h
      have ho := Option.some.inj h
      subst ho
      exact gw_iret C dX4_append_65
    · refine gw_iconst (v := (0 : Int32)) C dX4_append_39 rfl ?_
      have h := gw_some h
      have ho := Option.some.inj h
      subst ho
      exact gw_iret C dX4_append_40
  refine gw_if_ne (tgt := 15) C dX4_append_8 (by decide) h (fun c2 h => ?_) (fun c2 h => ?_)
  · refine gw_iconst (v := (1 : Int32)) C dX4_append_11 rfl ?_
    refine gw_goto (tgt := 29) C dX4_append_12 (by decide) ?_
    exact J1 _ h
  · refine gw_aload_n C dX4_append_15 0 rfl ?_
    refine gw_get C dX4_append_16 0 3 6 rfl rfl iX4 (by decide) f133 rfl ?_
    refine gw_bipush (v := (12 : Int32)) C dX4_append_19 rfl ?_
    refine gw_icmp_ne (tgt := 28) C dX4_append_21 (by decide) h (fun c3 h => ?_) (fun c3 h => ?_)
    · refine gw_iconst (v := (2 : Int32)) C dX4_append_24 rfl ?_
      refine gw_goto (tgt := 29) C dX4_append_25 (by decide) ?_
      exact J1 _ h
    · refine gw_iconst (v := (0 : Int32)) C dX4_append_28 rfl ?_
      exact J1 _ h
theorem hd_X4_clearBuffer : yX4_clearBuffer.cls = RX4 ∧ yX4_clearBuffer.cls ≠ "java/lang/invoke/MethodHandle" ∧ yX4_clearBuffer.cls ≠ "java/lang/invoke/VarHandle" ∧ (parseMethodDescriptor yX4_clearBuffer.desc).map (fun d => d.parameters.length) = some 0 := by decide +kernel
set_option maxHeartbeats 4000000 in
set_option maxRecDepth 100000 in
theorem c_X4_clearBuffer (l : Launch) (D : va_G) (cI cJ cO : ClassId) (a : Nat → Nat) (t : MS)  {o : Int32 × MS} (h : fM_clearBuffer t = o) : Ct l D (tysA cI cJ cO) yX4_clearBuffer wsX4_clearBuffer (rmOf 0 0) [.ref (a 0)] (wM cI a t) (some (.int o.1)) (wM cI a o.2) := by
  refine Ct_of (own := RX4) cX4_clearBuffer 2 (some .int) (by decide +kernel) rfl rfl (Nat.le_of_ble_eq_true rfl) ?_
  intro p e s m args below meth c A C hnm
  have iX4 : ∀ w ∈ u_ws RX4 TX4 16, w ∈ wsX4_clearBuffer := fun w h => List.mem_cons_of_mem _ (List.mem_append_right _ h)
  have f40 : Cond.fieldLink RX4 40 (TX4 0).1 (TX4 0).2.1 (TX4 0).2.2.1 ∈ wsX4_clearBuffer := List.mem_of_getElem? (i := 1) rfl
  have f133 : Cond.fieldLink RX4 133 (TX4 6).1 (TX4 6).2.1 (TX4 6).2.2.1 ∈ wsX4_clearBuffer := List.mem_of_getElem? (i := 2) rfl
  have h : Rt o (fM_clearBuffer t) := h
  unfold fM_clearBuffer at h
  show gw_G p l e (rmOf 0 0) s m args below meth c D A (CtM D below (some (.int o.1)) (wM cI a o.2) A args s) 2 0 0 (wM cI a t) [(0, .ref (a 0))] 0 []
  refine gw_aload_n C dX4_clearBuffer_0 0 rfl ?_
  refine gw_iconst (v := (0 : Int32)) C dX4_clearBuffer_1 rfl ?_
  refine gw_lt h (fun t1 et1 h => ?_)
  refine gw_put (ws' := wM cI a t1) (ty := .int) C dX4_clearBuffer_2 0 3 0 tyX4 tyX4_ok nmX4 rfl rfl iX4 (by decide) f40 rfl (tyX4_ok 0 (by decide)) rfl rfl (Nat.le_of_ble_eq_true rfl) (by subst et1; rfl) ?_
  refine gw_aload_n C dX4_clearBuffer_5 0 rfl ?_
  refine gw_get C dX4_clearBuffer_6 0 3 6 rfl rfl iX4 (by decide) f133 rfl ?_
  refine gw_lt h (fun v2 ev2 h => ?_)
  rw [ev2]
  refine gw_istore_n C dX4_clearBuffer_9 [(1, .int v2), (0, .ref (a 0))] rfl (by decide) rfl ?_
  refine gw_aload_n C dX4_clearBuffer_10 1 rfl ?_
  refine gw_iconst (v := (0 : Int32)) C dX4_clearBuffer_11 rfl ?_
  refine gw_lt h (fun t3 et3 h => ?_)
  refine gw_put (ws' := wM cI a t3) (ty := .int) C dX4_clearBuffer_12 0 3 6 tyX4 tyX4_ok nmX4 rfl rfl iX4 (by decide) f133 rfl (tyX4_ok 6 (by decide)) rfl rfl (Nat.le_of_ble_eq_true rfl) (by subst et3; rfl) ?_
  refine gw_iload_n C dX4_clearBuffer_15 0 rfl ?_
  have ho : _ = o := h
  subst ho
  exact gw_iret C dX4_clearBuffer_16
theorem hd_X4_drop : yX4_drop.cls = RX4 ∧ yX4_drop.cls ≠ "java/lang/invoke/MethodHandle" ∧ yX4_drop.cls ≠ "java/lang/invoke/VarHandle" ∧ (parseMethodDescriptor yX4_drop.desc).map (fun d => d.parameters.length) = some 0 := by decide +kernel
set_option maxHeartbeats 4000000 in
set_option maxRecDepth 100000 in
theorem c_X4_drop (l : Launch) (D : va_G) (cI cJ cO : ClassId) (a : Nat → Nat) (t : MS)  {o : Int32 × MS} (h : fM_drop t = some o) : Ct l D (tysA cI cJ cO) yX4_drop wsX4_drop (rmOf 0 0) [.ref (a 0)] (wM cI a t) (some (.int o.1)) (wM cI a o.2) := by
  refine Ct_of (own := RX4) cX4_drop 1 (some .int) (by decide +kernel) rfl rfl (Nat.le_of_ble_eq_true rfl) ?_
  intro p e s m args below meth c A C hnm
  have iX4 : ∀ w ∈ u_ws RX4 TX4 16, w ∈ wsX4_drop := fun w h => List.mem_cons_of_mem _ (List.mem_append_right _ h)
  have f19 : Cond.fieldLink RX4 19 (TX4 5).1 (TX4 5).2.1 (TX4 5).2.2.1 ∈ wsX4_drop := List.mem_of_getElem? (i := 3) rfl
  have f40 : Cond.fieldLink RX4 40 (TX4 0).1 (TX4 0).2.1 (TX4 0).2.2.1 ∈ wsX4_drop := List.mem_of_getElem? (i := 2) rfl
  have f133 : Cond.fieldLink RX4 133 (TX4 6).1 (TX4 6).2.1 (TX4 6).2.2.1 ∈ wsX4_drop := List.mem_of_getElem? (i := 1) rfl
  have h := gw_top h
  unfold fM_drop at h
  show gw_G p l e (rmOf 0 0) s m args below meth c D A (CtM D below (some (.int o.1)) (wM cI a o.2) A args s) 1 0 0 (wM cI a t) [(0, .ref (a 0))] 0 []
  refine gw_aload_n C dX4_drop_0 0 rfl ?_
  refine gw_aload_n C dX4_drop_1 0 rfl ?_
  refine gw_get C dX4_drop_2 0 3 6 rfl rfl iX4 (by decide) f133 rfl ?_
  refine gw_lt h (fun j1 ej1 h => ?_)
  have J1 : ∀ v1 : Int32, Rs some o (j1 v1) → gw_G p l e (rmOf 0 0) s m args below meth c D A (CtM D below (some (.int o.1)) (wM cI a o.2) A args s) 1 0 0 (wM cI a t) [(0, .ref (a 0))] 13 [.int v1, .ref (a 0)] := by
    intro v1 h
    have h := gw_app ej1 h
    refine gw_lt h (fun t3 et3 h => ?_)
    refine gw_put (ws' := wM cI a t3) (ty := .int) C dX4_drop_13 0 3 0 tyX4 tyX4_ok nmX4 rfl rfl iX4 (by decide) f40 rfl (tyX4_ok 0 (by decide)) rfl rfl (Nat.le_of_ble_eq_true rfl) (by subst et3; rfl) ?_
    refine gw_aload_n C dX4_drop_16 0 rfl ?_
    refine gw_get C dX4_drop_17 0 3 0 rfl rfl iX4 (by decide) f40 rfl ?_
    refine gw_if_le (tgt := 25) C dX4_drop_20 (by decide) h (fun c4 h => ?_) (fun c4 h => ?_)
    · refine gw_aload_n C dX4_drop_25 0 rfl ?_
      refine gw_dup C dX4_drop_26 rfl ?_
      refine gw_get C dX4_drop_27 0 3 6 rfl rfl iX4 (by decide) f133 rfl ?_
      refine gw_iconst (v := (1 : Int32)) C dX4_drop_30 rfl ?_
      refine gw_isub C dX4_drop_31 ?_
      refine gw_lt h (fun t5 et5 h => ?_)
      refine gw_put (ws' := wM cI a t5) (ty := .int) C dX4_drop_32 0 3 6 tyX4 tyX4_ok nmX4 rfl rfl iX4 (by decide) f133 rfl (tyX4_ok 6 (by decide)) rfl rfl (Nat.le_of_ble_eq_true rfl) (by subst et5; rfl) ?_
      refine gw_aload_n C dX4_drop_35 0 rfl ?_
      refine gw_get C dX4_drop_36 0 3 5 rfl rfl iX4 (by decide) f19 rfl ?_
      refine gw_aload_n C dX4_drop_39 0 rfl ?_
      refine gw_get C dX4_drop_40 0 3 6 rfl rfl iX4 (by decide) f133 rfl ?_
      refine gw_chk h (fun b6 h => ?_)
      refine gw_iald C dX4_drop_43 4 0 rfl rfl b6 ?_
      have h := gw_some h
      have ho := Option.some.inj h
      subst ho
      exact gw_iret C dX4_drop_44
    · refine gw_iconst (v := (0 : Int32)) C dX4_drop_23 rfl ?_
      have h := gw_some h
      have ho := Option.some.inj h
      subst ho
      exact gw_iret C dX4_drop_24
  refine gw_if_ne (tgt := 12) C dX4_drop_5 (by decide) h (fun c2 h => ?_) (fun c2 h => ?_)
  · refine gw_iconst (v := (1 : Int32)) C dX4_drop_8 rfl ?_
    refine gw_goto (tgt := 13) C dX4_drop_9 (by decide) ?_
    exact J1 _ h
  · refine gw_iconst (v := (0 : Int32)) C dX4_drop_12 rfl ?_
    exact J1 _ h
theorem hd_X4_add : yX4_add.cls = RX4 ∧ yX4_add.cls ≠ "java/lang/invoke/MethodHandle" ∧ yX4_add.cls ≠ "java/lang/invoke/VarHandle" ∧ (parseMethodDescriptor yX4_add.desc).map (fun d => d.parameters.length) = some 0 := by decide +kernel
set_option maxHeartbeats 4000000 in
set_option maxRecDepth 100000 in
theorem c_X4_add (l : Launch) (D : va_G) (cI cJ cO : ClassId) (a : Nat → Nat) (t : MS)  {o : Int32 × MS} (h : fM_add t = some o) : Ct l D (tysA cI cJ cO) yX4_add wsX4_add (rmOf 8 200) [.ref (a 0)] (wM cI a t) (some (.int o.1)) (wM cI a o.2) := by
  refine Ct_of (own := RX4) cX4_add 3 (some .int) (by decide +kernel) rfl rfl (Nat.le_of_ble_eq_true rfl) ?_
  intro p e s m args below meth c A C hnm
  have iX4 : ∀ w ∈ u_ws RX4 TX4 16, w ∈ wsX4_add := fun w h => List.mem_cons_of_mem _ (List.mem_append_right _ h)
  have f40 : Cond.fieldLink RX4 40 (TX4 0).1 (TX4 0).2.1 (TX4 0).2.2.1 ∈ wsX4_add := List.mem_of_getElem? (i := 1) rfl
  have f110 : Cond.fieldLink RX4 110 (TX4 8).1 (TX4 8).2.1 (TX4 8).2.2.1 ∈ wsX4_add := List.mem_of_getElem? (i := 2) rfl
  have w_X4_addIt := cwV (R := (rmOf 8 200)) (rm := rmOf 7 179) (s := s) (args := args) 0 C.1.2.2.2.2 gX4_add_X4_addIt rfl rfl rfl hd_X4_addIt ⟨Nat.le_of_ble_eq_true rfl, Nat.le_of_ble_eq_true rfl⟩
  have w_X4_bringBack := cwV (R := (rmOf 8 200)) (rm := rmOf 0 0) (s := s) (args := args) 0 C.1.2.2.2.2 gX4_add_X4_bringBack rfl rfl rfl hd_X4_bringBack ⟨Nat.le_of_ble_eq_true rfl, Nat.le_of_ble_eq_true rfl⟩
  have w_X4_save := cwV (R := (rmOf 8 200)) (rm := rmOf 0 0) (s := s) (args := args) 0 C.1.2.2.2.2 gX4_add_X4_save rfl rfl rfl hd_X4_save ⟨Nat.le_of_ble_eq_true rfl, Nat.le_of_ble_eq_true rfl⟩
  have h := gw_top h
  unfold fM_add at h
  show gw_G p l e (rmOf 8 200) s m args below meth c D A (CtM D below (some (.int o.1)) (wM cI a o.2) A args s) 3 0 0 (wM cI a t) [(0, .ref (a 0))] 0 []
  refine gw_aload_n C dX4_add_0 0 rfl ?_
  refine gw_bind h (fun q1 hq1 h => ?_)
  refine gw_whole (st2 := [.int q1.1]) C (run_V (rest := []) C (c_X4_addIt l D cI cJ cO a t hq1) w_X4_addIt 0 3 rfl rfl rfl rfl rfl (Nat.le_of_ble_eq_true rfl) dX4_add_1 ⟨Nat.zero_le _, Nat.zero_le _⟩) rfl ?_
  refine gw_istore_n C dX4_add_4 [(1, .int q1.1), (0, .ref (a 0))] rfl (by decide) rfl ?_
  refine gw_aload_n C dX4_add_5 1 rfl ?_
  refine gw_iload_n C dX4_add_6 0 rfl ?_
  refine gw_iconst (v := (3 : Int32)) C dX4_add_7 rfl ?_
  refine gw_lt h (fun j2 ej2 h => ?_)
  have J2 : ∀ v2 : Int32, Rs some o (j2 v2) → gw_G p l e (rmOf 8 200) s m args below meth c D A (CtM D below (some (.int o.1)) (wM cI a o.2) A args s) 3 0 0 (wM cI a q1.2) [(0, .ref (a 0))] 24 [.int v2, .ref (a 0)] := by
    intro v2 h
    have h := gw_app ej2 h
    refine gw_lt h (fun t5 et5 h => ?_)
    refine gw_put (ws' := wM cI a t5) (ty := .int) C dX4_add_24 0 3 0 tyX4 tyX4_ok nmX4 rfl rfl iX4 (by decide) f40 rfl (tyX4_ok 0 (by decide)) rfl rfl (Nat.le_of_ble_eq_true rfl) (by subst et5; rfl) ?_
    refine gw_aload_n C dX4_add_27 0 rfl ?_
    refine gw_get C dX4_add_28 0 3 0 rfl rfl iX4 (by decide) f40 rfl ?_
    refine gw_if_le (tgt := 36) C dX4_add_31 (by decide) h (fun c6 h => ?_) (fun c6 h => ?_)
    · refine gw_aload_n C dX4_add_36 0 rfl ?_
      refine gw_get C dX4_add_37 0 3 8 rfl rfl iX4 (by decide) f110 rfl ?_
      refine gw_lt h (fun v7 ev7 h => ?_)
      rw [ev7]
      refine gw_istore_n C dX4_add_40 [(2, .int v7), (0, .ref (a 0))] rfl (by decide) rfl ?_
      refine gw_aload_n C dX4_add_41 1 rfl ?_
      refine gw_bind h (fun q8 hq8 h => ?_)
      refine gw_whole (st2 := []) C (run_V (rest := []) C (c_X4_bringBack l D cI cJ cO a t5 hq8) w_X4_bringBack 0 3 rfl rfl rfl rfl rfl (Nat.le_of_ble_eq_true rfl) dX4_add_42 ⟨Nat.zero_le _, Nat.zero_le _⟩) rfl ?_
      refine gw_aload_n C dX4_add_45 1 rfl ?_
      refine gw_bind h (fun q9 hq9 h => ?_)
      refine gw_whole (st2 := []) C (run_V (rest := []) C (c_X4_save l D cI cJ cO a q8 hq9) w_X4_save 0 3 rfl rfl rfl rfl rfl (Nat.le_of_ble_eq_true rfl) dX4_add_46 ⟨Nat.zero_le _, Nat.zero_le _⟩) rfl ?_
      refine gw_aload_n C dX4_add_49 1 rfl ?_
      refine gw_bind h (fun q10 hq10 h => ?_)
      refine gw_whole (st2 := [.int q10.1]) C (run_V (rest := []) C (c_X4_addIt l D cI cJ cO a q9 hq10) w_X4_addIt 0 3 rfl rfl rfl rfl rfl (Nat.le_of_ble_eq_true rfl) dX4_add_50 ⟨Nat.zero_le _, Nat.zero_le _⟩) rfl ?_
      refine gw_pop C dX4_add_53 rfl ?_
      refine gw_iload_n C dX4_add_54 0 rfl ?_
      have h := gw_some h
      have ho := Option.some.inj h
      subst ho
      exact gw_iret C dX4_add_55
    · refine gw_iconst (v := (0 : Int32)) C dX4_add_34 rfl ?_
      have h := gw_some h
      have ho := Option.some.inj h
      subst ho
      exact gw_iret C dX4_add_35
  refine gw_icmp_ne (tgt := 15) C dX4_add_8 (by decide) h (fun c3 h => ?_) (fun c3 h => ?_)
  · refine gw_iconst (v := (1 : Int32)) C dX4_add_11 rfl ?_
    refine gw_goto (tgt := 24) C dX4_add_12 (by decide) ?_
    refine gw_sub [1] rfl ?_
    exact J2 _ h
  · refine gw_iload_n C dX4_add_15 0 rfl ?_
    refine gw_if_ne (tgt := 23) C dX4_add_16 (by decide) h (fun c4 h => ?_) (fun c4 h => ?_)
    · refine gw_iconst (v := (0 : Int32)) C dX4_add_19 rfl ?_
      refine gw_goto (tgt := 24) C dX4_add_20 (by decide) ?_
      refine gw_sub [1] rfl ?_
      exact J2 _ h
    · refine gw_iconst (v := (2 : Int32)) C dX4_add_23 rfl ?_
      refine gw_sub [1] rfl ?_
      exact J2 _ h
theorem hd_X4_leafOf : yX4_leafOf.cls = RX4 ∧ yX4_leafOf.cls ≠ "java/lang/invoke/MethodHandle" ∧ yX4_leafOf.cls ≠ "java/lang/invoke/VarHandle" ∧ (parseMethodDescriptor yX4_leafOf.desc).map (fun d => d.parameters.length) = some 2 := by decide +kernel
set_option maxHeartbeats 4000000 in
set_option maxRecDepth 100000 in
theorem c_X4_leafOf_4 (l : Launch) (D : va_G) (cI cJ cO : ClassId) (a : Nat → Nat) (t : MS) (p1 : Int32) {o : Int32} (h : fM_leafOf mBu p1 t = some o) : Ct l D (tysA cI cJ cO) yX4_leafOf wsX4_leafOf (rmOf 2 48) [.ref (a 0), .ref (a 4), .int p1] (wM cI a t) (some (.int o)) (wM cI a t) := by
  refine Ct_of (own := RX4) cX4_leafOf 5 (some .int) (by decide +kernel) rfl rfl (Nat.le_of_ble_eq_true rfl) ?_
  intro p e s m args below meth c A C hnm
  have iX4 : ∀ w ∈ u_ws RX4 TX4 16, w ∈ wsX4_leafOf := fun w h => List.mem_cons_of_mem _ (List.mem_append_right _ h)
  have f7 : Cond.fieldLink RX4 7 (TX4 1).1 (TX4 1).2.1 (TX4 1).2.2.1 ∈ wsX4_leafOf := List.mem_of_getElem? (i := 1) rfl
  have w_X4_child := cwV (R := (rmOf 2 48)) (rm := rmOf 1 21) (s := s) (args := args) 2 C.1.2.2.2.2 gX4_leafOf_X4_child rfl rfl rfl hd_X4_child ⟨Nat.le_of_ble_eq_true rfl, Nat.le_of_ble_eq_true rfl⟩
  have w_X4_isEnd := cwV (R := (rmOf 2 48)) (rm := rmOf 1 22) (s := s) (args := args) 4 C.1.2.2.2.2 gX4_leafOf_X4_isEnd rfl rfl rfl hd_X4_isEnd ⟨Nat.le_of_ble_eq_true rfl, Nat.le_of_ble_eq_true rfl⟩
  have w_X4_isLeaf := cwV (R := (rmOf 2 48)) (rm := rmOf 0 0) (s := s) (args := args) 1 C.1.2.2.2.2 gX4_leafOf_X4_isLeaf rfl rfl rfl hd_X4_isLeaf ⟨Nat.le_of_ble_eq_true rfl, Nat.le_of_ble_eq_true rfl⟩
  have h := gw_top h
  unfold fM_leafOf at h
  show gw_G p l e (rmOf 2 48) s m args below meth c D A (CtM D below (some (.int o)) (wM cI a t) A args s) 5 0 0 (wM cI a t) [(0, .ref (a 0)), (1, .ref (a 4)), (2, .int p1)] 0 []
  refine gw_iconst (v := (0 : Int32)) C dX4_leafOf_0 rfl ?_
  refine gw_istore_n C dX4_leafOf_1 [(3, .int (0 : Int32)), (0, .ref (a 0)), (1, .ref (a 4)), (2, .int p1)] rfl (by decide) rfl ?_
  refine gw_iconst (v := (0 : Int32)) C dX4_leafOf_2 rfl ?_
  refine gw_istore C dX4_leafOf_3 [(4, .int (0 : Int32)), (3, .int (0 : Int32)), (0, .ref (a 0)), (1, .ref (a 4)), (2, .int p1)] (by decide) rfl ?_
  refine gw_sub [2, 3, 4, 1, 0] rfl ?_
  refine gw_lpb (x0 := ((0 : Int32), (0 : Int32))) (Go := fun x1 : Int32 × Int32 => gw_G p l e (rmOf 2 48) s m args below meth c D A (CtM D below (some (.int o)) (wM cI a t) A args s) 5 0 0 (wM cI a t) [(0, .ref (a 0)), (1, .ref (a 4)), (2, .int p1), (3, .int x1.1), (4, .int x1.2)] 5 []) (GoX := fun v1 : Int32 × Int32 => gw_G p l e (rmOf 2 48) s m args below meth c D A (CtM D below (some (.int o)) (wM cI a t) A args s) 5 0 0 (wM cI a t) [(0, .ref (a 0)), (1, .ref (a 4)), (2, .int p1), (3, .int v1.1), (4, .int v1.2)] 44 []) h (fun v1 h => ?_) (fun x1 K1 X1 I1 h => ?_)
  · refine gw_iload_n C dX4_leafOf_44 3 rfl ?_
    refine gw_iconst (v := (-1 : Int32)) C dX4_leafOf_45 rfl ?_
    refine gw_icmp_eq (tgt := 53) C dX4_leafOf_46 (by decide) h (fun c9 h => ?_) (fun c9 h => ?_)
    · refine gw_iconst (v := (-1 : Int32)) C dX4_leafOf_53 rfl ?_
      have h := gw_some h
      have ho := Option.some.inj h
      subst ho
      exact gw_iret C dX4_leafOf_54
    · refine gw_iload_n C dX4_leafOf_49 2 rfl ?_
      refine gw_if_ne (tgt := 55) C dX4_leafOf_50 (by decide) h (fun c10 h => ?_) (fun c10 h => ?_)
      · refine gw_iconst (v := (-1 : Int32)) C dX4_leafOf_53 rfl ?_
        have h := gw_some h
        have ho := Option.some.inj h
        subst ho
        exact gw_iret C dX4_leafOf_54
      · refine gw_aload_n C dX4_leafOf_55 0 rfl ?_
        refine gw_aload_n C dX4_leafOf_56 0 rfl ?_
        refine gw_get C dX4_leafOf_57 0 3 1 rfl rfl iX4 (by decide) f7 rfl ?_
        refine gw_sipush (v := (640 : Int32)) C dX4_leafOf_60 rfl ?_
        refine gw_iload_n C dX4_leafOf_63 3 rfl ?_
        refine gw_iadd C dX4_leafOf_64 ?_
        refine gw_chk h (fun b11 h => ?_)
        refine gw_iald C dX4_leafOf_65 1 0 rfl rfl b11 ?_
        refine gw_aload_n C dX4_leafOf_66 1 rfl ?_
        refine gw_iload C dX4_leafOf_67 4 rfl ?_
        refine gw_iload_n C dX4_leafOf_69 2 rfl ?_
        refine gw_lt h (fun j12 ej12 h => ?_)
        have J12 : ∀ v12 : Int32, Rs some o (j12 v12) → gw_G p l e (rmOf 2 48) s m args below meth c D A (CtM D below (some (.int o)) (wM cI a t) A args s) 5 0 0 (wM cI a t) [(2, .int p1), (3, .int v1.1)] 79 [.int v12, .ref (a 4), .int (mZ t ((640 : Int32) + v1.1).toNatClampNeg), .ref (a 0)] := by
          intro v12 h
          have h := gw_app ej12 h
          refine gw_iload_n C dX4_leafOf_79 0 rfl ?_
          refine gw_bind h (fun q14 hq14 h => ?_)
          refine gw_whole (st2 := [.int q14]) C (run_V (rest := []) C (c_X4_isEnd_4 l D cI cJ cO a t (mZ t ((640 : Int32) + v1.1).toNatClampNeg) v12 p1 hq14) w_X4_isEnd 0 3 rfl rfl rfl rfl rfl (Nat.le_of_ble_eq_true rfl) dX4_leafOf_80 ⟨Nat.zero_le _, Nat.zero_le _⟩) rfl ?_
          refine gw_if_eq (tgt := 90) C dX4_leafOf_83 (by decide) h (fun c15 h => ?_) (fun c15 h => ?_)
          · refine gw_iconst (v := (-1 : Int32)) C dX4_leafOf_90 rfl ?_
            have h := gw_some h
            have ho := Option.some.inj h
            subst ho
            exact gw_iret C dX4_leafOf_91
          · refine gw_iload_n C dX4_leafOf_86 1 rfl ?_
            refine gw_goto (tgt := 91) C dX4_leafOf_87 (by decide) ?_
            have h := gw_some h
            have ho := Option.some.inj h
            subst ho
            exact gw_iret C dX4_leafOf_91
        refine gw_icmp_ge (tgt := 78) C dX4_leafOf_70 (by decide) h (fun c13 h => ?_) (fun c13 h => ?_)
        · refine gw_iload_n C dX4_leafOf_78 2 rfl ?_
          refine gw_sub [2, 3] rfl ?_
          exact J12 _ h
        · refine gw_iload C dX4_leafOf_73 4 rfl ?_
          refine gw_goto (tgt := 79) C dX4_leafOf_75 (by decide) ?_
          refine gw_sub [2, 3] rfl ?_
          exact J12 _ h
  · refine gw_iload_n C dX4_leafOf_5 3 rfl ?_
    refine gw_iconst (v := (-1 : Int32)) C dX4_leafOf_6 rfl ?_
    refine gw_icmp_eq (tgt := 44) C dX4_leafOf_7 (by decide) h (fun c2 h => ?_) (fun c2 h => ?_)
    · have h := gw_some h
      exact X1 _ h
    · refine gw_aload_n C dX4_leafOf_10 0 rfl ?_
      refine gw_iload_n C dX4_leafOf_11 3 rfl ?_
      refine gw_bind h (fun q3 hq3 h => ?_)
      refine gw_whole (st2 := [.int q3]) C (run_V (rest := []) C (c_X4_isLeaf l D cI cJ cO a t x1.1 hq3) w_X4_isLeaf 0 3 rfl rfl rfl rfl rfl (Nat.le_of_ble_eq_true rfl) dX4_leafOf_12 ⟨Nat.zero_le _, Nat.zero_le _⟩) rfl ?_
      refine gw_if_ne (tgt := 44) C dX4_leafOf_15 (by decide) h (fun c4 h => ?_) (fun c4 h => ?_)
      · refine gw_aload_n C dX4_leafOf_18 0 rfl ?_
        refine gw_iload_n C dX4_leafOf_19 3 rfl ?_
        refine gw_iload C dX4_leafOf_20 4 rfl ?_
        refine gw_iload_n C dX4_leafOf_22 2 rfl ?_
        refine gw_lt h (fun j5 ej5 h => ?_)
        have J5 : ∀ v5 : Int32, Rs K1 o (j5 v5) → gw_G p l e (rmOf 2 48) s m args below meth c D A (CtM D below (some (.int o)) (wM cI a t) A args s) 5 0 0 (wM cI a t) [(0, .ref (a 0)), (1, .ref (a 4)), (2, .int p1), (4, .int x1.2)] 34 [.int v5, .int x1.1, .ref (a 0)] := by
          intro v5 h
          have h := gw_app ej5 h
          refine gw_bind h (fun q8 hq8 h => ?_)
          refine gw_whole (st2 := [.int q8]) C (run_V (rest := []) C (c_X4_child l D cI cJ cO a t x1.1 v5 hq8) w_X4_child 0 3 rfl rfl rfl rfl rfl (Nat.le_of_ble_eq_true rfl) dX4_leafOf_34 ⟨Nat.zero_le _, Nat.zero_le _⟩) rfl ?_
          refine gw_istore_n C dX4_leafOf_37 [(3, .int q8), (0, .ref (a 0)), (1, .ref (a 4)), (2, .int p1), (4, .int x1.2)] rfl (by decide) rfl ?_
          refine gw_iinc (v := (x1.2 + (1 : Int32))) C dX4_leafOf_38 [(4, .int (x1.2 + (1 : Int32))), (3, .int q8), (0, .ref (a 0)), (1, .ref (a 4)), (2, .int p1)] 4 rfl rfl (by decide) rfl ?_
          refine gw_goto (tgt := 5) C dX4_leafOf_41 (by decide) ?_
          refine gw_sub [2, 3, 4, 1, 0] rfl ?_
          have h := gw_some h
          exact I1 _ h
        refine gw_icmp_ge (tgt := 33) C dX4_leafOf_23 (by decide) h (fun c6 h => ?_) (fun c6 h => ?_)
        · refine gw_iconst (v := (0 : Int32)) C dX4_leafOf_33 rfl ?_
          refine gw_sub [0, 1, 2, 4] rfl ?_
          exact J5 _ h
        · refine gw_aload_n C dX4_leafOf_26 1 rfl ?_
          refine gw_iload C dX4_leafOf_27 4 rfl ?_
          refine gw_chk h (fun b7 h => ?_)
          refine gw_iald C dX4_leafOf_29 4 0 rfl rfl b7 ?_
          refine gw_goto (tgt := 34) C dX4_leafOf_30 (by decide) ?_
          refine gw_sub [0, 1, 2, 4] rfl ?_
          exact J5 _ h
      · have h := gw_some h
        exact X1 _ h
theorem hd_X4_removeLeaf : yX4_removeLeaf.cls = RX4 ∧ yX4_removeLeaf.cls ≠ "java/lang/invoke/MethodHandle" ∧ yX4_removeLeaf.cls ≠ "java/lang/invoke/VarHandle" ∧ (parseMethodDescriptor yX4_removeLeaf.desc).map (fun d => d.parameters.length) = some 1 := by decide +kernel
set_option maxHeartbeats 4000000 in
set_option maxRecDepth 100000 in
theorem c_X4_removeLeaf (l : Launch) (D : va_G) (cI cJ cO : ClassId) (a : Nat → Nat) (t : MS) (p1 : Int32) {o : Int32 × MS} (h : fM_removeLeaf p1 t = some o) : Ct l D (tysA cI cJ cO) yX4_removeLeaf wsX4_removeLeaf (rmOf 3 68) [.ref (a 0), .int p1] (wM cI a t) (some (.int o.1)) (wM cI a o.2) := by
  refine Ct_of (own := RX4) cX4_removeLeaf 5 (some .int) (by decide +kernel) rfl rfl (Nat.le_of_ble_eq_true rfl) ?_
  intro p e s m args below meth c A C hnm
  have iX4 : ∀ w ∈ u_ws RX4 TX4 16, w ∈ wsX4_removeLeaf := fun w h => List.mem_cons_of_mem _ (List.mem_append_right _ h)
  have f7 : Cond.fieldLink RX4 7 (TX4 1).1 (TX4 1).2.1 (TX4 1).2.2.1 ∈ wsX4_removeLeaf := List.mem_of_getElem? (i := 1) rfl
  have w_X4_dropEnd := cwV (R := (rmOf 3 68)) (rm := rmOf 0 0) (s := s) (args := args) 1 C.1.2.2.2.2 gX4_removeLeaf_X4_dropEnd rfl rfl rfl hd_X4_dropEnd ⟨Nat.le_of_ble_eq_true rfl, Nat.le_of_ble_eq_true rfl⟩
  have w_X4_free := cwV (R := (rmOf 3 68)) (rm := rmOf 0 0) (s := s) (args := args) 1 C.1.2.2.2.2 gX4_removeLeaf_X4_free rfl rfl rfl hd_X4_free ⟨Nat.le_of_ble_eq_true rfl, Nat.le_of_ble_eq_true rfl⟩
  have w_X4_lettersOf := cwV (R := (rmOf 3 68)) (rm := rmOf 2 45) (s := s) (args := args) 1 C.1.2.2.2.2 gX4_removeLeaf_X4_lettersOf rfl rfl rfl hd_X4_lettersOf ⟨Nat.le_of_ble_eq_true rfl, Nat.le_of_ble_eq_true rfl⟩
  have h := gw_top h
  unfold fM_removeLeaf at h
  show gw_G p l e (rmOf 3 68) s m args below meth c D A (CtM D below (some (.int o.1)) (wM cI a o.2) A args s) 5 0 0 (wM cI a t) [(0, .ref (a 0)), (1, .int p1)] 0 []
  refine gw_aload_n C dX4_removeLeaf_0 0 rfl ?_
  refine gw_iload_n C dX4_removeLeaf_1 1 rfl ?_
  refine gw_bind h (fun q1 hq1 h => ?_)
  refine gw_whole (st2 := []) C (run_V (rest := []) C (c_X4_dropEnd l D cI cJ cO a t p1 hq1) w_X4_dropEnd 0 3 rfl rfl rfl rfl rfl (Nat.le_of_ble_eq_true rfl) dX4_removeLeaf_2 ⟨Nat.zero_le _, Nat.zero_le _⟩) rfl ?_
  refine gw_iconst (v := (0 : Int32)) C dX4_removeLeaf_5 rfl ?_
  refine gw_istore_n C dX4_removeLeaf_6 [(2, .int (0 : Int32)), (0, .ref (a 0)), (1, .int p1)] rfl (by decide) rfl ?_
  refine gw_iload_n C dX4_removeLeaf_7 2 rfl ?_
  refine gw_istore_n C dX4_removeLeaf_8 [(3, .int p1), (2, .int (0 : Int32)), (0, .ref (a 0)), (1, .int p1)] rfl (by decide) rfl ?_
  refine gw_sub [2, 1, 0] rfl ?_
  refine gw_lpb (x0 := ((0 : Int32), p1, q1)) (Go := fun x2 : Int32 × Int32 × MS => gw_G p l e (rmOf 3 68) s m args below meth c D A (CtM D below (some (.int o.1)) (wM cI a o.2) A args s) 5 0 0 (wM cI a x2.2.2) [(0, .ref (a 0)), (2, .int x2.1), (3, .int x2.2.1)] 9 []) (GoX := fun v2 : Int32 × Int32 × MS => gw_G p l e (rmOf 3 68) s m args below meth c D A (CtM D below (some (.int o.1)) (wM cI a o.2) A args s) 5 0 0 (wM cI a v2.2.2) [(0, .ref (a 0)), (2, .int v2.1), (3, .int v2.2.1)] 47 []) h (fun v2 h => ?_) (fun x2 K2 X2 I2 h => ?_)
  · refine gw_aload_n C dX4_removeLeaf_47 0 rfl ?_
    refine gw_iload_n C dX4_removeLeaf_48 2 rfl ?_
    refine gw_bind h (fun q9 hq9 h => ?_)
    refine gw_whole (st2 := [.int q9]) C (run_V (rest := []) C (c_X4_lettersOf l D cI cJ cO a v2.2.2 v2.2.1 hq9) w_X4_lettersOf 0 3 rfl rfl rfl rfl rfl (Nat.le_of_ble_eq_true rfl) dX4_removeLeaf_49 ⟨Nat.zero_le _, Nat.zero_le _⟩) rfl ?_
    refine gw_if_ne (tgt := 66) C dX4_removeLeaf_52 (by decide) h (fun c10 h => ?_) (fun c10 h => ?_)
    · refine gw_aload_n C dX4_removeLeaf_55 0 rfl ?_
      refine gw_get C dX4_removeLeaf_56 0 3 1 rfl rfl iX4 (by decide) f7 rfl ?_
      refine gw_sipush (v := (480 : Int32)) C dX4_removeLeaf_59 rfl ?_
      refine gw_iload_n C dX4_removeLeaf_62 2 rfl ?_
      refine gw_iadd C dX4_removeLeaf_63 ?_
      refine gw_iconst (v := (0 : Int32)) C dX4_removeLeaf_64 rfl ?_
      refine gw_chk h (fun b11 h => ?_)
      refine gw_lt h (fun t12 et12 h => ?_)
      refine gw_iast (ws' := wM cI a t12) C dX4_removeLeaf_65 1 0 rfl rfl b11 (by subst et12; rfl) ?_
      refine gw_iload_n C dX4_removeLeaf_66 1 rfl ?_
      have h := gw_some h
      have ho := Option.some.inj h
      subst ho
      exact gw_iret C dX4_removeLeaf_67
    · refine gw_iload_n C dX4_removeLeaf_66 1 rfl ?_
      have h := gw_some h
      have ho := Option.some.inj h
      subst ho
      exact gw_iret C dX4_removeLeaf_67
  · refine gw_iload_n C dX4_removeLeaf_9 2 rfl ?_
    refine gw_if_eq (tgt := 47) C dX4_removeLeaf_10 (by decide) h (fun c3 h => ?_) (fun c3 h => ?_)
    · have h := gw_some h
      exact X2 _ h
    · refine gw_aload_n C dX4_removeLeaf_13 0 rfl ?_
      refine gw_iload_n C dX4_removeLeaf_14 2 rfl ?_
      refine gw_bind h (fun q4 hq4 h => ?_)
      refine gw_whole (st2 := [.int q4]) C (run_V (rest := []) C (c_X4_lettersOf l D cI cJ cO a x2.2.2 x2.2.1 hq4) w_X4_lettersOf 0 3 rfl rfl rfl rfl rfl (Nat.le_of_ble_eq_true rfl) dX4_removeLeaf_15 ⟨Nat.zero_le _, Nat.zero_le _⟩) rfl ?_
      refine gw_if_ne (tgt := 47) C dX4_removeLeaf_18 (by decide) h (fun c5 h => ?_) (fun c5 h => ?_)
      · refine gw_aload_n C dX4_removeLeaf_21 0 rfl ?_
        refine gw_get C dX4_removeLeaf_22 0 3 1 rfl rfl iX4 (by decide) f7 rfl ?_
        refine gw_sipush (v := (160 : Int32)) C dX4_removeLeaf_25 rfl ?_
        refine gw_iload_n C dX4_removeLeaf_28 2 rfl ?_
        refine gw_iadd C dX4_removeLeaf_29 ?_
        refine gw_chk h (fun b6 h => ?_)
        refine gw_iald C dX4_removeLeaf_30 1 0 rfl rfl b6 ?_
        refine gw_lt h (fun v7 ev7 h => ?_)
        rw [ev7]
        refine gw_istore C dX4_removeLeaf_31 [(4, .int v7), (0, .ref (a 0)), (2, .int x2.1), (3, .int x2.2.1)] (by decide) rfl ?_
        refine gw_aload_n C dX4_removeLeaf_33 1 rfl ?_
        refine gw_iload_n C dX4_removeLeaf_34 3 rfl ?_
        refine gw_bind h (fun q8 hq8 h => ?_)
        refine gw_whole (st2 := []) C (run_V (rest := []) C (c_X4_free l D cI cJ cO a x2.2.2 x2.2.1 hq8) w_X4_free 0 3 rfl rfl rfl rfl rfl (Nat.le_of_ble_eq_true rfl) dX4_removeLeaf_35 ⟨Nat.zero_le _, Nat.zero_le _⟩) rfl ?_
        refine gw_iinc (v := (x2.1 + (1 : Int32))) C dX4_removeLeaf_38 [(2, .int (x2.1 + (1 : Int32))), (4, .int v7), (0, .ref (a 0)), (3, .int x2.2.1)] 2 rfl rfl (by decide) rfl ?_
        refine gw_iload C dX4_removeLeaf_41 1 rfl ?_
        refine gw_istore_n C dX4_removeLeaf_43 [(3, .int v7), (2, .int (x2.1 + (1 : Int32))), (4, .int v7), (0, .ref (a 0))] rfl (by decide) rfl ?_
        refine gw_goto (tgt := 9) C dX4_removeLeaf_44 (by decide) ?_
        refine gw_sub [3, 1, 0] rfl ?_
        have h := gw_some h
        exact I2 _ h
      · have h := gw_some h
        exact X2 _ h
theorem hd_X4_remove : yX4_remove.cls = RX4 ∧ yX4_remove.cls ≠ "java/lang/invoke/MethodHandle" ∧ yX4_remove.cls ≠ "java/lang/invoke/VarHandle" ∧ (parseMethodDescriptor yX4_remove.desc).map (fun d => d.parameters.length) = some 0 := by decide +kernel
set_option maxHeartbeats 4000000 in
set_option maxRecDepth 100000 in
theorem c_X4_remove (l : Launch) (D : va_G) (cI cJ cO : ClassId) (a : Nat → Nat) (t : MS)  {o : Int32 × MS} (h : fM_remove t = some o) : Ct l D (tysA cI cJ cO) yX4_remove wsX4_remove (rmOf 4 92) [.ref (a 0)] (wM cI a t) (some (.int o.1)) (wM cI a o.2) := by
  refine Ct_of (own := RX4) cX4_remove 2 (some .int) (by decide +kernel) rfl rfl (Nat.le_of_ble_eq_true rfl) ?_
  intro p e s m args below meth c A C hnm
  have iX4 : ∀ w ∈ u_ws RX4 TX4 16, w ∈ wsX4_remove := fun w h => List.mem_cons_of_mem _ (List.mem_append_right _ h)
  have f19 : Cond.fieldLink RX4 19 (TX4 5).1 (TX4 5).2.1 (TX4 5).2.2.1 ∈ wsX4_remove := List.mem_of_getElem? (i := 1) rfl
  have f40 : Cond.fieldLink RX4 40 (TX4 0).1 (TX4 0).2.1 (TX4 0).2.2.1 ∈ wsX4_remove := List.mem_of_getElem? (i := 3) rfl
  have f133 : Cond.fieldLink RX4 133 (TX4 6).1 (TX4 6).2.1 (TX4 6).2.2.1 ∈ wsX4_remove := List.mem_of_getElem? (i := 2) rfl
  have w_X4_leafOf := cwV (R := (rmOf 4 92)) (rm := rmOf 2 48) (s := s) (args := args) 2 C.1.2.2.2.2 gX4_remove_X4_leafOf rfl rfl rfl hd_X4_leafOf ⟨Nat.le_of_ble_eq_true rfl, Nat.le_of_ble_eq_true rfl⟩
  have w_X4_removeLeaf := cwV (R := (rmOf 4 92)) (rm := rmOf 3 68) (s := s) (args := args) 1 C.1.2.2.2.2 gX4_remove_X4_removeLeaf rfl rfl rfl hd_X4_removeLeaf ⟨Nat.le_of_ble_eq_true rfl, Nat.le_of_ble_eq_true rfl⟩
  have w_X4_save := cwV (R := (rmOf 4 92)) (rm := rmOf 0 0) (s := s) (args := args) 0 C.1.2.2.2.2 gX4_remove_X4_save rfl rfl rfl hd_X4_save ⟨Nat.le_of_ble_eq_true rfl, Nat.le_of_ble_eq_true rfl⟩
  have h := gw_top h
  unfold fM_remove at h
  show gw_G p l e (rmOf 4 92) s m args below meth c D A (CtM D below (some (.int o.1)) (wM cI a o.2) A args s) 2 0 0 (wM cI a t) [(0, .ref (a 0))] 0 []
  refine gw_aload_n C dX4_remove_0 0 rfl ?_
  refine gw_aload_n C dX4_remove_1 0 rfl ?_
  refine gw_get C dX4_remove_2 0 3 5 rfl rfl iX4 (by decide) f19 rfl ?_
  refine gw_aload_n C dX4_remove_5 0 rfl ?_
  refine gw_get C dX4_remove_6 0 3 6 rfl rfl iX4 (by decide) f133 rfl ?_
  refine gw_bind h (fun q1 hq1 h => ?_)
  refine gw_whole (st2 := [.int q1]) C (run_V (rest := []) C (c_X4_leafOf_4 l D cI cJ cO a t (mTy t) hq1) w_X4_leafOf 0 3 rfl rfl rfl rfl rfl (Nat.le_of_ble_eq_true rfl) dX4_remove_9 ⟨Nat.zero_le _, Nat.zero_le _⟩) rfl ?_
  refine gw_istore_n C dX4_remove_12 [(1, .int q1), (0, .ref (a 0))] rfl (by decide) rfl ?_
  refine gw_aload_n C dX4_remove_13 1 rfl ?_
  refine gw_aload_n C dX4_remove_14 1 rfl ?_
  refine gw_get C dX4_remove_15 0 3 6 rfl rfl iX4 (by decide) f133 rfl ?_
  refine gw_lt h (fun j2 ej2 h => ?_)
  have J2 : ∀ v2 : Int32, Rs some o (j2 v2) → gw_G p l e (rmOf 4 92) s m args below meth c D A (CtM D below (some (.int o.1)) (wM cI a o.2) A args s) 2 0 0 (wM cI a t) [(0, .ref (a 0)), (1, .int q1)] 35 [.int v2, .ref (a 0)] := by
    intro v2 h
    have h := gw_app ej2 h
    refine gw_lt h (fun t5 et5 h => ?_)
    refine gw_put (ws' := wM cI a t5) (ty := .int) C dX4_remove_35 0 3 0 tyX4 tyX4_ok nmX4 rfl rfl iX4 (by decide) f40 rfl (tyX4_ok 0 (by decide)) rfl rfl (Nat.le_of_ble_eq_true rfl) (by subst et5; rfl) ?_
    refine gw_aload_n C dX4_remove_38 0 rfl ?_
    refine gw_get C dX4_remove_39 0 3 0 rfl rfl iX4 (by decide) f40 rfl ?_
    refine gw_if_le (tgt := 47) C dX4_remove_42 (by decide) h (fun c6 h => ?_) (fun c6 h => ?_)
    · refine gw_aload_n C dX4_remove_47 0 rfl ?_
      refine gw_bind h (fun q7 hq7 h => ?_)
      refine gw_whole (st2 := []) C (run_V (rest := []) C (c_X4_save l D cI cJ cO a t5 hq7) w_X4_save 0 3 rfl rfl rfl rfl rfl (Nat.le_of_ble_eq_true rfl) dX4_remove_48 ⟨Nat.zero_le _, Nat.zero_le _⟩) rfl ?_
      refine gw_aload_n C dX4_remove_51 0 rfl ?_
      refine gw_iload_n C dX4_remove_52 1 rfl ?_
      refine gw_bind h (fun q8 hq8 h => ?_)
      refine gw_whole (st2 := [.int q8.1]) C (run_V (rest := []) C (c_X4_removeLeaf l D cI cJ cO a q7 q1 hq8) w_X4_removeLeaf 0 3 rfl rfl rfl rfl rfl (Nat.le_of_ble_eq_true rfl) dX4_remove_53 ⟨Nat.zero_le _, Nat.zero_le _⟩) rfl ?_
      have h := gw_some h
      have ho := Option.some.inj h
      subst ho
      exact gw_iret C dX4_remove_56
    · refine gw_iconst (v := (0 : Int32)) C dX4_remove_45 rfl ?_
      have h := gw_some h
      have ho := Option.some.inj h
      subst ho
      exact gw_iret C dX4_remove_46
  refine gw_if_ne (tgt := 25) C dX4_remove_18 (by decide) h (fun c3 h => ?_) (fun c3 h => ?_)
  · refine gw_iconst (v := (1 : Int32)) C dX4_remove_21 rfl ?_
    refine gw_goto (tgt := 35) C dX4_remove_22 (by decide) ?_
    refine gw_sub [1, 0] rfl ?_
    exact J2 _ h
  · refine gw_iload_n C dX4_remove_25 0 rfl ?_
    refine gw_iconst (v := (-1 : Int32)) C dX4_remove_26 rfl ?_
    refine gw_icmp_ne (tgt := 34) C dX4_remove_27 (by decide) h (fun c4 h => ?_) (fun c4 h => ?_)
    · refine gw_iconst (v := (2 : Int32)) C dX4_remove_30 rfl ?_
      refine gw_goto (tgt := 35) C dX4_remove_31 (by decide) ?_
      refine gw_sub [1, 0] rfl ?_
      exact J2 _ h
    · refine gw_iconst (v := (0 : Int32)) C dX4_remove_34 rfl ?_
      refine gw_sub [1, 0] rfl ?_
      exact J2 _ h
theorem hd_X4_layBelow : yX4_layBelow.cls = RX4 ∧ yX4_layBelow.cls ≠ "java/lang/invoke/MethodHandle" ∧ yX4_layBelow.cls ≠ "java/lang/invoke/VarHandle" ∧ (parseMethodDescriptor yX4_layBelow.desc).map (fun d => d.parameters.length) = some 0 := by decide +kernel
set_option maxHeartbeats 4000000 in
set_option maxRecDepth 100000 in
theorem c_X4_layBelow (l : Launch) (D : va_G) (cI cJ cO : ClassId) (a : Nat → Nat) (t : MS)  {o : MS} (h : fM_layBelow t = some o) : Ct l D (tysA cI cJ cO) yX4_layBelow wsX4_layBelow (rmOf 1 21) [.ref (a 0)] (wM cI a t) none (wM cI a o) := by
  refine Ct_of (own := RX4) cX4_layBelow 3 none (by decide +kernel) rfl rfl (Nat.le_of_ble_eq_true rfl) ?_
  intro p e s m args below meth c A C hnm
  have iX4 : ∀ w ∈ u_ws RX4 TX4 16, w ∈ wsX4_layBelow := fun w h => List.mem_cons_of_mem _ (List.mem_append_right _ h)
  have f7 : Cond.fieldLink RX4 7 (TX4 1).1 (TX4 1).2.1 (TX4 1).2.2.1 ∈ wsX4_layBelow := List.mem_of_getElem? (i := 2) rfl
  have f25 : Cond.fieldLink RX4 25 (TX4 9).1 (TX4 9).2.1 (TX4 9).2.2.1 ∈ wsX4_layBelow := List.mem_of_getElem? (i := 1) rfl
  have w_X4_isLeaf := cwV (R := (rmOf 1 21)) (rm := rmOf 0 0) (s := s) (args := args) 1 C.1.2.2.2.2 gX4_layBelow_X4_isLeaf rfl rfl rfl hd_X4_isLeaf ⟨Nat.le_of_ble_eq_true rfl, Nat.le_of_ble_eq_true rfl⟩
  have h := gw_top h
  unfold fM_layBelow at h
  show gw_G p l e (rmOf 1 21) s m args below meth c D A (CtM D below none (wM cI a o) A args s) 3 0 0 (wM cI a t) [(0, .ref (a 0))] 0 []
  refine gw_iconst (v := (0 : Int32)) C dX4_layBelow_0 rfl ?_
  refine gw_istore_n C dX4_layBelow_1 [(1, .int (0 : Int32)), (0, .ref (a 0))] rfl (by decide) rfl ?_
  refine gw_sub [1, 0] rfl ?_
  refine gw_lpb (x0 := ((0 : Int32), t)) (Go := fun x1 : Int32 × MS => gw_G p l e (rmOf 1 21) s m args below meth c D A (CtM D below none (wM cI a o) A args s) 3 0 0 (wM cI a x1.2) [(0, .ref (a 0)), (1, .int x1.1)] 2 []) (GoX := fun v1 : MS => gw_G p l e (rmOf 1 21) s m args below meth c D A (CtM D below none (wM cI a o) A args s) 3 0 0 (wM cI a v1) [(0, .ref (a 0))] 22 []) h (fun v1 h => ?_) (fun x1 K1 X1 I1 h => ?_)
  · refine gw_iconst (v := (0 : Int32)) C dX4_layBelow_22 rfl ?_
    refine gw_istore_n C dX4_layBelow_23 [(1, .int (0 : Int32)), (0, .ref (a 0))] rfl (by decide) rfl ?_
    refine gw_sub [1, 0] rfl ?_
    refine gw_lpb (x0 := ((0 : Int32), v1)) (Go := fun x5 : Int32 × MS => gw_G p l e (rmOf 1 21) s m args below meth c D A (CtM D below none (wM cI a o) A args s) 3 0 0 (wM cI a x5.2) [(0, .ref (a 0)), (1, .int x5.1)] 24 []) (GoX := fun v5 : MS => gw_G p l e (rmOf 1 21) s m args below meth c D A (CtM D below none (wM cI a o) A args s) 3 0 0 (wM cI a v5) [] 76 []) h (fun v5 h => ?_) (fun x5 K5 X5 I5 h => ?_)
    · have h := gw_some h
      have ho := Option.some.inj h
      subst ho
      exact gw_vret C dX4_layBelow_76
    · refine gw_iload_n C dX4_layBelow_24 1 rfl ?_
      refine gw_sipush (v := (160 : Int32)) C dX4_layBelow_25 rfl ?_
      refine gw_icmp_ge (tgt := 76) C dX4_layBelow_28 (by decide) h (fun c6 h => ?_) (fun c6 h => ?_)
      · refine gw_sub [] rfl ?_
        have h := gw_some h
        exact X5 _ h
      · refine gw_aload_n C dX4_layBelow_31 0 rfl ?_
        refine gw_iload_n C dX4_layBelow_32 1 rfl ?_
        refine gw_bind h (fun q7 hq7 h => ?_)
        refine gw_whole (st2 := [.int q7]) C (run_V (rest := []) C (c_X4_isLeaf l D cI cJ cO a x5.2 x5.1 hq7) w_X4_isLeaf 0 3 rfl rfl rfl rfl rfl (Nat.le_of_ble_eq_true rfl) dX4_layBelow_33 ⟨Nat.zero_le _, Nat.zero_le _⟩) rfl ?_
        refine gw_if_eq (tgt := 70) C dX4_layBelow_36 (by decide) h (fun c8 h => ?_) (fun c8 h => ?_)
        · refine gw_iinc (v := (x5.1 + (1 : Int32))) C dX4_layBelow_70 [(1, .int (x5.1 + (1 : Int32))), (0, .ref (a 0))] 1 rfl rfl (by decide) rfl ?_
          refine gw_goto (tgt := 24) C dX4_layBelow_73 (by decide) ?_
          refine gw_sub [1, 0] rfl ?_
          have h := gw_some h
          exact I5 _ h
        · refine gw_iload_n C dX4_layBelow_39 1 rfl ?_
          refine gw_istore_n C dX4_layBelow_40 [(2, .int x5.1), (0, .ref (a 0)), (1, .int x5.1)] rfl (by decide) rfl ?_
          refine gw_sub [1, 2, 0] rfl ?_
          refine gw_lpb (x0 := (x5.1, x5.2)) (Go := fun x9 : Int32 × MS => gw_G p l e (rmOf 1 21) s m args below meth c D A (CtM D below none (wM cI a o) A args s) 3 0 0 (wM cI a x9.2) [(0, .ref (a 0)), (1, .int x5.1), (2, .int x9.1)] 41 []) (GoX := fun v9 : MS => gw_G p l e (rmOf 1 21) s m args below meth c D A (CtM D below none (wM cI a o) A args s) 3 0 0 (wM cI a v9) [(0, .ref (a 0)), (1, .int x5.1)] 70 []) h (fun v9 h => ?_) (fun x9 K9 X9 I9 h => ?_)
          · refine gw_iinc (v := (x5.1 + (1 : Int32))) C dX4_layBelow_70 [(1, .int (x5.1 + (1 : Int32))), (0, .ref (a 0))] 1 rfl rfl (by decide) rfl ?_
            refine gw_goto (tgt := 24) C dX4_layBelow_73 (by decide) ?_
            refine gw_sub [1, 0] rfl ?_
            have h := gw_some h
            exact I5 _ h
          · refine gw_iload_n C dX4_layBelow_41 2 rfl ?_
            refine gw_iconst (v := (-1 : Int32)) C dX4_layBelow_42 rfl ?_
            refine gw_icmp_eq (tgt := 70) C dX4_layBelow_43 (by decide) h (fun c10 h => ?_) (fun c10 h => ?_)
            · refine gw_sub [0, 1] rfl ?_
              have h := gw_some h
              exact X9 _ h
            · refine gw_aload_n C dX4_layBelow_46 0 rfl ?_
              refine gw_get C dX4_layBelow_47 0 3 9 rfl rfl iX4 (by decide) f25 rfl ?_
              refine gw_iload_n C dX4_layBelow_50 2 rfl ?_
              refine gw_dup2_11 C dX4_layBelow_51 rfl rfl ?_
              refine gw_chk h (fun b11 h => ?_)
              refine gw_iald C dX4_layBelow_52 6 0 rfl rfl b11 ?_
              refine gw_iconst (v := (1 : Int32)) C dX4_layBelow_53 rfl ?_
              refine gw_iadd C dX4_layBelow_54 ?_
              refine gw_chk h (fun b12 h => ?_)
              refine gw_lt h (fun t13 et13 h => ?_)
              refine gw_iast (ws' := wM cI a t13) C dX4_layBelow_55 6 0 rfl rfl b12 (by subst et13; rfl) ?_
              refine gw_aload_n C dX4_layBelow_56 0 rfl ?_
              refine gw_get C dX4_layBelow_57 0 3 1 rfl rfl iX4 (by decide) f7 rfl ?_
              refine gw_sipush (v := (160 : Int32)) C dX4_layBelow_60 rfl ?_
              refine gw_iload_n C dX4_layBelow_63 2 rfl ?_
              refine gw_iadd C dX4_layBelow_64 ?_
              refine gw_chk h (fun b14 h => ?_)
              refine gw_iald C dX4_layBelow_65 1 0 rfl rfl b14 ?_
              refine gw_lt h (fun v15 ev15 h => ?_)
              rw [ev15]
              refine gw_istore_n C dX4_layBelow_66 [(2, .int v15), (0, .ref (a 0)), (1, .int x5.1)] rfl (by decide) rfl ?_
              refine gw_goto (tgt := 41) C dX4_layBelow_67 (by decide) ?_
              refine gw_sub [1, 2, 0] rfl ?_
              have h := gw_some h
              exact I9 _ h
  · refine gw_iload_n C dX4_layBelow_2 1 rfl ?_
    refine gw_sipush (v := (160 : Int32)) C dX4_layBelow_3 rfl ?_
    refine gw_icmp_ge (tgt := 22) C dX4_layBelow_6 (by decide) h (fun c2 h => ?_) (fun c2 h => ?_)
    · refine gw_sub [0] rfl ?_
      have h := gw_some h
      exact X1 _ h
    · refine gw_aload_n C dX4_layBelow_9 0 rfl ?_
      refine gw_get C dX4_layBelow_10 0 3 9 rfl rfl iX4 (by decide) f25 rfl ?_
      refine gw_iload_n C dX4_layBelow_13 1 rfl ?_
      refine gw_iconst (v := (0 : Int32)) C dX4_layBelow_14 rfl ?_
      refine gw_chk h (fun b3 h => ?_)
      refine gw_lt h (fun t4 et4 h => ?_)
      refine gw_iast (ws' := wM cI a t4) C dX4_layBelow_15 6 0 rfl rfl b3 (by subst et4; rfl) ?_
      refine gw_iinc (v := (x1.1 + (1 : Int32))) C dX4_layBelow_16 [(1, .int (x1.1 + (1 : Int32))), (0, .ref (a 0))] 1 rfl rfl (by decide) rfl ?_
      refine gw_goto (tgt := 2) C dX4_layBelow_19 (by decide) ?_
      refine gw_sub [1, 0] rfl ?_
      have h := gw_some h
      exact I1 _ h
theorem hd_X4_layWord : yX4_layWord.cls = RX4 ∧ yX4_layWord.cls ≠ "java/lang/invoke/MethodHandle" ∧ yX4_layWord.cls ≠ "java/lang/invoke/VarHandle" ∧ (parseMethodDescriptor yX4_layWord.desc).map (fun d => d.parameters.length) = some 1 := by decide +kernel
set_option maxHeartbeats 4000000 in
set_option maxRecDepth 100000 in
theorem c_X4_layWord (l : Launch) (D : va_G) (cI cJ cO : ClassId) (a : Nat → Nat) (t : MS) (p1 : Int32) {o : MS} (h : fM_layWord p1 t = some o) : Ct l D (tysA cI cJ cO) yX4_layWord wsX4_layWord (rmOf 2 45) [.ref (a 0), .int p1] (wM cI a t) none (wM cI a o) := by
  refine Ct_of (own := RX4) cX4_layWord 7 none (by decide +kernel) rfl rfl (Nat.le_of_ble_eq_true rfl) ?_
  intro p e s m args below meth c A C hnm
  have iX4 : ∀ w ∈ u_ws RX4 TX4 16, w ∈ wsX4_layWord := fun w h => List.mem_cons_of_mem _ (List.mem_append_right _ h)
  have f7 : Cond.fieldLink RX4 7 (TX4 1).1 (TX4 1).2.1 (TX4 1).2.2.1 ∈ wsX4_layWord := List.mem_of_getElem? (i := 3) rfl
  have f25 : Cond.fieldLink RX4 25 (TX4 9).1 (TX4 9).2.1 (TX4 9).2.2.1 ∈ wsX4_layWord := List.mem_of_getElem? (i := 2) rfl
  have f28 : Cond.fieldLink RX4 28 (TX4 10).1 (TX4 10).2.1 (TX4 10).2.2.1 ∈ wsX4_layWord := List.mem_of_getElem? (i := 4) rfl
  have f160 : Cond.fieldLink RX4 160 (TX4 11).1 (TX4 11).2.1 (TX4 11).2.2.1 ∈ wsX4_layWord := List.mem_of_getElem? (i := 1) rfl
  have f163 : Cond.fieldLink RX4 163 (TX4 12).1 (TX4 12).2.1 (TX4 12).2.2.1 ∈ wsX4_layWord := List.mem_of_getElem? (i := 5) rfl
  have w_X4_child := cwV (R := (rmOf 2 45)) (rm := rmOf 1 21) (s := s) (args := args) 2 C.1.2.2.2.2 gX4_layWord_X4_child rfl rfl rfl hd_X4_child ⟨Nat.le_of_ble_eq_true rfl, Nat.le_of_ble_eq_true rfl⟩
  have w_X4_isLeaf := cwV (R := (rmOf 2 45)) (rm := rmOf 0 0) (s := s) (args := args) 1 C.1.2.2.2.2 gX4_layWord_X4_isLeaf rfl rfl rfl hd_X4_isLeaf ⟨Nat.le_of_ble_eq_true rfl, Nat.le_of_ble_eq_true rfl⟩
  have w_X4_lengthOf := cwV (R := (rmOf 2 45)) (rm := rmOf 0 0) (s := s) (args := args) 1 C.1.2.2.2.2 gX4_layWord_X4_lengthOf rfl rfl rfl hd_X4_lengthOf ⟨Nat.le_of_ble_eq_true rfl, Nat.le_of_ble_eq_true rfl⟩
  have w_X4_letterOf := cwV (R := (rmOf 2 45)) (rm := rmOf 0 0) (s := s) (args := args) 2 C.1.2.2.2.2 gX4_layWord_X4_letterOf rfl rfl rfl hd_X4_letterOf ⟨Nat.le_of_ble_eq_true rfl, Nat.le_of_ble_eq_true rfl⟩
  have h := gw_top h
  unfold fM_layWord at h
  show gw_G p l e (rmOf 2 45) s m args below meth c D A (CtM D below none (wM cI a o) A args s) 7 0 0 (wM cI a t) [(0, .ref (a 0)), (1, .int p1)] 0 []
  refine gw_iload_n C dX4_layWord_0 1 rfl ?_
  refine gw_istore_n C dX4_layWord_1 [(2, .int p1), (0, .ref (a 0)), (1, .int p1)] rfl (by decide) rfl ?_
  refine gw_iconst (v := (0 : Int32)) C dX4_layWord_2 rfl ?_
  refine gw_istore_n C dX4_layWord_3 [(3, .int (0 : Int32)), (2, .int p1), (0, .ref (a 0)), (1, .int p1)] rfl (by decide) rfl ?_
  refine gw_aload_n C dX4_layWord_4 2 rfl ?_
  refine gw_iconst (v := (0 : Int32)) C dX4_layWord_5 rfl ?_
  refine gw_lt h (fun t1 et1 h => ?_)
  refine gw_put (ws' := wM cI a t1) (ty := .int) C dX4_layWord_6 0 3 11 tyX4 tyX4_ok nmX4 rfl rfl iX4 (by decide) f160 rfl (tyX4_ok 11 (by decide)) rfl rfl (Nat.le_of_ble_eq_true rfl) (by subst et1; rfl) ?_
  refine gw_sub [2, 1, 0] rfl ?_
  refine gw_lpb (x0 := (p1, (0 : Int32), t1)) (Go := fun x2 : Int32 × Int32 × MS => gw_G p l e (rmOf 2 45) s m args below meth c D A (CtM D below none (wM cI a o) A args s) 7 0 0 (wM cI a x2.2.2) [(0, .ref (a 0)), (2, .int x2.1), (3, .int x2.2.1)] 9 []) (GoX := fun v2 : Int32 × MS => gw_G p l e (rmOf 2 45) s m args below meth c D A (CtM D below none (wM cI a o) A args s) 7 0 0 (wM cI a v2.2) [(0, .ref (a 0)), (3, .int v2.1)] 143 []) h (fun v2 h => ?_) (fun x2 K2 X2 I2 h => ?_)
  · refine gw_aload_n C dX4_layWord_143 0 rfl ?_
    refine gw_iload_n C dX4_layWord_144 1 rfl ?_
    refine gw_lt h (fun t23 et23 h => ?_)
    refine gw_put (ws' := wM cI a t23) (ty := .int) C dX4_layWord_145 0 3 12 tyX4 tyX4_ok nmX4 rfl rfl iX4 (by decide) f163 rfl (tyX4_ok 12 (by decide)) rfl rfl (Nat.le_of_ble_eq_true rfl) (by subst et23; rfl) ?_
    refine gw_iconst (v := (0 : Int32)) C dX4_layWord_148 rfl ?_
    refine gw_istore C dX4_layWord_149 [(4, .int (0 : Int32)), (0, .ref (a 0)), (3, .int v2.1)] (by decide) rfl ?_
    refine gw_sub [1, 2, 0] rfl ?_
    refine gw_lpb (x0 := ((0 : Int32), t23)) (Go := fun x24 : Int32 × MS => gw_G p l e (rmOf 2 45) s m args below meth c D A (CtM D below none (wM cI a o) A args s) 7 0 0 (wM cI a x24.2) [(0, .ref (a 0)), (3, .int v2.1), (4, .int x24.1)] 151 []) (GoX := fun v24 : MS => gw_G p l e (rmOf 2 45) s m args below meth c D A (CtM D below none (wM cI a o) A args s) 7 0 0 (wM cI a v24) [] 211 []) h (fun v24 h => ?_) (fun x24 K24 X24 I24 h => ?_)
    · have h := gw_some h
      have ho := Option.some.inj h
      subst ho
      exact gw_vret C dX4_layWord_211
    · refine gw_iload C dX4_layWord_151 2 rfl ?_
      refine gw_aload_n C dX4_layWord_153 0 rfl ?_
      refine gw_aload_n C dX4_layWord_154 0 rfl ?_
      refine gw_get C dX4_layWord_155 0 3 1 rfl rfl iX4 (by decide) f7 rfl ?_
      refine gw_sipush (v := (640 : Int32)) C dX4_layWord_158 rfl ?_
      refine gw_iload_n C dX4_layWord_161 1 rfl ?_
      refine gw_iadd C dX4_layWord_162 ?_
      refine gw_chk h (fun b25 h => ?_)
      refine gw_iald C dX4_layWord_163 1 0 rfl rfl b25 ?_
      refine gw_bind h (fun q26 hq26 h => ?_)
      refine gw_whole (st2 := [.int q26, .int x24.1]) C (run_V (rest := [.int x24.1]) C (c_X4_lengthOf l D cI cJ cO a x24.2 (mZ x24.2 ((640 : Int32) + v2.1).toNatClampNeg) hq26) w_X4_lengthOf 0 3 rfl rfl rfl rfl rfl (Nat.le_of_ble_eq_true rfl) dX4_layWord_164 ⟨Nat.zero_le _, Nat.zero_le _⟩) rfl ?_
      refine gw_icmp_ge (tgt := 211) C dX4_layWord_167 (by decide) h (fun c27 h => ?_) (fun c27 h => ?_)
      · refine gw_sub [] rfl ?_
        have h := gw_some h
        exact X24 _ h
      · refine gw_aload_n C dX4_layWord_170 0 rfl ?_
        refine gw_get C dX4_layWord_171 0 3 10 rfl rfl iX4 (by decide) f28 rfl ?_
        refine gw_aload_n C dX4_layWord_174 0 rfl ?_
        refine gw_get C dX4_layWord_175 0 3 11 rfl rfl iX4 (by decide) f160 rfl ?_
        refine gw_aload_n C dX4_layWord_178 0 rfl ?_
        refine gw_aload_n C dX4_layWord_179 0 rfl ?_
        refine gw_get C dX4_layWord_180 0 3 1 rfl rfl iX4 (by decide) f7 rfl ?_
        refine gw_sipush (v := (640 : Int32)) C dX4_layWord_183 rfl ?_
        refine gw_iload_n C dX4_layWord_186 1 rfl ?_
        refine gw_iadd C dX4_layWord_187 ?_
        refine gw_chk h (fun b28 h => ?_)
        refine gw_iald C dX4_layWord_188 1 0 rfl rfl b28 ?_
        refine gw_iload C dX4_layWord_189 2 rfl ?_
        refine gw_bind h (fun q29 hq29 h => ?_)
        refine gw_whole (st2 := [.int q29, .int (mWl x24.2), .ref (a 7)]) C (run_V (rest := [.int (mWl x24.2), .ref (a 7)]) C (c_X4_letterOf l D cI cJ cO a x24.2 (mZ x24.2 ((640 : Int32) + v2.1).toNatClampNeg) x24.1 hq29) w_X4_letterOf 0 3 rfl rfl rfl rfl rfl (Nat.le_of_ble_eq_true rfl) dX4_layWord_191 ⟨Nat.zero_le _, Nat.zero_le _⟩) rfl ?_
        refine gw_chk h (fun b30 h => ?_)
        refine gw_lt h (fun t31 et31 h => ?_)
        refine gw_iast (ws' := wM cI a t31) C dX4_layWord_194 7 0 rfl rfl b30 (by subst et31; rfl) ?_
        refine gw_aload_n C dX4_layWord_195 0 rfl ?_
        refine gw_dup C dX4_layWord_196 rfl ?_
        refine gw_get C dX4_layWord_197 0 3 11 rfl rfl iX4 (by decide) f160 rfl ?_
        refine gw_iconst (v := (1 : Int32)) C dX4_layWord_200 rfl ?_
        refine gw_iadd C dX4_layWord_201 ?_
        refine gw_lt h (fun t32 et32 h => ?_)
        refine gw_put (ws' := wM cI a t32) (ty := .int) C dX4_layWord_202 0 3 11 tyX4 tyX4_ok nmX4 rfl rfl iX4 (by decide) f160 rfl (tyX4_ok 11 (by decide)) rfl rfl (Nat.le_of_ble_eq_true rfl) (by subst et32; rfl) ?_
        refine gw_iinc (v := (x24.1 + (1 : Int32))) C dX4_layWord_205 [(4, .int (x24.1 + (1 : Int32))), (0, .ref (a 0)), (3, .int v2.1)] 2 rfl rfl (by decide) rfl ?_
        refine gw_goto (tgt := 151) C dX4_layWord_208 (by decide) ?_
        refine gw_sub [1, 2, 0] rfl ?_
        have h := gw_some h
        exact I24 _ h
  · refine gw_aload_n C dX4_layWord_9 0 rfl ?_
    refine gw_iload_n C dX4_layWord_10 2 rfl ?_
    refine gw_bind h (fun q3 hq3 h => ?_)
    refine gw_whole (st2 := [.int q3]) C (run_V (rest := []) C (c_X4_isLeaf l D cI cJ cO a x2.2.2 x2.2.1 hq3) w_X4_isLeaf 0 3 rfl rfl rfl rfl rfl (Nat.le_of_ble_eq_true rfl) dX4_layWord_11 ⟨Nat.zero_le _, Nat.zero_le _⟩) rfl ?_
    refine gw_if_ne (tgt := 143) C dX4_layWord_14 (by decide) h (fun c4 h => ?_) (fun c4 h => ?_)
    · refine gw_iconst (v := (-1 : Int32)) C dX4_layWord_17 rfl ?_
      refine gw_istore C dX4_layWord_18 [(4, .int (-1 : Int32)), (0, .ref (a 0)), (2, .int x2.1), (3, .int x2.2.1)] (by decide) rfl ?_
      refine gw_iconst (v := (0 : Int32)) C dX4_layWord_20 rfl ?_
      refine gw_istore C dX4_layWord_21 [(5, .int (0 : Int32)), (4, .int (-1 : Int32)), (0, .ref (a 0)), (2, .int x2.1), (3, .int x2.2.1)] (by decide) rfl ?_
      refine gw_sub [2, 3, 4, 1, 0] rfl ?_
      refine gw_lpb (x0 := (x2.1, (-1 : Int32), (0 : Int32))) (Go := fun x5 : Int32 × Int32 × Int32 => gw_G p l e (rmOf 2 45) s m args below meth c D A (CtM D below none (wM cI a o) A args s) 7 0 0 (wM cI a x2.2.2) [(0, .ref (a 0)), (2, .int x5.1), (3, .int x2.2.1), (4, .int x5.2.1), (5, .int x5.2.2)] 23 []) (GoX := fun v5 : Int32 × Int32 => gw_G p l e (rmOf 2 45) s m args below meth c D A (CtM D below none (wM cI a o) A args s) 7 0 0 (wM cI a x2.2.2) [(0, .ref (a 0)), (2, .int v5.1), (4, .int v5.2)] 95 []) h (fun v5 h => ?_) (fun x5 K5 X5 I5 h => ?_)
      · refine gw_iload C dX4_layWord_95 2 rfl ?_
        refine gw_istore_n C dX4_layWord_97 [(3, .int v5.2), (0, .ref (a 0)), (2, .int v5.1), (4, .int v5.2)] rfl (by decide) rfl ?_
        refine gw_aload_n C dX4_layWord_98 1 rfl ?_
        refine gw_get C dX4_layWord_99 0 3 1 rfl rfl iX4 (by decide) f7 rfl ?_
        refine gw_sipush (v := (320 : Int32)) C dX4_layWord_102 rfl ?_
        refine gw_iload_n C dX4_layWord_105 0 rfl ?_
        refine gw_iadd C dX4_layWord_106 ?_
        refine gw_chk h (fun b17 h => ?_)
        refine gw_iald C dX4_layWord_107 1 0 rfl rfl b17 ?_
        refine gw_if_le (tgt := 140) C dX4_layWord_108 (by decide) h (fun c18 h => ?_) (fun c18 h => ?_)
        · refine gw_goto (tgt := 9) C dX4_layWord_140 (by decide) ?_
          refine gw_sub [1, 2, 0] rfl ?_
          have h := gw_some h
          exact I2 _ h
        · refine gw_aload_n C dX4_layWord_111 1 rfl ?_
          refine gw_get C dX4_layWord_112 0 3 10 rfl rfl iX4 (by decide) f28 rfl ?_
          refine gw_aload_n C dX4_layWord_115 1 rfl ?_
          refine gw_get C dX4_layWord_116 0 3 11 rfl rfl iX4 (by decide) f160 rfl ?_
          refine gw_aload_n C dX4_layWord_119 1 rfl ?_
          refine gw_get C dX4_layWord_120 0 3 1 rfl rfl iX4 (by decide) f7 rfl ?_
          refine gw_sipush (v := (320 : Int32)) C dX4_layWord_123 rfl ?_
          refine gw_iload_n C dX4_layWord_126 0 rfl ?_
          refine gw_iadd C dX4_layWord_127 ?_
          refine gw_chk h (fun b19 h => ?_)
          refine gw_iald C dX4_layWord_128 1 0 rfl rfl b19 ?_
          refine gw_chk h (fun b20 h => ?_)
          refine gw_lt h (fun t21 et21 h => ?_)
          refine gw_iast (ws' := wM cI a t21) C dX4_layWord_129 7 0 rfl rfl b20 (by subst et21; rfl) ?_
          refine gw_aload_n C dX4_layWord_130 1 rfl ?_
          refine gw_dup C dX4_layWord_131 rfl ?_
          refine gw_get C dX4_layWord_132 0 3 11 rfl rfl iX4 (by decide) f160 rfl ?_
          refine gw_iconst (v := (1 : Int32)) C dX4_layWord_135 rfl ?_
          refine gw_iadd C dX4_layWord_136 ?_
          refine gw_lt h (fun t22 et22 h => ?_)
          refine gw_put (ws' := wM cI a t22) (ty := .int) C dX4_layWord_137 0 3 11 tyX4 tyX4_ok nmX4 rfl rfl iX4 (by decide) f160 rfl (tyX4_ok 11 (by decide)) rfl rfl (Nat.le_of_ble_eq_true rfl) (by subst et22; rfl) ?_
          refine gw_goto (tgt := 9) C dX4_layWord_140 (by decide) ?_
          refine gw_sub [1, 2, 0] rfl ?_
          have h := gw_some h
          exact I2 _ h
      · refine gw_iload C dX4_layWord_23 4 rfl ?_
        refine gw_bipush (v := (9 : Int32)) C dX4_layWord_25 rfl ?_
        refine gw_icmp_ge (tgt := 95) C dX4_layWord_27 (by decide) h (fun c6 h => ?_) (fun c6 h => ?_)
        · refine gw_sub [0, 1, 3] rfl ?_
          have h := gw_some h
          exact X5 _ h
        · refine gw_iload C dX4_layWord_30 3 rfl ?_
          refine gw_iconst (v := (-1 : Int32)) C dX4_layWord_32 rfl ?_
          refine gw_icmp_ne (tgt := 95) C dX4_layWord_33 (by decide) h (fun c7 h => ?_) (fun c7 h => ?_)
          · refine gw_aload_n C dX4_layWord_36 0 rfl ?_
            refine gw_iload_n C dX4_layWord_37 2 rfl ?_
            refine gw_iload C dX4_layWord_38 4 rfl ?_
            refine gw_bind h (fun q8 hq8 h => ?_)
            refine gw_whole (st2 := [.int q8]) C (run_V (rest := []) C (c_X4_child l D cI cJ cO a x2.2.2 x2.2.1 x5.2.2 hq8) w_X4_child 0 3 rfl rfl rfl rfl rfl (Nat.le_of_ble_eq_true rfl) dX4_layWord_40 ⟨Nat.zero_le _, Nat.zero_le _⟩) rfl ?_
            refine gw_istore C dX4_layWord_43 [(6, .int q8), (0, .ref (a 0)), (2, .int x5.1), (3, .int x2.2.1), (4, .int x5.2.1), (5, .int x5.2.2)] (by decide) rfl ?_
            refine gw_iload C dX4_layWord_45 0 rfl ?_
            refine gw_iconst (v := (-1 : Int32)) C dX4_layWord_47 rfl ?_
            refine gw_lt h (fun j9 ej9 h => ?_)
            have J9 : ∀ v9 : Unit, Rs K5 o (j9 v9) → gw_G p l e (rmOf 2 45) s m args below meth c D A (CtM D below none (wM cI a o) A args s) 7 0 0 (wM cI a x2.2.2) [(0, .ref (a 0)), (2, .int x5.1), (3, .int x2.2.1), (4, .int x5.2.1), (5, .int x5.2.2), (6, .int q8)] 69 [] := by
              intro v9 h
              have h := gw_app ej9 h
              refine gw_iload_n C dX4_layWord_69 1 rfl ?_
              refine gw_iload C dX4_layWord_70 5 rfl ?_
              refine gw_iconst (v := (-1 : Int32)) C dX4_layWord_72 rfl ?_
              refine gw_lt h (fun j13 ej13 h => ?_)
              have J13 : ∀ v13 : Int32, Rs K5 o (j13 v13) → gw_G p l e (rmOf 2 45) s m args below meth c D A (CtM D below none (wM cI a o) A args s) 7 0 0 (wM cI a x2.2.2) [(0, .ref (a 0)), (3, .int x2.2.1), (4, .int x5.2.1), (5, .int x5.2.2)] 87 [.int v13, .int x5.1] := by
                intro v13 h
                have h := gw_app ej13 h
                refine gw_isub C dX4_layWord_87 ?_
                refine gw_lt h (fun v16 ev16 h => ?_)
                rw [ev16]
                refine gw_istore_n C dX4_layWord_88 [(2, .int v16), (0, .ref (a 0)), (3, .int x2.2.1), (4, .int x5.2.1), (5, .int x5.2.2)] rfl (by decide) rfl ?_
                refine gw_iinc (v := (x5.2.2 + (1 : Int32))) C dX4_layWord_89 [(5, .int (x5.2.2 + (1 : Int32))), (2, .int v16), (0, .ref (a 0)), (3, .int x2.2.1), (4, .int x5.2.1)] 4 rfl rfl (by decide) rfl ?_
                refine gw_goto (tgt := 23) C dX4_layWord_92 (by decide) ?_
                refine gw_sub [2, 1, 3, 4, 0] rfl ?_
                have h := gw_some h
                exact I5 _ h
              refine gw_icmp_ne (tgt := 80) C dX4_layWord_73 (by decide) h (fun c14 h => ?_) (fun c14 h => ?_)
              · refine gw_iconst (v := (0 : Int32)) C dX4_layWord_76 rfl ?_
                refine gw_goto (tgt := 87) C dX4_layWord_77 (by decide) ?_
                refine gw_sub [0, 2, 3, 4] rfl ?_
                exact J13 _ h
              · refine gw_aload_n C dX4_layWord_80 0 rfl ?_
                refine gw_get C dX4_layWord_81 0 3 9 rfl rfl iX4 (by decide) f25 rfl ?_
                refine gw_iload C dX4_layWord_84 5 rfl ?_
                refine gw_chk h (fun b15 h => ?_)
                refine gw_iald C dX4_layWord_86 6 0 rfl rfl b15 ?_
                refine gw_sub [0, 2, 3, 4] rfl ?_
                exact J13 _ h
            refine gw_icmp_eq (tgt := 69) C dX4_layWord_48 (by decide) h (fun c10 h => ?_) (fun c10 h => ?_)
            · refine gw_sub [1, 2, 3, 4, 5, 0] rfl ?_
              exact J9 _ h
            · refine gw_iload_n C dX4_layWord_51 2 rfl ?_
              refine gw_aload_n C dX4_layWord_52 1 rfl ?_
              refine gw_get C dX4_layWord_53 0 3 9 rfl rfl iX4 (by decide) f25 rfl ?_
              refine gw_iload C dX4_layWord_56 0 rfl ?_
              refine gw_chk h (fun b11 h => ?_)
              refine gw_iald C dX4_layWord_58 6 0 rfl rfl b11 ?_
              refine gw_icmp_ge (tgt := 69) C dX4_layWord_59 (by decide) h (fun c12 h => ?_) (fun c12 h => ?_)
              · refine gw_sub [1, 2, 3, 4, 5, 0] rfl ?_
                exact J9 _ h
              · refine gw_iload C dX4_layWord_62 0 rfl ?_
                refine gw_istore C dX4_layWord_64 [(4, .int q8), (6, .int q8), (0, .ref (a 0)), (2, .int x5.1), (3, .int x2.2.1), (5, .int x5.2.2)] (by decide) rfl ?_
                refine gw_goto (tgt := 89) C dX4_layWord_66 (by decide) ?_
                refine gw_iinc (v := (x5.2.2 + (1 : Int32))) C dX4_layWord_89 [(5, .int (x5.2.2 + (1 : Int32))), (4, .int q8), (6, .int q8), (0, .ref (a 0)), (2, .int x5.1), (3, .int x2.2.1)] 5 rfl rfl (by decide) rfl ?_
                refine gw_goto (tgt := 23) C dX4_layWord_92 (by decide) ?_
                refine gw_sub [3, 4, 5, 1, 0] rfl ?_
                have h := gw_some h
                exact I5 _ h
          · refine gw_sub [0, 1, 3] rfl ?_
            have h := gw_some h
            exact X5 _ h
    · refine gw_sub [0, 2] rfl ?_
      have h := gw_some h
      exact X2 _ h
theorem hd_X4_alike : yX4_alike.cls = RX4 ∧ yX4_alike.cls ≠ "java/lang/invoke/MethodHandle" ∧ yX4_alike.cls ≠ "java/lang/invoke/VarHandle" ∧ (parseMethodDescriptor yX4_alike.desc).map (fun d => d.parameters.length) = some 0 := by decide +kernel
set_option maxHeartbeats 4000000 in
set_option maxRecDepth 100000 in
theorem c_X4_alike (l : Launch) (D : va_G) (cI cJ cO : ClassId) (a : Nat → Nat) (t : MS)  {o : Int32} (h : fM_alike t = some o) : Ct l D (tysA cI cJ cO) yX4_alike wsX4_alike (rmOf 0 0) [.ref (a 0)] (wM cI a t) (some (.int o)) (wM cI a t) := by
  refine Ct_of (own := RX4) cX4_alike 2 (some .int) (by decide +kernel) rfl rfl (Nat.le_of_ble_eq_true rfl) ?_
  intro p e s m args below meth c A C hnm
  have iX4 : ∀ w ∈ u_ws RX4 TX4 16, w ∈ wsX4_alike := fun w h => List.mem_cons_of_mem _ (List.mem_append_right _ h)
  have f19 : Cond.fieldLink RX4 19 (TX4 5).1 (TX4 5).2.1 (TX4 5).2.2.1 ∈ wsX4_alike := List.mem_of_getElem? (i := 4) rfl
  have f28 : Cond.fieldLink RX4 28 (TX4 10).1 (TX4 10).2.1 (TX4 10).2.2.1 ∈ wsX4_alike := List.mem_of_getElem? (i := 3) rfl
  have f133 : Cond.fieldLink RX4 133 (TX4 6).1 (TX4 6).2.1 (TX4 6).2.2.1 ∈ wsX4_alike := List.mem_of_getElem? (i := 1) rfl
  have f160 : Cond.fieldLink RX4 160 (TX4 11).1 (TX4 11).2.1 (TX4 11).2.2.1 ∈ wsX4_alike := List.mem_of_getElem? (i := 2) rfl
  have h := gw_top h
  unfold fM_alike at h
  show gw_G p l e (rmOf 0 0) s m args below meth c D A (CtM D below (some (.int o)) (wM cI a t) A args s) 2 0 0 (wM cI a t) [(0, .ref (a 0))] 0 []
  refine gw_iconst (v := (0 : Int32)) C dX4_alike_0 rfl ?_
  refine gw_istore_n C dX4_alike_1 [(1, .int (0 : Int32)), (0, .ref (a 0))] rfl (by decide) rfl ?_
  refine gw_sub [1, 0] rfl ?_
  refine gw_lpb (x0 := (0 : Int32)) (Go := fun x1 : Int32 => gw_G p l e (rmOf 0 0) s m args below meth c D A (CtM D below (some (.int o)) (wM cI a t) A args s) 2 0 0 (wM cI a t) [(0, .ref (a 0)), (1, .int x1)] 2 []) (GoX := fun v1 : Int32 => gw_G p l e (rmOf 0 0) s m args below meth c D A (CtM D below (some (.int o)) (wM cI a t) A args s) 2 0 0 (wM cI a t) [(1, .int v1)] 39 []) h (fun v1 h => ?_) (fun x1 K1 X1 I1 h => ?_)
  · refine gw_iload_n C dX4_alike_39 0 rfl ?_
    have h := gw_some h
    have ho := Option.some.inj h
    subst ho
    exact gw_iret C dX4_alike_40
  · refine gw_iload_n C dX4_alike_2 1 rfl ?_
    refine gw_aload_n C dX4_alike_3 0 rfl ?_
    refine gw_get C dX4_alike_4 0 3 6 rfl rfl iX4 (by decide) f133 rfl ?_
    refine gw_icmp_ge (tgt := 39) C dX4_alike_7 (by decide) h (fun c2 h => ?_) (fun c2 h => ?_)
    · refine gw_sub [1] rfl ?_
      have h := gw_some h
      exact X1 _ h
    · refine gw_iload_n C dX4_alike_10 1 rfl ?_
      refine gw_aload_n C dX4_alike_11 0 rfl ?_
      refine gw_get C dX4_alike_12 0 3 11 rfl rfl iX4 (by decide) f160 rfl ?_
      refine gw_icmp_ge (tgt := 39) C dX4_alike_15 (by decide) h (fun c3 h => ?_) (fun c3 h => ?_)
      · refine gw_sub [1] rfl ?_
        have h := gw_some h
        exact X1 _ h
      · refine gw_aload_n C dX4_alike_18 0 rfl ?_
        refine gw_get C dX4_alike_19 0 3 10 rfl rfl iX4 (by decide) f28 rfl ?_
        refine gw_iload_n C dX4_alike_22 1 rfl ?_
        refine gw_chk h (fun b4 h => ?_)
        refine gw_iald C dX4_alike_23 7 0 rfl rfl b4 ?_
        refine gw_aload_n C dX4_alike_24 0 rfl ?_
        refine gw_get C dX4_alike_25 0 3 5 rfl rfl iX4 (by decide) f19 rfl ?_
        refine gw_iload_n C dX4_alike_28 1 rfl ?_
        refine gw_chk h (fun b5 h => ?_)
        refine gw_iald C dX4_alike_29 4 0 rfl rfl b5 ?_
        refine gw_icmp_ne (tgt := 39) C dX4_alike_30 (by decide) h (fun c6 h => ?_) (fun c6 h => ?_)
        · refine gw_iinc (v := (x1 + (1 : Int32))) C dX4_alike_33 [(1, .int (x1 + (1 : Int32))), (0, .ref (a 0))] 1 rfl rfl (by decide) rfl ?_
          refine gw_goto (tgt := 2) C dX4_alike_36 (by decide) ?_
          refine gw_sub [1, 0] rfl ?_
          have h := gw_some h
          exact I1 _ h
        · refine gw_sub [1] rfl ?_
          have h := gw_some h
          exact X1 _ h
theorem hd_X4_leafBeginning : yX4_leafBeginning.cls = RX4 ∧ yX4_leafBeginning.cls ≠ "java/lang/invoke/MethodHandle" ∧ yX4_leafBeginning.cls ≠ "java/lang/invoke/VarHandle" ∧ (parseMethodDescriptor yX4_leafBeginning.desc).map (fun d => d.parameters.length) = some 0 := by decide +kernel
set_option maxHeartbeats 4000000 in
set_option maxRecDepth 100000 in
theorem c_X4_leafBeginning (l : Launch) (D : va_G) (cI cJ cO : ClassId) (a : Nat → Nat) (t : MS)  {o : Int32 × MS} (h : fM_leafBeginning t = some o) : Ct l D (tysA cI cJ cO) yX4_leafBeginning wsX4_leafBeginning (rmOf 3 71) [.ref (a 0)] (wM cI a t) (some (.int o.1)) (wM cI a o.2) := by
  refine Ct_of (own := RX4) cX4_leafBeginning 2 (some .int) (by decide +kernel) rfl rfl (Nat.le_of_ble_eq_true rfl) ?_
  intro p e s m args below meth c A C hnm
  have iX4 : ∀ w ∈ u_ws RX4 TX4 16, w ∈ wsX4_leafBeginning := fun w h => List.mem_cons_of_mem _ (List.mem_append_right _ h)
  have f25 : Cond.fieldLink RX4 25 (TX4 9).1 (TX4 9).2.1 (TX4 9).2.2.1 ∈ wsX4_leafBeginning := List.mem_of_getElem? (i := 1) rfl
  have f133 : Cond.fieldLink RX4 133 (TX4 6).1 (TX4 6).2.1 (TX4 6).2.2.1 ∈ wsX4_leafBeginning := List.mem_of_getElem? (i := 2) rfl
  have f163 : Cond.fieldLink RX4 163 (TX4 12).1 (TX4 12).2.1 (TX4 12).2.2.1 ∈ wsX4_leafBeginning := List.mem_of_getElem? (i := 3) rfl
  have w_X4_alike := cwV (R := (rmOf 3 71)) (rm := rmOf 0 0) (s := s) (args := args) 0 C.1.2.2.2.2 gX4_leafBeginning_X4_alike rfl rfl rfl hd_X4_alike ⟨Nat.le_of_ble_eq_true rfl, Nat.le_of_ble_eq_true rfl⟩
  have w_X4_layBelow := cwV (R := (rmOf 3 71)) (rm := rmOf 1 21) (s := s) (args := args) 0 C.1.2.2.2.2 gX4_leafBeginning_X4_layBelow rfl rfl rfl hd_X4_layBelow ⟨Nat.le_of_ble_eq_true rfl, Nat.le_of_ble_eq_true rfl⟩
  have w_X4_layWord := cwV (R := (rmOf 3 71)) (rm := rmOf 2 45) (s := s) (args := args) 1 C.1.2.2.2.2 gX4_leafBeginning_X4_layWord rfl rfl rfl hd_X4_layWord ⟨Nat.le_of_ble_eq_true rfl, Nat.le_of_ble_eq_true rfl⟩
  have h := gw_top h
  unfold fM_leafBeginning at h
  show gw_G p l e (rmOf 3 71) s m args below meth c D A (CtM D below (some (.int o.1)) (wM cI a o.2) A args s) 2 0 0 (wM cI a t) [(0, .ref (a 0))] 0 []
  refine gw_aload_n C dX4_leafBeginning_0 0 rfl ?_
  refine gw_bind h (fun q1 hq1 h => ?_)
  refine gw_whole (st2 := []) C (run_V (rest := []) C (c_X4_layBelow l D cI cJ cO a t hq1) w_X4_layBelow 0 3 rfl rfl rfl rfl rfl (Nat.le_of_ble_eq_true rfl) dX4_leafBeginning_1 ⟨Nat.zero_le _, Nat.zero_le _⟩) rfl ?_
  refine gw_iconst (v := (0 : Int32)) C dX4_leafBeginning_4 rfl ?_
  refine gw_istore_n C dX4_leafBeginning_5 [(1, .int (0 : Int32)), (0, .ref (a 0))] rfl (by decide) rfl ?_
  refine gw_sub [1, 0] rfl ?_
  refine gw_lpt (x0 := ((0 : Int32), q1)) (Go := fun x2 : Int32 × MS => gw_G p l e (rmOf 3 71) s m args below meth c D A (CtM D below (some (.int o.1)) (wM cI a o.2) A args s) 2 0 0 (wM cI a x2.2) [(0, .ref (a 0)), (1, .int x2.1)] 6 []) h (fun x2 K2 X2 I2 h => ?_)
  refine gw_iload_n C dX4_leafBeginning_6 1 rfl ?_
  refine gw_aload_n C dX4_leafBeginning_7 0 rfl ?_
  refine gw_get C dX4_leafBeginning_8 0 3 9 rfl rfl iX4 (by decide) f25 rfl ?_
  refine gw_iconst (v := (0 : Int32)) C dX4_leafBeginning_11 rfl ?_
  refine gw_chk h (fun b3 h => ?_)
  refine gw_iald C dX4_leafBeginning_12 6 0 rfl rfl b3 ?_
  refine gw_icmp_ge (tgt := 43) C dX4_leafBeginning_13 (by decide) h (fun c4 h => ?_) (fun c4 h => ?_)
  · refine gw_iconst (v := (-1 : Int32)) C dX4_leafBeginning_43 rfl ?_
    have h := gw_some h
    have h := X2 _ h
    have ho := Option.some.inj h
    subst ho
    exact gw_iret C dX4_leafBeginning_44
  · refine gw_aload_n C dX4_leafBeginning_16 0 rfl ?_
    refine gw_iload_n C dX4_leafBeginning_17 1 rfl ?_
    refine gw_bind h (fun q5 hq5 h => ?_)
    refine gw_whole (st2 := []) C (run_V (rest := []) C (c_X4_layWord l D cI cJ cO a x2.2 x2.1 hq5) w_X4_layWord 0 3 rfl rfl rfl rfl rfl (Nat.le_of_ble_eq_true rfl) dX4_leafBeginning_18 ⟨Nat.zero_le _, Nat.zero_le _⟩) rfl ?_
    refine gw_aload_n C dX4_leafBeginning_21 0 rfl ?_
    refine gw_bind h (fun q6 hq6 h => ?_)
    refine gw_whole (st2 := [.int q6]) C (run_V (rest := []) C (c_X4_alike l D cI cJ cO a q5 hq6) w_X4_alike 0 3 rfl rfl rfl rfl rfl (Nat.le_of_ble_eq_true rfl) dX4_leafBeginning_22 ⟨Nat.zero_le _, Nat.zero_le _⟩) rfl ?_
    refine gw_aload_n C dX4_leafBeginning_25 0 rfl ?_
    refine gw_get C dX4_leafBeginning_26 0 3 6 rfl rfl iX4 (by decide) f133 rfl ?_
    refine gw_icmp_ne (tgt := 37) C dX4_leafBeginning_29 (by decide) h (fun c7 h => ?_) (fun c7 h => ?_)
    · refine gw_aload_n C dX4_leafBeginning_32 0 rfl ?_
      refine gw_get C dX4_leafBeginning_33 0 3 12 rfl rfl iX4 (by decide) f163 rfl ?_
      have h := gw_some h
      have h := X2 _ h
      have ho := Option.some.inj h
      subst ho
      exact gw_iret C dX4_leafBeginning_36
    · refine gw_iinc (v := (x2.1 + (1 : Int32))) C dX4_leafBeginning_37 [(1, .int (x2.1 + (1 : Int32))), (0, .ref (a 0))] 1 rfl rfl (by decide) rfl ?_
      refine gw_goto (tgt := 6) C dX4_leafBeginning_40 (by decide) ?_
      refine gw_sub [1, 0] rfl ?_
      have h := gw_some h
      exact I2 _ h
theorem hd_X4_removeAll : yX4_removeAll.cls = RX4 ∧ yX4_removeAll.cls ≠ "java/lang/invoke/MethodHandle" ∧ yX4_removeAll.cls ≠ "java/lang/invoke/VarHandle" ∧ (parseMethodDescriptor yX4_removeAll.desc).map (fun d => d.parameters.length) = some 0 := by decide +kernel
set_option maxHeartbeats 4000000 in
set_option maxRecDepth 100000 in
theorem c_X4_removeAll (l : Launch) (D : va_G) (cI cJ cO : ClassId) (a : Nat → Nat) (t : MS)  {o : Int32 × MS} (h : fM_removeAll t = some o) : Ct l D (tysA cI cJ cO) yX4_removeAll wsX4_removeAll (rmOf 4 92) [.ref (a 0)] (wM cI a t) (some (.int o.1)) (wM cI a o.2) := by
  refine Ct_of (own := RX4) cX4_removeAll 3 (some .int) (by decide +kernel) rfl rfl (Nat.le_of_ble_eq_true rfl) ?_
  intro p e s m args below meth c A C hnm
  have iX4 : ∀ w ∈ u_ws RX4 TX4 16, w ∈ wsX4_removeAll := fun w h => List.mem_cons_of_mem _ (List.mem_append_right _ h)
  have f40 : Cond.fieldLink RX4 40 (TX4 0).1 (TX4 0).2.1 (TX4 0).2.2.1 ∈ wsX4_removeAll := List.mem_of_getElem? (i := 1) rfl
  have w_X4_leafBeginning := cwV (R := (rmOf 4 92)) (rm := rmOf 3 71) (s := s) (args := args) 0 C.1.2.2.2.2 gX4_removeAll_X4_leafBeginning rfl rfl rfl hd_X4_leafBeginning ⟨Nat.le_of_ble_eq_true rfl, Nat.le_of_ble_eq_true rfl⟩
  have w_X4_removeLeaf := cwV (R := (rmOf 4 92)) (rm := rmOf 3 68) (s := s) (args := args) 1 C.1.2.2.2.2 gX4_removeAll_X4_removeLeaf rfl rfl rfl hd_X4_removeLeaf ⟨Nat.le_of_ble_eq_true rfl, Nat.le_of_ble_eq_true rfl⟩
  have w_X4_save := cwV (R := (rmOf 4 92)) (rm := rmOf 0 0) (s := s) (args := args) 0 C.1.2.2.2.2 gX4_removeAll_X4_save rfl rfl rfl hd_X4_save ⟨Nat.le_of_ble_eq_true rfl, Nat.le_of_ble_eq_true rfl⟩
  have h := gw_top h
  unfold fM_removeAll at h
  show gw_G p l e (rmOf 4 92) s m args below meth c D A (CtM D below (some (.int o.1)) (wM cI a o.2) A args s) 3 0 0 (wM cI a t) [(0, .ref (a 0))] 0 []
  refine gw_aload_n C dX4_removeAll_0 0 rfl ?_
  refine gw_iconst (v := (0 : Int32)) C dX4_removeAll_1 rfl ?_
  refine gw_lt h (fun t1 et1 h => ?_)
  refine gw_put (ws' := wM cI a t1) (ty := .int) C dX4_removeAll_2 0 3 0 tyX4 tyX4_ok nmX4 rfl rfl iX4 (by decide) f40 rfl (tyX4_ok 0 (by decide)) rfl rfl (Nat.le_of_ble_eq_true rfl) (by subst et1; rfl) ?_
  refine gw_aload_n C dX4_removeAll_5 0 rfl ?_
  refine gw_bind h (fun q2 hq2 h => ?_)
  refine gw_whole (st2 := []) C (run_V (rest := []) C (c_X4_save l D cI cJ cO a t1 hq2) w_X4_save 0 3 rfl rfl rfl rfl rfl (Nat.le_of_ble_eq_true rfl) dX4_removeAll_6 ⟨Nat.zero_le _, Nat.zero_le _⟩) rfl ?_
  refine gw_iconst (v := (0 : Int32)) C dX4_removeAll_9 rfl ?_
  refine gw_istore_n C dX4_removeAll_10 [(1, .int (0 : Int32)), (0, .ref (a 0))] rfl (by decide) rfl ?_
  refine gw_aload_n C dX4_removeAll_11 1 rfl ?_
  refine gw_bind h (fun q3 hq3 h => ?_)
  refine gw_whole (st2 := [.int q3.1]) C (run_V (rest := []) C (c_X4_leafBeginning l D cI cJ cO a q2 hq3) w_X4_leafBeginning 0 3 rfl rfl rfl rfl rfl (Nat.le_of_ble_eq_true rfl) dX4_removeAll_12 ⟨Nat.zero_le _, Nat.zero_le _⟩) rfl ?_
  refine gw_istore_n C dX4_removeAll_15 [(2, .int q3.1), (1, .int (0 : Int32)), (0, .ref (a 0))] rfl (by decide) rfl ?_
  refine gw_sub [2, 1, 0] rfl ?_
  refine gw_lpb (x0 := ((0 : Int32), q3.1, q3.2)) (Go := fun x4 : Int32 × Int32 × MS => gw_G p l e (rmOf 4 92) s m args below meth c D A (CtM D below (some (.int o.1)) (wM cI a o.2) A args s) 3 0 0 (wM cI a x4.2.2) [(0, .ref (a 0)), (1, .int x4.1), (2, .int x4.2.1)] 16 []) (GoX := fun v4 : Int32 × MS => gw_G p l e (rmOf 4 92) s m args below meth c D A (CtM D below (some (.int o.1)) (wM cI a o.2) A args s) 3 0 0 (wM cI a v4.2) [(1, .int v4.1)] 38 []) h (fun v4 h => ?_) (fun x4 K4 X4 I4 h => ?_)
  · refine gw_iload_n C dX4_removeAll_38 0 rfl ?_
    have h := gw_some h
    have ho := Option.some.inj h
    subst ho
    exact gw_iret C dX4_removeAll_39
  · refine gw_iload_n C dX4_removeAll_16 2 rfl ?_
    refine gw_iconst (v := (-1 : Int32)) C dX4_removeAll_17 rfl ?_
    refine gw_icmp_eq (tgt := 38) C dX4_removeAll_18 (by decide) h (fun c5 h => ?_) (fun c5 h => ?_)
    · refine gw_sub [1] rfl ?_
      have h := gw_some h
      exact X4 _ h
    · refine gw_aload_n C dX4_removeAll_21 0 rfl ?_
      refine gw_iload_n C dX4_removeAll_22 2 rfl ?_
      refine gw_bind h (fun q6 hq6 h => ?_)
      refine gw_whole (st2 := [.int q6.1]) C (run_V (rest := []) C (c_X4_removeLeaf l D cI cJ cO a x4.2.2 x4.2.1 hq6) w_X4_removeLeaf 0 3 rfl rfl rfl rfl rfl (Nat.le_of_ble_eq_true rfl) dX4_removeAll_23 ⟨Nat.zero_le _, Nat.zero_le _⟩) rfl ?_
      refine gw_pop C dX4_removeAll_26 rfl ?_
      refine gw_iinc (v := (x4.1 + (1 : Int32))) C dX4_removeAll_27 [(1, .int (x4.1 + (1 : Int32))), (0, .ref (a 0)), (2, .int x4.2.1)] 1 rfl rfl (by decide) rfl ?_
      refine gw_aload_n C dX4_removeAll_30 1 rfl ?_
      refine gw_bind h (fun q7 hq7 h => ?_)
      refine gw_whole (st2 := [.int q7.1]) C (run_V (rest := []) C (c_X4_leafBeginning l D cI cJ cO a q6.2 hq7) w_X4_leafBeginning 0 3 rfl rfl rfl rfl rfl (Nat.le_of_ble_eq_true rfl) dX4_removeAll_31 ⟨Nat.zero_le _, Nat.zero_le _⟩) rfl ?_
      refine gw_istore_n C dX4_removeAll_34 [(2, .int q7.1), (1, .int (x4.1 + (1 : Int32))), (0, .ref (a 0))] rfl (by decide) rfl ?_
      refine gw_goto (tgt := 16) C dX4_removeAll_35 (by decide) ?_
      refine gw_sub [2, 1, 0] rfl ?_
      have h := gw_some h
      exact I4 _ h
theorem hd_X4_used : yX4_used.cls = RX4 ∧ yX4_used.cls ≠ "java/lang/invoke/MethodHandle" ∧ yX4_used.cls ≠ "java/lang/invoke/VarHandle" ∧ (parseMethodDescriptor yX4_used.desc).map (fun d => d.parameters.length) = some 0 := by decide +kernel
set_option maxHeartbeats 4000000 in
set_option maxRecDepth 100000 in
theorem c_X4_used (l : Launch) (D : va_G) (cI cJ cO : ClassId) (a : Nat → Nat) (t : MS)  {o : Int32} (h : fM_used t = some o) : Ct l D (tysA cI cJ cO) yX4_used wsX4_used (rmOf 1 21) [.ref (a 0)] (wM cI a t) (some (.int o)) (wM cI a t) := by
  refine Ct_of (own := RX4) cX4_used 3 (some .int) (by decide +kernel) rfl rfl (Nat.le_of_ble_eq_true rfl) ?_
  intro p e s m args below meth c A C hnm
  have w_X4_isUsed := cwV (R := (rmOf 1 21)) (rm := rmOf 0 0) (s := s) (args := args) 1 C.1.2.2.2.2 gX4_used_X4_isUsed rfl rfl rfl hd_X4_isUsed ⟨Nat.le_of_ble_eq_true rfl, Nat.le_of_ble_eq_true rfl⟩
  have h := gw_top h
  unfold fM_used at h
  show gw_G p l e (rmOf 1 21) s m args below meth c D A (CtM D below (some (.int o)) (wM cI a t) A args s) 3 0 0 (wM cI a t) [(0, .ref (a 0))] 0 []
  refine gw_iconst (v := (0 : Int32)) C dX4_used_0 rfl ?_
  refine gw_istore_n C dX4_used_1 [(1, .int (0 : Int32)), (0, .ref (a 0))] rfl (by decide) rfl ?_
  refine gw_iconst (v := (0 : Int32)) C dX4_used_2 rfl ?_
  refine gw_istore_n C dX4_used_3 [(2, .int (0 : Int32)), (1, .int (0 : Int32)), (0, .ref (a 0))] rfl (by decide) rfl ?_
  refine gw_sub [2, 1, 0] rfl ?_
  refine gw_lpb (x0 := ((0 : Int32), (0 : Int32))) (Go := fun x1 : Int32 × Int32 => gw_G p l e (rmOf 1 21) s m args below meth c D A (CtM D below (some (.int o)) (wM cI a t) A args s) 3 0 0 (wM cI a t) [(0, .ref (a 0)), (1, .int x1.1), (2, .int x1.2)] 4 []) (GoX := fun v1 : Int32 => gw_G p l e (rmOf 1 21) s m args below meth c D A (CtM D below (some (.int o)) (wM cI a t) A args s) 3 0 0 (wM cI a t) [(1, .int v1)] 33 []) h (fun v1 h => ?_) (fun x1 K1 X1 I1 h => ?_)
  · refine gw_iload_n C dX4_used_33 0 rfl ?_
    have h := gw_some h
    have ho := Option.some.inj h
    subst ho
    exact gw_iret C dX4_used_34
  · refine gw_iload_n C dX4_used_4 2 rfl ?_
    refine gw_sipush (v := (160 : Int32)) C dX4_used_5 rfl ?_
    refine gw_icmp_ge (tgt := 33) C dX4_used_8 (by decide) h (fun c2 h => ?_) (fun c2 h => ?_)
    · refine gw_sub [1] rfl ?_
      have h := gw_some h
      exact X1 _ h
    · refine gw_iload_n C dX4_used_11 1 rfl ?_
      refine gw_aload_n C dX4_used_12 0 rfl ?_
      refine gw_iload_n C dX4_used_13 2 rfl ?_
      refine gw_bind h (fun q3 hq3 h => ?_)
      refine gw_whole (st2 := [.int q3, .int x1.1]) C (run_V (rest := [.int x1.1]) C (c_X4_isUsed l D cI cJ cO a t x1.2 hq3) w_X4_isUsed 0 3 rfl rfl rfl rfl rfl (Nat.le_of_ble_eq_true rfl) dX4_used_14 ⟨Nat.zero_le _, Nat.zero_le _⟩) rfl ?_
      refine gw_lt h (fun j4 ej4 h => ?_)
      have J4 : ∀ v4 : Int32, Rs K1 o (j4 v4) → gw_G p l e (rmOf 1 21) s m args below meth c D A (CtM D below (some (.int o)) (wM cI a t) A args s) 3 0 0 (wM cI a t) [(0, .ref (a 0)), (2, .int x1.2)] 25 [.int v4, .int x1.1] := by
        intro v4 h
        have h := gw_app ej4 h
        refine gw_iadd C dX4_used_25 ?_
        refine gw_lt h (fun v6 ev6 h => ?_)
        rw [ev6]
        refine gw_istore_n C dX4_used_26 [(1, .int v6), (0, .ref (a 0)), (2, .int x1.2)] rfl (by decide) rfl ?_
        refine gw_iinc (v := (x1.2 + (1 : Int32))) C dX4_used_27 [(2, .int (x1.2 + (1 : Int32))), (1, .int v6), (0, .ref (a 0))] 2 rfl rfl (by decide) rfl ?_
        refine gw_goto (tgt := 4) C dX4_used_30 (by decide) ?_
        refine gw_sub [2, 1, 0] rfl ?_
        have h := gw_some h
        exact I1 _ h
      refine gw_if_eq (tgt := 24) C dX4_used_17 (by decide) h (fun c5 h => ?_) (fun c5 h => ?_)
      · refine gw_iconst (v := (0 : Int32)) C dX4_used_24 rfl ?_
        refine gw_sub [0, 2] rfl ?_
        exact J4 _ h
      · refine gw_iconst (v := (1 : Int32)) C dX4_used_20 rfl ?_
        refine gw_goto (tgt := 25) C dX4_used_21 (by decide) ?_
        refine gw_sub [0, 2] rfl ?_
        exact J4 _ h
theorem hd_X4_packIt : yX4_packIt.cls = RX4 ∧ yX4_packIt.cls ≠ "java/lang/invoke/MethodHandle" ∧ yX4_packIt.cls ≠ "java/lang/invoke/VarHandle" ∧ (parseMethodDescriptor yX4_packIt.desc).map (fun d => d.parameters.length) = some 0 := by decide +kernel
set_option maxHeartbeats 4000000 in
set_option maxRecDepth 100000 in
theorem c_X4_packIt (l : Launch) (D : va_G) (cI cJ cO : ClassId) (a : Nat → Nat) (t : MS)  {o : Int32 × MS} (h : fM_packIt t = some o) : Ct l D (tysA cI cJ cO) yX4_packIt wsX4_packIt (rmOf 7 179) [.ref (a 0)] (wM cI a t) (some (.int o.1)) (wM cI a o.2) := by
  refine Ct_of (own := RX4) cX4_packIt 5 (some .boolean) (by decide +kernel) rfl rfl (Nat.le_of_ble_eq_true rfl) ?_
  intro p e s m args below meth c A C hnm
  have iX4 : ∀ w ∈ u_ws RX4 TX4 16, w ∈ wsX4_packIt := fun w h => List.mem_cons_of_mem _ (List.mem_append_right _ h)
  have f25 : Cond.fieldLink RX4 25 (TX4 9).1 (TX4 9).2.1 (TX4 9).2.2.1 ∈ wsX4_packIt := List.mem_of_getElem? (i := 1) rfl
  have f28 : Cond.fieldLink RX4 28 (TX4 10).1 (TX4 10).2.1 (TX4 10).2.2.1 ∈ wsX4_packIt := List.mem_of_getElem? (i := 4) rfl
  have f31 : Cond.fieldLink RX4 31 (TX4 13).1 (TX4 13).2.1 (TX4 13).2.2.1 ∈ wsX4_packIt := List.mem_of_getElem? (i := 2) rfl
  have f34 : Cond.fieldLink RX4 34 (TX4 14).1 (TX4 14).2.1 (TX4 14).2.2.1 ∈ wsX4_packIt := List.mem_of_getElem? (i := 5) rfl
  have f160 : Cond.fieldLink RX4 160 (TX4 11).1 (TX4 11).2.1 (TX4 11).2.2.1 ∈ wsX4_packIt := List.mem_of_getElem? (i := 3) rfl
  have w_X4_addWord := cwV (R := (rmOf 7 179)) (rm := rmOf 6 152) (s := s) (args := args) 2 C.1.2.2.2.2 gX4_packIt_X4_addWord rfl rfl rfl hd_X4_addWord ⟨Nat.le_of_ble_eq_true rfl, Nat.le_of_ble_eq_true rfl⟩
  have w_X4_clearTable := cwV (R := (rmOf 7 179)) (rm := rmOf 1 21) (s := s) (args := args) 0 C.1.2.2.2.2 gX4_packIt_X4_clearTable rfl rfl rfl hd_X4_clearTable ⟨Nat.le_of_ble_eq_true rfl, Nat.le_of_ble_eq_true rfl⟩
  have w_X4_layBelow := cwV (R := (rmOf 7 179)) (rm := rmOf 1 21) (s := s) (args := args) 0 C.1.2.2.2.2 gX4_packIt_X4_layBelow rfl rfl rfl hd_X4_layBelow ⟨Nat.le_of_ble_eq_true rfl, Nat.le_of_ble_eq_true rfl⟩
  have w_X4_layWord := cwV (R := (rmOf 7 179)) (rm := rmOf 2 45) (s := s) (args := args) 1 C.1.2.2.2.2 gX4_packIt_X4_layWord rfl rfl rfl hd_X4_layWord ⟨Nat.le_of_ble_eq_true rfl, Nat.le_of_ble_eq_true rfl⟩
  have h := gw_top h
  unfold fM_packIt at h
  show gw_G p l e (rmOf 7 179) s m args below meth c D A (CtM D below (some (.int o.1)) (wM cI a o.2) A args s) 5 0 0 (wM cI a t) [(0, .ref (a 0))] 0 []
  refine gw_aload_n C dX4_packIt_0 0 rfl ?_
  refine gw_bind h (fun q1 hq1 h => ?_)
  refine gw_whole (st2 := []) C (run_V (rest := []) C (c_X4_layBelow l D cI cJ cO a t hq1) w_X4_layBelow 0 3 rfl rfl rfl rfl rfl (Nat.le_of_ble_eq_true rfl) dX4_packIt_1 ⟨Nat.zero_le _, Nat.zero_le _⟩) rfl ?_
  refine gw_aload_n C dX4_packIt_4 0 rfl ?_
  refine gw_get C dX4_packIt_5 0 3 9 rfl rfl iX4 (by decide) f25 rfl ?_
  refine gw_iconst (v := (0 : Int32)) C dX4_packIt_8 rfl ?_
  refine gw_chk h (fun b2 h => ?_)
  refine gw_iald C dX4_packIt_9 6 0 rfl rfl b2 ?_
  refine gw_lt h (fun v3 ev3 h => ?_)
  rw [ev3]
  refine gw_istore_n C dX4_packIt_10 [(1, .int v3), (0, .ref (a 0))] rfl (by decide) rfl ?_
  refine gw_iconst (v := (0 : Int32)) C dX4_packIt_11 rfl ?_
  refine gw_istore_n C dX4_packIt_12 [(2, .int (0 : Int32)), (1, .int v3), (0, .ref (a 0))] rfl (by decide) rfl ?_
  refine gw_sub [2, 1, 0] rfl ?_
  refine gw_lpb (x0 := ((0 : Int32), q1)) (Go := fun x4 : Int32 × MS => gw_G p l e (rmOf 7 179) s m args below meth c D A (CtM D below (some (.int o.1)) (wM cI a o.2) A args s) 5 0 0 (wM cI a x4.2) [(0, .ref (a 0)), (1, .int v3), (2, .int x4.1)] 13 []) (GoX := fun v4 : MS => gw_G p l e (rmOf 7 179) s m args below meth c D A (CtM D below (some (.int o.1)) (wM cI a o.2) A args s) 5 0 0 (wM cI a v4) [(0, .ref (a 0)), (1, .int v3)] 77 []) h (fun v4 h => ?_) (fun x4 K4 X4 I4 h => ?_)
  · refine gw_aload_n C dX4_packIt_77 0 rfl ?_
    refine gw_bind h (fun q14 hq14 h => ?_)
    refine gw_whole (st2 := []) C (run_V (rest := []) C (c_X4_clearTable l D cI cJ cO a v4 hq14) w_X4_clearTable 0 3 rfl rfl rfl rfl rfl (Nat.le_of_ble_eq_true rfl) dX4_packIt_78 ⟨Nat.zero_le _, Nat.zero_le _⟩) rfl ?_
    refine gw_iconst (v := (1 : Int32)) C dX4_packIt_81 rfl ?_
    refine gw_istore_n C dX4_packIt_82 [(2, .int (1 : Int32)), (0, .ref (a 0)), (1, .int v3)] rfl (by decide) rfl ?_
    refine gw_iconst (v := (0 : Int32)) C dX4_packIt_83 rfl ?_
    refine gw_istore_n C dX4_packIt_84 [(3, .int (0 : Int32)), (2, .int (1 : Int32)), (0, .ref (a 0)), (1, .int v3)] rfl (by decide) rfl ?_
    refine gw_sub [2, 3, 1, 0] rfl ?_
    refine gw_lpb (x0 := ((1 : Int32), (0 : Int32), q14)) (Go := fun x15 : Int32 × Int32 × MS => gw_G p l e (rmOf 7 179) s m args below meth c D A (CtM D below (some (.int o.1)) (wM cI a o.2) A args s) 5 0 0 (wM cI a x15.2.2) [(0, .ref (a 0)), (1, .int v3), (2, .int x15.1), (3, .int x15.2.1)] 85 []) (GoX := fun v15 : Int32 × MS => gw_G p l e (rmOf 7 179) s m args below meth c D A (CtM D below (some (.int o.1)) (wM cI a o.2) A args s) 5 0 0 (wM cI a v15.2) [(2, .int v15.1)] 170 []) h (fun v15 h => ?_) (fun x15 K15 X15 I15 h => ?_)
    · refine gw_iload_n C dX4_packIt_170 0 rfl ?_
      refine gw_chk h (fun b28 h => ?_)
      have h := gw_some h
      have ho := Option.some.inj h
      subst ho
      exact gw_zret C b28 dX4_packIt_171
    · refine gw_iload_n C dX4_packIt_85 3 rfl ?_
      refine gw_iload_n C dX4_packIt_86 1 rfl ?_
      refine gw_icmp_ge (tgt := 170) C dX4_packIt_87 (by decide) h (fun c16 h => ?_) (fun c16 h => ?_)
      · refine gw_sub [2] rfl ?_
        have h := gw_some h
        exact X15 _ h
      · refine gw_iload_n C dX4_packIt_90 2 rfl ?_
        refine gw_if_eq (tgt := 170) C dX4_packIt_91 (by decide) h (fun c17 h => ?_) (fun c17 h => ?_)
        · refine gw_sub [2] rfl ?_
          have h := gw_some h
          exact X15 _ h
        · refine gw_iconst (v := (0 : Int32)) C dX4_packIt_94 rfl ?_
          refine gw_istore C dX4_packIt_95 [(4, .int (0 : Int32)), (0, .ref (a 0)), (1, .int v3), (2, .int x15.1), (3, .int x15.2.1)] (by decide) rfl ?_
          refine gw_sub [1, 2, 4, 0] rfl ?_
          refine gw_lpb (x0 := ((0 : Int32), x15.2.2)) (Go := fun x18 : Int32 × MS => gw_G p l e (rmOf 7 179) s m args below meth c D A (CtM D below (some (.int o.1)) (wM cI a o.2) A args s) 5 0 0 (wM cI a x18.2) [(0, .ref (a 0)), (1, .int v3), (3, .int x15.2.1), (4, .int x18.1)] 97 []) (GoX := fun v18 : MS => gw_G p l e (rmOf 7 179) s m args below meth c D A (CtM D below (some (.int o.1)) (wM cI a o.2) A args s) 5 0 0 (wM cI a v18) [(0, .ref (a 0)), (1, .int v3), (3, .int x15.2.1)] 138 []) h (fun v18 h => ?_) (fun x18 K18 X18 I18 h => ?_)
          · refine gw_aload_n C dX4_packIt_138 0 rfl ?_
            refine gw_aload_n C dX4_packIt_139 0 rfl ?_
            refine gw_get C dX4_packIt_140 0 3 14 rfl rfl iX4 (by decide) f34 rfl ?_
            refine gw_aload_n C dX4_packIt_143 0 rfl ?_
            refine gw_get C dX4_packIt_144 0 3 13 rfl rfl iX4 (by decide) f31 rfl ?_
            refine gw_bipush (v := (13 : Int32)) C dX4_packIt_147 rfl ?_
            refine gw_iload_n C dX4_packIt_149 2 rfl ?_
            refine gw_imul C dX4_packIt_150 ?_
            refine gw_chk h (fun b24 h => ?_)
            refine gw_iald C dX4_packIt_151 8 0 rfl rfl b24 ?_
            refine gw_bind h (fun q25 hq25 h => ?_)
            refine gw_whole (st2 := [.int q25.1]) C (run_V (rest := []) C (c_X4_addWord_9 l D cI cJ cO a v18 (mWs v18 ((13 : Int32) * x15.2.1).toNatClampNeg) hq25) w_X4_addWord 0 3 rfl rfl rfl rfl rfl (Nat.le_of_ble_eq_true rfl) dX4_packIt_152 ⟨Nat.zero_le _, Nat.zero_le _⟩) rfl ?_
            refine gw_lt h (fun j26 ej26 h => ?_)
            have J26 : ∀ v26 : Int32, Rs K15 o (j26 v26) → gw_G p l e (rmOf 7 179) s m args below meth c D A (CtM D below (some (.int o.1)) (wM cI a o.2) A args s) 5 0 0 (wM cI a q25.2) [(0, .ref (a 0)), (1, .int v3), (3, .int x15.2.1)] 163 [.int v26] := by
              intro v26 h
              have h := gw_app ej26 h
              refine gw_istore_n C dX4_packIt_163 [(2, .int v26), (0, .ref (a 0)), (1, .int v3), (3, .int x15.2.1)] rfl (by decide) rfl ?_
              refine gw_iinc (v := (x15.2.1 + (1 : Int32))) C dX4_packIt_164 [(3, .int (x15.2.1 + (1 : Int32))), (2, .int v26), (0, .ref (a 0)), (1, .int v3)] 3 rfl rfl (by decide) rfl ?_
              refine gw_goto (tgt := 85) C dX4_packIt_167 (by decide) ?_
              refine gw_sub [2, 3, 1, 0] rfl ?_
              have h := gw_some h
              exact I15 _ h
            refine gw_if_ne (tgt := 162) C dX4_packIt_155 (by decide) h (fun c27 h => ?_) (fun c27 h => ?_)
            · refine gw_iconst (v := (1 : Int32)) C dX4_packIt_158 rfl ?_
              refine gw_goto (tgt := 163) C dX4_packIt_159 (by decide) ?_
              exact J26 _ h
            · refine gw_iconst (v := (0 : Int32)) C dX4_packIt_162 rfl ?_
              exact J26 _ h
          · refine gw_iload C dX4_packIt_97 3 rfl ?_
            refine gw_aload_n C dX4_packIt_99 0 rfl ?_
            refine gw_get C dX4_packIt_100 0 3 13 rfl rfl iX4 (by decide) f31 rfl ?_
            refine gw_bipush (v := (13 : Int32)) C dX4_packIt_103 rfl ?_
            refine gw_iload_n C dX4_packIt_105 2 rfl ?_
            refine gw_imul C dX4_packIt_106 ?_
            refine gw_chk h (fun b19 h => ?_)
            refine gw_iald C dX4_packIt_107 8 0 rfl rfl b19 ?_
            refine gw_icmp_ge (tgt := 138) C dX4_packIt_108 (by decide) h (fun c20 h => ?_) (fun c20 h => ?_)
            · refine gw_sub [0, 1, 2] rfl ?_
              have h := gw_some h
              exact X18 _ h
            · refine gw_aload_n C dX4_packIt_111 0 rfl ?_
              refine gw_get C dX4_packIt_112 0 3 14 rfl rfl iX4 (by decide) f34 rfl ?_
              refine gw_iload C dX4_packIt_115 3 rfl ?_
              refine gw_aload_n C dX4_packIt_117 0 rfl ?_
              refine gw_get C dX4_packIt_118 0 3 13 rfl rfl iX4 (by decide) f31 rfl ?_
              refine gw_bipush (v := (13 : Int32)) C dX4_packIt_121 rfl ?_
              refine gw_iload_n C dX4_packIt_123 2 rfl ?_
              refine gw_imul C dX4_packIt_124 ?_
              refine gw_iconst (v := (1 : Int32)) C dX4_packIt_125 rfl ?_
              refine gw_iadd C dX4_packIt_126 ?_
              refine gw_iload C dX4_packIt_127 3 rfl ?_
              refine gw_iadd C dX4_packIt_129 ?_
              refine gw_chk h (fun b21 h => ?_)
              refine gw_iald C dX4_packIt_130 8 0 rfl rfl b21 ?_
              refine gw_chk h (fun b22 h => ?_)
              refine gw_lt h (fun t23 et23 h => ?_)
              refine gw_iast (ws' := wM cI a t23) C dX4_packIt_131 9 0 rfl rfl b22 (by subst et23; rfl) ?_
              refine gw_iinc (v := (x18.1 + (1 : Int32))) C dX4_packIt_132 [(4, .int (x18.1 + (1 : Int32))), (0, .ref (a 0)), (1, .int v3), (3, .int x15.2.1)] 3 rfl rfl (by decide) rfl ?_
              refine gw_goto (tgt := 97) C dX4_packIt_135 (by decide) ?_
              refine gw_sub [1, 2, 3, 0] rfl ?_
              have h := gw_some h
              exact I18 _ h
  · refine gw_iload_n C dX4_packIt_13 2 rfl ?_
    refine gw_iload_n C dX4_packIt_14 1 rfl ?_
    refine gw_icmp_ge (tgt := 77) C dX4_packIt_15 (by decide) h (fun c5 h => ?_) (fun c5 h => ?_)
    · refine gw_sub [0, 1] rfl ?_
      have h := gw_some h
      exact X4 _ h
    · refine gw_aload_n C dX4_packIt_18 0 rfl ?_
      refine gw_iload_n C dX4_packIt_19 2 rfl ?_
      refine gw_bind h (fun q6 hq6 h => ?_)
      refine gw_whole (st2 := []) C (run_V (rest := []) C (c_X4_layWord l D cI cJ cO a x4.2 x4.1 hq6) w_X4_layWord 0 3 rfl rfl rfl rfl rfl (Nat.le_of_ble_eq_true rfl) dX4_packIt_20 ⟨Nat.zero_le _, Nat.zero_le _⟩) rfl ?_
      refine gw_aload_n C dX4_packIt_23 0 rfl ?_
      refine gw_get C dX4_packIt_24 0 3 13 rfl rfl iX4 (by decide) f31 rfl ?_
      refine gw_bipush (v := (13 : Int32)) C dX4_packIt_27 rfl ?_
      refine gw_iload_n C dX4_packIt_29 2 rfl ?_
      refine gw_imul C dX4_packIt_30 ?_
      refine gw_aload_n C dX4_packIt_31 0 rfl ?_
      refine gw_get C dX4_packIt_32 0 3 11 rfl rfl iX4 (by decide) f160 rfl ?_
      refine gw_chk h (fun b7 h => ?_)
      refine gw_lt h (fun t8 et8 h => ?_)
      refine gw_iast (ws' := wM cI a t8) C dX4_packIt_35 8 0 rfl rfl b7 (by subst et8; rfl) ?_
      refine gw_iconst (v := (0 : Int32)) C dX4_packIt_36 rfl ?_
      refine gw_istore_n C dX4_packIt_37 [(3, .int (0 : Int32)), (0, .ref (a 0)), (1, .int v3), (2, .int x4.1)] rfl (by decide) rfl ?_
      refine gw_sub [1, 2, 3, 0] rfl ?_
      refine gw_lpb (x0 := ((0 : Int32), t8)) (Go := fun x9 : Int32 × MS => gw_G p l e (rmOf 7 179) s m args below meth c D A (CtM D below (some (.int o.1)) (wM cI a o.2) A args s) 5 0 0 (wM cI a x9.2) [(0, .ref (a 0)), (1, .int v3), (2, .int x4.1), (3, .int x9.1)] 38 []) (GoX := fun v9 : MS => gw_G p l e (rmOf 7 179) s m args below meth c D A (CtM D below (some (.int o.1)) (wM cI a o.2) A args s) 5 0 0 (wM cI a v9) [(0, .ref (a 0)), (1, .int v3), (2, .int x4.1)] 71 []) h (fun v9 h => ?_) (fun x9 K9 X9 I9 h => ?_)
      · refine gw_iinc (v := (x4.1 + (1 : Int32))) C dX4_packIt_71 [(2, .int (x4.1 + (1 : Int32))), (0, .ref (a 0)), (1, .int v3)] 2 rfl rfl (by decide) rfl ?_
        refine gw_goto (tgt := 13) C dX4_packIt_74 (by decide) ?_
        refine gw_sub [1, 2, 0] rfl ?_
        have h := gw_some h
        exact I4 _ h
      · refine gw_iload_n C dX4_packIt_38 3 rfl ?_
        refine gw_aload_n C dX4_packIt_39 0 rfl ?_
        refine gw_get C dX4_packIt_40 0 3 11 rfl rfl iX4 (by decide) f160 rfl ?_
        refine gw_icmp_ge (tgt := 71) C dX4_packIt_43 (by decide) h (fun c10 h => ?_) (fun c10 h => ?_)
        · refine gw_sub [0, 1, 2] rfl ?_
          have h := gw_some h
          exact X9 _ h
        · refine gw_aload_n C dX4_packIt_46 0 rfl ?_
          refine gw_get C dX4_packIt_47 0 3 13 rfl rfl iX4 (by decide) f31 rfl ?_
          refine gw_bipush (v := (13 : Int32)) C dX4_packIt_50 rfl ?_
          refine gw_iload_n C dX4_packIt_52 2 rfl ?_
          refine gw_imul C dX4_packIt_53 ?_
          refine gw_iconst (v := (1 : Int32)) C dX4_packIt_54 rfl ?_
          refine gw_iadd C dX4_packIt_55 ?_
          refine gw_iload_n C dX4_packIt_56 3 rfl ?_
          refine gw_iadd C dX4_packIt_57 ?_
          refine gw_aload_n C dX4_packIt_58 0 rfl ?_
          refine gw_get C dX4_packIt_59 0 3 10 rfl rfl iX4 (by decide) f28 rfl ?_
          refine gw_iload_n C dX4_packIt_62 3 rfl ?_
          refine gw_chk h (fun b11 h => ?_)
          refine gw_iald C dX4_packIt_63 7 0 rfl rfl b11 ?_
          refine gw_chk h (fun b12 h => ?_)
          refine gw_lt h (fun t13 et13 h => ?_)
          refine gw_iast (ws' := wM cI a t13) C dX4_packIt_64 8 0 rfl rfl b12 (by subst et13; rfl) ?_
          refine gw_iinc (v := (x9.1 + (1 : Int32))) C dX4_packIt_65 [(3, .int (x9.1 + (1 : Int32))), (0, .ref (a 0)), (1, .int v3), (2, .int x4.1)] 3 rfl rfl (by decide) rfl ?_
          refine gw_goto (tgt := 38) C dX4_packIt_68 (by decide) ?_
          refine gw_sub [1, 2, 3, 0] rfl ?_
          have h := gw_some h
          exact I9 _ h
theorem hd_X4_pack : yX4_pack.cls = RX4 ∧ yX4_pack.cls ≠ "java/lang/invoke/MethodHandle" ∧ yX4_pack.cls ≠ "java/lang/invoke/VarHandle" ∧ (parseMethodDescriptor yX4_pack.desc).map (fun d => d.parameters.length) = some 0 := by decide +kernel
set_option maxHeartbeats 4000000 in
set_option maxRecDepth 100000 in
theorem c_X4_pack (l : Launch) (D : va_G) (cI cJ cO : ClassId) (a : Nat → Nat) (t : MS)  {o : Int32 × MS} (h : fM_pack t = some o) : Ct l D (tysA cI cJ cO) yX4_pack wsX4_pack (rmOf 8 203) [.ref (a 0)] (wM cI a t) (some (.int o.1)) (wM cI a o.2) := by
  refine Ct_of (own := RX4) cX4_pack 2 (some .int) (by decide +kernel) rfl rfl (Nat.le_of_ble_eq_true rfl) ?_
  intro p e s m args below meth c A C hnm
  have iX4 : ∀ w ∈ u_ws RX4 TX4 16, w ∈ wsX4_pack := fun w h => List.mem_cons_of_mem _ (List.mem_append_right _ h)
  have f40 : Cond.fieldLink RX4 40 (TX4 0).1 (TX4 0).2.1 (TX4 0).2.2.1 ∈ wsX4_pack := List.mem_of_getElem? (i := 1) rfl
  have w_X4_bringBack := cwV (R := (rmOf 8 203)) (rm := rmOf 0 0) (s := s) (args := args) 0 C.1.2.2.2.2 gX4_pack_X4_bringBack rfl rfl rfl hd_X4_bringBack ⟨Nat.le_of_ble_eq_true rfl, Nat.le_of_ble_eq_true rfl⟩
  have w_X4_packIt := cwV (R := (rmOf 8 203)) (rm := rmOf 7 179) (s := s) (args := args) 0 C.1.2.2.2.2 gX4_pack_X4_packIt rfl rfl rfl hd_X4_packIt ⟨Nat.le_of_ble_eq_true rfl, Nat.le_of_ble_eq_true rfl⟩
  have w_X4_putAside := cwV (R := (rmOf 8 203)) (rm := rmOf 0 0) (s := s) (args := args) 0 C.1.2.2.2.2 gX4_pack_X4_putAside rfl rfl rfl hd_X4_putAside ⟨Nat.le_of_ble_eq_true rfl, Nat.le_of_ble_eq_true rfl⟩
  have w_X4_save := cwV (R := (rmOf 8 203)) (rm := rmOf 0 0) (s := s) (args := args) 0 C.1.2.2.2.2 gX4_pack_X4_save rfl rfl rfl hd_X4_save ⟨Nat.le_of_ble_eq_true rfl, Nat.le_of_ble_eq_true rfl⟩
  have w_X4_used := cwV (R := (rmOf 8 203)) (rm := rmOf 1 21) (s := s) (args := args) 0 C.1.2.2.2.2 gX4_pack_X4_used rfl rfl rfl hd_X4_used ⟨Nat.le_of_ble_eq_true rfl, Nat.le_of_ble_eq_true rfl⟩
  have h := gw_top h
  unfold fM_pack at h
  show gw_G p l e (rmOf 8 203) s m args below meth c D A (CtM D below (some (.int o.1)) (wM cI a o.2) A args s) 2 0 0 (wM cI a t) [(0, .ref (a 0))] 0 []
  refine gw_aload_n C dX4_pack_0 0 rfl ?_
  refine gw_bind h (fun q1 hq1 h => ?_)
  refine gw_whole (st2 := [.int q1]) C (run_V (rest := []) C (c_X4_used l D cI cJ cO a t hq1) w_X4_used 0 3 rfl rfl rfl rfl rfl (Nat.le_of_ble_eq_true rfl) dX4_pack_1 ⟨Nat.zero_le _, Nat.zero_le _⟩) rfl ?_
  refine gw_istore_n C dX4_pack_4 [(1, .int q1), (0, .ref (a 0))] rfl (by decide) rfl ?_
  refine gw_aload_n C dX4_pack_5 1 rfl ?_
  refine gw_bind h (fun q2 hq2 h => ?_)
  refine gw_whole (st2 := []) C (run_V (rest := []) C (c_X4_putAside l D cI cJ cO a t hq2) w_X4_putAside 0 3 rfl rfl rfl rfl rfl (Nat.le_of_ble_eq_true rfl) dX4_pack_6 ⟨Nat.zero_le _, Nat.zero_le _⟩) rfl ?_
  refine gw_aload_n C dX4_pack_9 1 rfl ?_
  refine gw_aload_n C dX4_pack_10 1 rfl ?_
  refine gw_bind h (fun q3 hq3 h => ?_)
  refine gw_whole (st2 := [.int q3.1, .ref (a 0)]) C (run_V (rest := [.ref (a 0)]) C (c_X4_packIt l D cI cJ cO a q2 hq3) w_X4_packIt 0 3 rfl rfl rfl rfl rfl (Nat.le_of_ble_eq_true rfl) dX4_pack_11 ⟨Nat.zero_le _, Nat.zero_le _⟩) rfl ?_
  refine gw_lt h (fun j4 ej4 h => ?_)
  have J4 : ∀ v4 : Int32, Rs some o (j4 v4) → gw_G p l e (rmOf 8 203) s m args below meth c D A (CtM D below (some (.int o.1)) (wM cI a o.2) A args s) 2 0 0 (wM cI a q3.2) [(0, .ref (a 0)), (1, .int q1)] 22 [.int v4, .ref (a 0)] := by
    intro v4 h
    have h := gw_app ej4 h
    refine gw_lt h (fun t6 et6 h => ?_)
    refine gw_put (ws' := wM cI a t6) (ty := .int) C dX4_pack_22 0 3 0 tyX4 tyX4_ok nmX4 rfl rfl iX4 (by decide) f40 rfl (tyX4_ok 0 (by decide)) rfl rfl (Nat.le_of_ble_eq_true rfl) (by subst et6; rfl) ?_
    refine gw_aload_n C dX4_pack_25 0 rfl ?_
    refine gw_bind h (fun q7 hq7 h => ?_)
    refine gw_whole (st2 := []) C (run_V (rest := []) C (c_X4_bringBack l D cI cJ cO a t6 hq7) w_X4_bringBack 0 3 rfl rfl rfl rfl rfl (Nat.le_of_ble_eq_true rfl) dX4_pack_26 ⟨Nat.zero_le _, Nat.zero_le _⟩) rfl ?_
    refine gw_aload_n C dX4_pack_29 0 rfl ?_
    refine gw_get C dX4_pack_30 0 3 0 rfl rfl iX4 (by decide) f40 rfl ?_
    refine gw_if_le (tgt := 38) C dX4_pack_33 (by decide) h (fun c8 h => ?_) (fun c8 h => ?_)
    · refine gw_aload_n C dX4_pack_38 0 rfl ?_
      refine gw_bind h (fun q9 hq9 h => ?_)
      refine gw_whole (st2 := []) C (run_V (rest := []) C (c_X4_save l D cI cJ cO a q7 hq9) w_X4_save 0 3 rfl rfl rfl rfl rfl (Nat.le_of_ble_eq_true rfl) dX4_pack_39 ⟨Nat.zero_le _, Nat.zero_le _⟩) rfl ?_
      refine gw_aload_n C dX4_pack_42 0 rfl ?_
      refine gw_bind h (fun q10 hq10 h => ?_)
      refine gw_whole (st2 := [.int q10.1]) C (run_V (rest := []) C (c_X4_packIt l D cI cJ cO a q9 hq10) w_X4_packIt 0 3 rfl rfl rfl rfl rfl (Nat.le_of_ble_eq_true rfl) dX4_pack_43 ⟨Nat.zero_le _, Nat.zero_le _⟩) rfl ?_
      refine gw_pop C dX4_pack_46 rfl ?_
      refine gw_iload_n C dX4_pack_47 1 rfl ?_
      refine gw_aload_n C dX4_pack_48 0 rfl ?_
      refine gw_bind h (fun q11 hq11 h => ?_)
      refine gw_whole (st2 := [.int q11, .int q1]) C (run_V (rest := [.int q1]) C (c_X4_used l D cI cJ cO a q10.2 hq11) w_X4_used 0 3 rfl rfl rfl rfl rfl (Nat.le_of_ble_eq_true rfl) dX4_pack_49 ⟨Nat.zero_le _, Nat.zero_le _⟩) rfl ?_
      refine gw_isub C dX4_pack_52 ?_
      refine gw_sipush (v := (1000 : Int32)) C dX4_pack_53 rfl ?_
      refine gw_iadd C dX4_pack_56 ?_
      have h := gw_some h
      have ho := Option.some.inj h
      subst ho
      exact gw_iret C dX4_pack_57
    · refine gw_iconst (v := (0 : Int32)) C dX4_pack_36 rfl ?_
      have h := gw_some h
      have ho := Option.some.inj h
      subst ho
      exact gw_iret C dX4_pack_37
  refine gw_if_eq (tgt := 21) C dX4_pack_14 (by decide) h (fun c5 h => ?_) (fun c5 h => ?_)
  · refine gw_iconst (v := (1 : Int32)) C dX4_pack_21 rfl ?_
    refine gw_sub [1, 0] rfl ?_
    exact J4 _ h
  · refine gw_iconst (v := (0 : Int32)) C dX4_pack_17 rfl ?_
    refine gw_goto (tgt := 22) C dX4_pack_18 (by decide) ?_
    refine gw_sub [1, 0] rfl ?_
    exact J4 _ h
theorem hd_X4_toldCell : yX4_toldCell.cls = RX4 ∧ yX4_toldCell.cls ≠ "java/lang/invoke/MethodHandle" ∧ yX4_toldCell.cls ≠ "java/lang/invoke/VarHandle" ∧ (parseMethodDescriptor yX4_toldCell.desc).map (fun d => d.parameters.length) = some 2 := by decide +kernel
set_option maxHeartbeats 4000000 in
set_option maxRecDepth 100000 in
theorem c_X4_toldCell (l : Launch) (D : va_G) (cI cJ cO : ClassId) (a : Nat → Nat) (t : MS) (p1 : Int32) (p2 : Int32) {o : Int32 × MS} (h : fM_toldCell p1 p2 t = some o) : Ct l D (tysA cI cJ cO) yX4_toldCell wsX4_toldCell (rmOf 3 68) [.ref (a 0), .int p1, .int p2] (wM cI a t) (some (.int o.1)) (wM cI a o.2) := by
  refine Ct_of (own := RX4) cX4_toldCell 3 (some .int) (by decide +kernel) rfl rfl (Nat.le_of_ble_eq_true rfl) ?_
  intro p e s m args below meth c A C hnm
  have iX4 : ∀ w ∈ u_ws RX4 TX4 16, w ∈ wsX4_toldCell := fun w h => List.mem_cons_of_mem _ (List.mem_append_right _ h)
  have f7 : Cond.fieldLink RX4 7 (TX4 1).1 (TX4 1).2.1 (TX4 1).2.2.1 ∈ wsX4_toldCell := List.mem_of_getElem? (i := 1) rfl
  have f25 : Cond.fieldLink RX4 25 (TX4 9).1 (TX4 9).2.1 (TX4 9).2.2.1 ∈ wsX4_toldCell := List.mem_of_getElem? (i := 2) rfl
  have w_X4_bits := va_cwS (R := (rmOf 3 68)) (rm := rmOf 0 0) (s := s) (args := args) 1 C.1.2.2.2.2 gX4_toldCell_X4_bits rfl rfl rfl hd_X4_bits.2 ⟨Nat.le_of_ble_eq_true rfl, Nat.le_of_ble_eq_true rfl⟩
  have w_X4_layBelow := cwV (R := (rmOf 3 68)) (rm := rmOf 1 21) (s := s) (args := args) 0 C.1.2.2.2.2 gX4_toldCell_X4_layBelow rfl rfl rfl hd_X4_layBelow ⟨Nat.le_of_ble_eq_true rfl, Nat.le_of_ble_eq_true rfl⟩
  have w_X4_lettersOf := cwV (R := (rmOf 3 68)) (rm := rmOf 2 45) (s := s) (args := args) 1 C.1.2.2.2.2 gX4_toldCell_X4_lettersOf rfl rfl rfl hd_X4_lettersOf ⟨Nat.le_of_ble_eq_true rfl, Nat.le_of_ble_eq_true rfl⟩
  have w_X4_offset := cwV (R := (rmOf 3 68)) (rm := rmOf 0 0) (s := s) (args := args) 1 C.1.2.2.2.2 gX4_toldCell_X4_offset rfl rfl rfl hd_X4_offset ⟨Nat.le_of_ble_eq_true rfl, Nat.le_of_ble_eq_true rfl⟩
  have h := gw_top h
  unfold fM_toldCell at h
  show gw_G p l e (rmOf 3 68) s m args below meth c D A (CtM D below (some (.int o.1)) (wM cI a o.2) A args s) 3 0 0 (wM cI a t) [(0, .ref (a 0)), (1, .int p1), (2, .int p2)] 0 []
  refine gw_iload_n C dX4_toldCell_0 2 rfl ?_
  refine gw_if h (fun c1 h => ?_) (fun c1 h => ?_)
  · refine gw_tabIn (k := (0 : Int32)) (off := 39) (tgt := 40) C dX4_toldCell_1 c1 (by decide) (by decide) rfl (by decide) ?_
    refine gw_aload_n C dX4_toldCell_40 0 rfl ?_
    refine gw_get C dX4_toldCell_41 0 3 1 rfl rfl iX4 (by decide) f7 rfl ?_
    refine gw_iconst (v := (0 : Int32)) C dX4_toldCell_44 rfl ?_
    refine gw_iload_n C dX4_toldCell_45 1 rfl ?_
    refine gw_iadd C dX4_toldCell_46 ?_
    refine gw_chk h (fun b2 h => ?_)
    refine gw_iald C dX4_toldCell_47 1 0 rfl rfl b2 ?_
    have h := gw_some h
    have ho := Option.some.inj h
    subst ho
    exact gw_iret C dX4_toldCell_48
  refine gw_if h (fun c3 h => ?_) (fun c3 h => ?_)
  · refine gw_tabIn (k := (1 : Int32)) (off := 48) (tgt := 49) C dX4_toldCell_1 c3 (by decide) (by decide) rfl (by decide) ?_
    refine gw_aload_n C dX4_toldCell_49 0 rfl ?_
    refine gw_get C dX4_toldCell_50 0 3 1 rfl rfl iX4 (by decide) f7 rfl ?_
    refine gw_sipush (v := (160 : Int32)) C dX4_toldCell_53 rfl ?_
    refine gw_iload_n C dX4_toldCell_56 1 rfl ?_
    refine gw_iadd C dX4_toldCell_57 ?_
    refine gw_chk h (fun b4 h => ?_)
    refine gw_iald C dX4_toldCell_58 1 0 rfl rfl b4 ?_
    have h := gw_some h
    have ho := Option.some.inj h
    subst ho
    exact gw_iret C dX4_toldCell_59
  refine gw_if h (fun c5 h => ?_) (fun c5 h => ?_)
  · refine gw_tabIn (k := (2 : Int32)) (off := 59) (tgt := 60) C dX4_toldCell_1 c5 (by decide) (by decide) rfl (by decide) ?_
    refine gw_aload_n C dX4_toldCell_60 0 rfl ?_
    refine gw_get C dX4_toldCell_61 0 3 1 rfl rfl iX4 (by decide) f7 rfl ?_
    refine gw_sipush (v := (320 : Int32)) C dX4_toldCell_64 rfl ?_
    refine gw_iload_n C dX4_toldCell_67 1 rfl ?_
    refine gw_iadd C dX4_toldCell_68 ?_
    refine gw_chk h (fun b6 h => ?_)
    refine gw_iald C dX4_toldCell_69 1 0 rfl rfl b6 ?_
    have h := gw_some h
    have ho := Option.some.inj h
    subst ho
    exact gw_iret C dX4_toldCell_70
  refine gw_if h (fun c7 h => ?_) (fun c7 h => ?_)
  · refine gw_tabIn (k := (3 : Int32)) (off := 70) (tgt := 71) C dX4_toldCell_1 c7 (by decide) (by decide) rfl (by decide) ?_
    refine gw_aload_n C dX4_toldCell_71 0 rfl ?_
    refine gw_iload_n C dX4_toldCell_72 1 rfl ?_
    refine gw_bind h (fun q8 hq8 h => ?_)
    refine gw_whole (st2 := [.int q8]) C (run_V (rest := []) C (c_X4_offset l D cI cJ cO a t p1 hq8) w_X4_offset 0 3 rfl rfl rfl rfl rfl (Nat.le_of_ble_eq_true rfl) dX4_toldCell_73 ⟨Nat.zero_le _, Nat.zero_le _⟩) rfl ?_
    have h := gw_some h
    have ho := Option.some.inj h
    subst ho
    exact gw_iret C dX4_toldCell_76
  refine gw_if h (fun c9 h => ?_) (fun c9 h => ?_)
  · refine gw_tabIn (k := (4 : Int32)) (off := 76) (tgt := 77) C dX4_toldCell_1 c9 (by decide) (by decide) rfl (by decide) ?_
    refine gw_aload_n C dX4_toldCell_77 0 rfl ?_
    refine gw_get C dX4_toldCell_78 0 3 1 rfl rfl iX4 (by decide) f7 rfl ?_
    refine gw_sipush (v := (640 : Int32)) C dX4_toldCell_81 rfl ?_
    refine gw_iload_n C dX4_toldCell_84 1 rfl ?_
    refine gw_iadd C dX4_toldCell_85 ?_
    refine gw_chk h (fun b10 h => ?_)
    refine gw_iald C dX4_toldCell_86 1 0 rfl rfl b10 ?_
    have h := gw_some h
    have ho := Option.some.inj h
    subst ho
    exact gw_iret C dX4_toldCell_87
  refine gw_if h (fun c11 h => ?_) (fun c11 h => ?_)
  · refine gw_tabIn (k := (5 : Int32)) (off := 87) (tgt := 88) C dX4_toldCell_1 c11 (by decide) (by decide) rfl (by decide) ?_
    refine gw_aload_n C dX4_toldCell_88 0 rfl ?_
    refine gw_iload_n C dX4_toldCell_89 1 rfl ?_
    refine gw_bind h (fun q12 hq12 h => ?_)
    refine gw_whole (st2 := [.int q12]) C (run_V (rest := []) C (c_X4_lettersOf l D cI cJ cO a t p1 hq12) w_X4_lettersOf 0 3 rfl rfl rfl rfl rfl (Nat.le_of_ble_eq_true rfl) dX4_toldCell_90 ⟨Nat.zero_le _, Nat.zero_le _⟩) rfl ?_
    refine gw_bind h (fun q13 hq13 h => ?_)
    refine gw_none (st2 := [.int q13]) C (run_S (rest := []) C (c_X4_bits l D cI cJ cO q12 hq13) w_X4_bits rfl rfl (Nat.le_of_ble_eq_true rfl) dX4_toldCell_93 ⟨Nat.zero_le _, Nat.zero_le _⟩) rfl ?_
    have h := gw_some h
    have ho := Option.some.inj h
    subst ho
    exact gw_iret C dX4_toldCell_96
  refine gw_tabOut (tgt := 97) C dX4_toldCell_1 (gw_out6 (lo := 0) c1 c3 c5 c7 c9 c11) (by decide) ?_
  refine gw_aload_n C dX4_toldCell_97 0 rfl ?_
  refine gw_bind h (fun q14 hq14 h => ?_)
  refine gw_whole (st2 := []) C (run_V (rest := []) C (c_X4_layBelow l D cI cJ cO a t hq14) w_X4_layBelow 0 3 rfl rfl rfl rfl rfl (Nat.le_of_ble_eq_true rfl) dX4_toldCell_98 ⟨Nat.zero_le _, Nat.zero_le _⟩) rfl ?_
  refine gw_aload_n C dX4_toldCell_101 0 rfl ?_
  refine gw_get C dX4_toldCell_102 0 3 9 rfl rfl iX4 (by decide) f25 rfl ?_
  refine gw_iload_n C dX4_toldCell_105 1 rfl ?_
  refine gw_chk h (fun b15 h => ?_)
  refine gw_iald C dX4_toldCell_106 6 0 rfl rfl b15 ?_
  have h := gw_some h
  have ho := Option.some.inj h
  subst ho
  exact gw_iret C dX4_toldCell_107
theorem hd_X4_cell : yX4_cell.cls = RX4 ∧ yX4_cell.cls ≠ "java/lang/invoke/MethodHandle" ∧ yX4_cell.cls ≠ "java/lang/invoke/VarHandle" ∧ (parseMethodDescriptor yX4_cell.desc).map (fun d => d.parameters.length) = some 2 := by decide +kernel
set_option maxHeartbeats 4000000 in
set_option maxRecDepth 100000 in
theorem c_X4_cell (l : Launch) (D : va_G) (cI cJ cO : ClassId) (a : Nat → Nat) (t : MS) (p1 : Int32) (p2 : Int32) {o : Int32 × MS} (h : fM_cell p1 p2 t = some o) : Ct l D (tysA cI cJ cO) yX4_cell wsX4_cell (rmOf 4 90) [.ref (a 0), .int p1, .int p2] (wM cI a t) (some (.int o.1)) (wM cI a o.2) := by
  refine Ct_of (own := RX4) cX4_cell 3 (some .int) (by decide +kernel) rfl rfl (Nat.le_of_ble_eq_true rfl) ?_
  intro p e s m args below meth c A C hnm
  have iX4 : ∀ w ∈ u_ws RX4 TX4 16, w ∈ wsX4_cell := fun w h => List.mem_cons_of_mem _ (List.mem_append_right _ h)
  have f40 : Cond.fieldLink RX4 40 (TX4 0).1 (TX4 0).2.1 (TX4 0).2.2.1 ∈ wsX4_cell := List.mem_of_getElem? (i := 1) rfl
  have w_X4_in := va_cwS (R := (rmOf 4 90)) (rm := rmOf 0 0) (s := s) (args := args) 3 C.1.2.2.2.2 gX4_cell_X4_in rfl rfl rfl hd_X4_in.2 ⟨Nat.le_of_ble_eq_true rfl, Nat.le_of_ble_eq_true rfl⟩
  have w_X4_toldCell := cwV (R := (rmOf 4 90)) (rm := rmOf 3 68) (s := s) (args := args) 2 C.1.2.2.2.2 gX4_cell_X4_toldCell rfl rfl rfl hd_X4_toldCell ⟨Nat.le_of_ble_eq_true rfl, Nat.le_of_ble_eq_true rfl⟩
  have h := gw_top h
  unfold fM_cell at h
  show gw_G p l e (rmOf 4 90) s m args below meth c D A (CtM D below (some (.int o.1)) (wM cI a o.2) A args s) 3 0 0 (wM cI a t) [(0, .ref (a 0)), (1, .int p1), (2, .int p2)] 0 []
  refine gw_aload_n C dX4_cell_0 0 rfl ?_
  refine gw_iload_n C dX4_cell_1 1 rfl ?_
  refine gw_iconst (v := (0 : Int32)) C dX4_cell_2 rfl ?_
  refine gw_sipush (v := (159 : Int32)) C dX4_cell_3 rfl ?_
  refine gw_none (st2 := [.int (fM_in p1 (0 : Int32) (159 : Int32)), .ref (a 0)]) C (run_S (rest := [.ref (a 0)]) C (c_X4_in l D cI cJ cO p1 (0 : Int32) (159 : Int32) rfl) w_X4_in rfl rfl (Nat.le_of_ble_eq_true rfl) dX4_cell_6 ⟨Nat.zero_le _, Nat.zero_le _⟩) rfl ?_
  refine gw_lt h (fun j1 ej1 h => ?_)
  have J1 : ∀ v1 : Int32, Rs some o (j1 v1) → gw_G p l e (rmOf 4 90) s m args below meth c D A (CtM D below (some (.int o.1)) (wM cI a o.2) A args s) 3 0 0 (wM cI a t) [(0, .ref (a 0)), (1, .int p1), (2, .int p2)] 31 [.int v1, .ref (a 0)] := by
    intro v1 h
    have h := gw_app ej1 h
    refine gw_lt h (fun t4 et4 h => ?_)
    refine gw_put (ws' := wM cI a t4) (ty := .int) C dX4_cell_31 0 3 0 tyX4 tyX4_ok nmX4 rfl rfl iX4 (by decide) f40 rfl (tyX4_ok 0 (by decide)) rfl rfl (Nat.le_of_ble_eq_true rfl) (by subst et4; rfl) ?_
    refine gw_aload_n C dX4_cell_34 0 rfl ?_
    refine gw_get C dX4_cell_35 0 3 0 rfl rfl iX4 (by decide) f40 rfl ?_
    refine gw_if_le (tgt := 45) C dX4_cell_38 (by decide) h (fun c5 h => ?_) (fun c5 h => ?_)
    · refine gw_aload_n C dX4_cell_45 0 rfl ?_
      refine gw_iload_n C dX4_cell_46 1 rfl ?_
      refine gw_iload_n C dX4_cell_47 2 rfl ?_
      refine gw_bind h (fun q6 hq6 h => ?_)
      refine gw_whole (st2 := [.int q6.1]) C (run_V (rest := []) C (c_X4_toldCell l D cI cJ cO a t4 p1 p2 hq6) w_X4_toldCell 0 3 rfl rfl rfl rfl rfl (Nat.le_of_ble_eq_true rfl) dX4_cell_48 ⟨Nat.zero_le _, Nat.zero_le _⟩) rfl ?_
      have h := gw_some h
      have ho := Option.some.inj h
      subst ho
      exact gw_iret C dX4_cell_51
    · refine gw_iconst (v := (0 : Int32)) C dX4_cell_41 rfl ?_
      refine gw_goto (tgt := 51) C dX4_cell_42 (by decide) ?_
      have h := gw_some h
      have ho := Option.some.inj h
      subst ho
      exact gw_iret C dX4_cell_51
  refine gw_if_ne (tgt := 16) C dX4_cell_9 (by decide) h (fun c2 h => ?_) (fun c2 h => ?_)
  · refine gw_iconst (v := (1 : Int32)) C dX4_cell_12 rfl ?_
    refine gw_goto (tgt := 31) C dX4_cell_13 (by decide) ?_
    exact J1 _ h
  · refine gw_iload_n C dX4_cell_16 2 rfl ?_
    refine gw_iconst (v := (0 : Int32)) C dX4_cell_17 rfl ?_
    refine gw_bipush (v := (6 : Int32)) C dX4_cell_18 rfl ?_
    refine gw_none (st2 := [.int (fM_in p2 (0 : Int32) (6 : Int32)), .ref (a 0)]) C (run_S (rest := [.ref (a 0)]) C (c_X4_in l D cI cJ cO p2 (0 : Int32) (6 : Int32) rfl) w_X4_in rfl rfl (Nat.le_of_ble_eq_true rfl) dX4_cell_20 ⟨Nat.zero_le _, Nat.zero_le _⟩) rfl ?_
    refine gw_if_eq (tgt := 30) C dX4_cell_23 (by decide) h (fun c3 h => ?_) (fun c3 h => ?_)
    · refine gw_iconst (v := (2 : Int32)) C dX4_cell_30 rfl ?_
      exact J1 _ h
    · refine gw_iconst (v := (0 : Int32)) C dX4_cell_26 rfl ?_
      refine gw_goto (tgt := 31) C dX4_cell_27 (by decide) ?_
      exact J1 _ h
theorem hd_X4_toldEnd : yX4_toldEnd.cls = RX4 ∧ yX4_toldEnd.cls ≠ "java/lang/invoke/MethodHandle" ∧ yX4_toldEnd.cls ≠ "java/lang/invoke/VarHandle" ∧ (parseMethodDescriptor yX4_toldEnd.desc).map (fun d => d.parameters.length) = some 2 := by decide +kernel
set_option maxHeartbeats 4000000 in
set_option maxRecDepth 100000 in
theorem c_X4_toldEnd (l : Launch) (D : va_G) (cI cJ cO : ClassId) (a : Nat → Nat) (t : MS) (p1 : Int32) (p2 : Int32) {o : Int32} (h : fM_toldEnd p1 p2 t = some o) : Ct l D (tysA cI cJ cO) yX4_toldEnd wsX4_toldEnd (rmOf 1 21) [.ref (a 0), .int p1, .int p2] (wM cI a t) (some (.int o)) (wM cI a t) := by
  refine Ct_of (own := RX4) cX4_toldEnd 3 (some .int) (by decide +kernel) rfl rfl (Nat.le_of_ble_eq_true rfl) ?_
  intro p e s m args below meth c A C hnm
  have w_X4_lengthOf := cwV (R := (rmOf 1 21)) (rm := rmOf 0 0) (s := s) (args := args) 1 C.1.2.2.2.2 gX4_toldEnd_X4_lengthOf rfl rfl rfl hd_X4_lengthOf ⟨Nat.le_of_ble_eq_true rfl, Nat.le_of_ble_eq_true rfl⟩
  have w_X4_usersOf := cwV (R := (rmOf 1 21)) (rm := rmOf 0 0) (s := s) (args := args) 1 C.1.2.2.2.2 gX4_toldEnd_X4_usersOf rfl rfl rfl hd_X4_usersOf ⟨Nat.le_of_ble_eq_true rfl, Nat.le_of_ble_eq_true rfl⟩
  have h := gw_top h
  unfold fM_toldEnd at h
  show gw_G p l e (rmOf 1 21) s m args below meth c D A (CtM D below (some (.int o)) (wM cI a t) A args s) 3 0 0 (wM cI a t) [(0, .ref (a 0)), (1, .int p1), (2, .int p2)] 0 []
  refine gw_iload_n C dX4_toldEnd_0 2 rfl ?_
  refine gw_if_ne (tgt := 12) C dX4_toldEnd_1 (by decide) h (fun c1 h => ?_) (fun c1 h => ?_)
  · refine gw_aload_n C dX4_toldEnd_4 0 rfl ?_
    refine gw_iload_n C dX4_toldEnd_5 1 rfl ?_
    refine gw_bind h (fun q2 hq2 h => ?_)
    refine gw_whole (st2 := [.int q2]) C (run_V (rest := []) C (c_X4_usersOf l D cI cJ cO a t p1 hq2) w_X4_usersOf 0 3 rfl rfl rfl rfl rfl (Nat.le_of_ble_eq_true rfl) dX4_toldEnd_6 ⟨Nat.zero_le _, Nat.zero_le _⟩) rfl ?_
    refine gw_goto (tgt := 29) C dX4_toldEnd_9 (by decide) ?_
    have h := gw_some h
    have ho := Option.some.inj h
    subst ho
    exact gw_iret C dX4_toldEnd_29
  · refine gw_aload_n C dX4_toldEnd_12 0 rfl ?_
    refine gw_iload_n C dX4_toldEnd_13 1 rfl ?_
    refine gw_bind h (fun q3 hq3 h => ?_)
    refine gw_whole (st2 := [.int q3]) C (run_V (rest := []) C (c_X4_usersOf l D cI cJ cO a t p1 hq3) w_X4_usersOf 0 3 rfl rfl rfl rfl rfl (Nat.le_of_ble_eq_true rfl) dX4_toldEnd_14 ⟨Nat.zero_le _, Nat.zero_le _⟩) rfl ?_
    refine gw_if_ne (tgt := 24) C dX4_toldEnd_17 (by decide) h (fun c4 h => ?_) (fun c4 h => ?_)
    · refine gw_iconst (v := (-1 : Int32)) C dX4_toldEnd_20 rfl ?_
      refine gw_goto (tgt := 29) C dX4_toldEnd_21 (by decide) ?_
      have h := gw_some h
      have ho := Option.some.inj h
      subst ho
      exact gw_iret C dX4_toldEnd_29
    · refine gw_aload_n C dX4_toldEnd_24 0 rfl ?_
      refine gw_iload_n C dX4_toldEnd_25 1 rfl ?_
      refine gw_bind h (fun q5 hq5 h => ?_)
      refine gw_whole (st2 := [.int q5]) C (run_V (rest := []) C (c_X4_lengthOf l D cI cJ cO a t p1 hq5) w_X4_lengthOf 0 3 rfl rfl rfl rfl rfl (Nat.le_of_ble_eq_true rfl) dX4_toldEnd_26 ⟨Nat.zero_le _, Nat.zero_le _⟩) rfl ?_
      have h := gw_some h
      have ho := Option.some.inj h
      subst ho
      exact gw_iret C dX4_toldEnd_29
theorem hd_X4_end : yX4_end.cls = RX4 ∧ yX4_end.cls ≠ "java/lang/invoke/MethodHandle" ∧ yX4_end.cls ≠ "java/lang/invoke/VarHandle" ∧ (parseMethodDescriptor yX4_end.desc).map (fun d => d.parameters.length) = some 2 := by decide +kernel
set_option maxHeartbeats 4000000 in
set_option maxRecDepth 100000 in
theorem c_X4_end (l : Launch) (D : va_G) (cI cJ cO : ClassId) (a : Nat → Nat) (t : MS) (p1 : Int32) (p2 : Int32) {o : Int32 × MS} (h : fM_end p1 p2 t = some o) : Ct l D (tysA cI cJ cO) yX4_end wsX4_end (rmOf 2 43) [.ref (a 0), .int p1, .int p2] (wM cI a t) (some (.int o.1)) (wM cI a o.2) := by
  refine Ct_of (own := RX4) cX4_end 3 (some .int) (by decide +kernel) rfl rfl (Nat.le_of_ble_eq_true rfl) ?_
  intro p e s m args below meth c A C hnm
  have iX4 : ∀ w ∈ u_ws RX4 TX4 16, w ∈ wsX4_end := fun w h => List.mem_cons_of_mem _ (List.mem_append_right _ h)
  have f40 : Cond.fieldLink RX4 40 (TX4 0).1 (TX4 0).2.1 (TX4 0).2.2.1 ∈ wsX4_end := List.mem_of_getElem? (i := 1) rfl
  have w_X4_in := va_cwS (R := (rmOf 2 43)) (rm := rmOf 0 0) (s := s) (args := args) 3 C.1.2.2.2.2 gX4_end_X4_in rfl rfl rfl hd_X4_in.2 ⟨Nat.le_of_ble_eq_true rfl, Nat.le_of_ble_eq_true rfl⟩
  have w_X4_toldEnd := cwV (R := (rmOf 2 43)) (rm := rmOf 1 21) (s := s) (args := args) 2 C.1.2.2.2.2 gX4_end_X4_toldEnd rfl rfl rfl hd_X4_toldEnd ⟨Nat.le_of_ble_eq_true rfl, Nat.le_of_ble_eq_true rfl⟩
  have h := gw_top h
  unfold fM_end at h
  show gw_G p l e (rmOf 2 43) s m args below meth c D A (CtM D below (some (.int o.1)) (wM cI a o.2) A args s) 3 0 0 (wM cI a t) [(0, .ref (a 0)), (1, .int p1), (2, .int p2)] 0 []
  refine gw_aload_n C dX4_end_0 0 rfl ?_
  refine gw_iload_n C dX4_end_1 1 rfl ?_
  refine gw_iconst (v := (0 : Int32)) C dX4_end_2 rfl ?_
  refine gw_bipush (v := (39 : Int32)) C dX4_end_3 rfl ?_
  refine gw_none (st2 := [.int (fM_in p1 (0 : Int32) (39 : Int32)), .ref (a 0)]) C (run_S (rest := [.ref (a 0)]) C (c_X4_in l D cI cJ cO p1 (0 : Int32) (39 : Int32) rfl) w_X4_in rfl rfl (Nat.le_of_ble_eq_true rfl) dX4_end_5 ⟨Nat.zero_le _, Nat.zero_le _⟩) rfl ?_
  refine gw_lt h (fun j1 ej1 h => ?_)
  have J1 : ∀ v1 : Int32, Rs some o (j1 v1) → gw_G p l e (rmOf 2 43) s m args below meth c D A (CtM D below (some (.int o.1)) (wM cI a o.2) A args s) 3 0 0 (wM cI a t) [(0, .ref (a 0)), (1, .int p1), (2, .int p2)] 29 [.int v1, .ref (a 0)] := by
    intro v1 h
    have h := gw_app ej1 h
    refine gw_lt h (fun t4 et4 h => ?_)
    refine gw_put (ws' := wM cI a t4) (ty := .int) C dX4_end_29 0 3 0 tyX4 tyX4_ok nmX4 rfl rfl iX4 (by decide) f40 rfl (tyX4_ok 0 (by decide)) rfl rfl (Nat.le_of_ble_eq_true rfl) (by subst et4; rfl) ?_
    refine gw_aload_n C dX4_end_32 0 rfl ?_
    refine gw_get C dX4_end_33 0 3 0 rfl rfl iX4 (by decide) f40 rfl ?_
    refine gw_if_le (tgt := 43) C dX4_end_36 (by decide) h (fun c5 h => ?_) (fun c5 h => ?_)
    · refine gw_aload_n C dX4_end_43 0 rfl ?_
      refine gw_iload_n C dX4_end_44 1 rfl ?_
      refine gw_iload_n C dX4_end_45 2 rfl ?_
      refine gw_bind h (fun q6 hq6 h => ?_)
      refine gw_whole (st2 := [.int q6]) C (run_V (rest := []) C (c_X4_toldEnd l D cI cJ cO a t4 p1 p2 hq6) w_X4_toldEnd 0 3 rfl rfl rfl rfl rfl (Nat.le_of_ble_eq_true rfl) dX4_end_46 ⟨Nat.zero_le _, Nat.zero_le _⟩) rfl ?_
      have h := gw_some h
      have ho := Option.some.inj h
      subst ho
      exact gw_iret C dX4_end_49
    · refine gw_iconst (v := (0 : Int32)) C dX4_end_39 rfl ?_
      refine gw_goto (tgt := 49) C dX4_end_40 (by decide) ?_
      have h := gw_some h
      have ho := Option.some.inj h
      subst ho
      exact gw_iret C dX4_end_49
  refine gw_if_ne (tgt := 15) C dX4_end_8 (by decide) h (fun c2 h => ?_) (fun c2 h => ?_)
  · refine gw_iconst (v := (1 : Int32)) C dX4_end_11 rfl ?_
    refine gw_goto (tgt := 29) C dX4_end_12 (by decide) ?_
    exact J1 _ h
  · refine gw_iload_n C dX4_end_15 2 rfl ?_
    refine gw_iconst (v := (0 : Int32)) C dX4_end_16 rfl ?_
    refine gw_iconst (v := (1 : Int32)) C dX4_end_17 rfl ?_
    refine gw_none (st2 := [.int (fM_in p2 (0 : Int32) (1 : Int32)), .ref (a 0)]) C (run_S (rest := [.ref (a 0)]) C (c_X4_in l D cI cJ cO p2 (0 : Int32) (1 : Int32) rfl) w_X4_in rfl rfl (Nat.le_of_ble_eq_true rfl) dX4_end_18 ⟨Nat.zero_le _, Nat.zero_le _⟩) rfl ?_
    refine gw_if_eq (tgt := 28) C dX4_end_21 (by decide) h (fun c3 h => ?_) (fun c3 h => ?_)
    · refine gw_iconst (v := (2 : Int32)) C dX4_end_28 rfl ?_
      exact J1 _ h
    · refine gw_iconst (v := (0 : Int32)) C dX4_end_24 rfl ?_
      refine gw_goto (tgt := 29) C dX4_end_25 (by decide) ?_
      exact J1 _ h
theorem hd_X4_letter : yX4_letter.cls = RX4 ∧ yX4_letter.cls ≠ "java/lang/invoke/MethodHandle" ∧ yX4_letter.cls ≠ "java/lang/invoke/VarHandle" ∧ (parseMethodDescriptor yX4_letter.desc).map (fun d => d.parameters.length) = some 2 := by decide +kernel
set_option maxHeartbeats 4000000 in
set_option maxRecDepth 100000 in
theorem c_X4_letter (l : Launch) (D : va_G) (cI cJ cO : ClassId) (a : Nat → Nat) (t : MS) (p1 : Int32) (p2 : Int32) {o : Int32 × MS} (h : fM_letter p1 p2 t = some o) : Ct l D (tysA cI cJ cO) yX4_letter wsX4_letter (rmOf 1 22) [.ref (a 0), .int p1, .int p2] (wM cI a t) (some (.int o.1)) (wM cI a o.2) := by
  refine Ct_of (own := RX4) cX4_letter 3 (some .int) (by decide +kernel) rfl rfl (Nat.le_of_ble_eq_true rfl) ?_
  intro p e s m args below meth c A C hnm
  have iX4 : ∀ w ∈ u_ws RX4 TX4 16, w ∈ wsX4_letter := fun w h => List.mem_cons_of_mem _ (List.mem_append_right _ h)
  have f40 : Cond.fieldLink RX4 40 (TX4 0).1 (TX4 0).2.1 (TX4 0).2.2.1 ∈ wsX4_letter := List.mem_of_getElem? (i := 1) rfl
  have w_X4_in := va_cwS (R := (rmOf 1 22)) (rm := rmOf 0 0) (s := s) (args := args) 3 C.1.2.2.2.2 gX4_letter_X4_in rfl rfl rfl hd_X4_in.2 ⟨Nat.le_of_ble_eq_true rfl, Nat.le_of_ble_eq_true rfl⟩
  have w_X4_lengthOf := cwV (R := (rmOf 1 22)) (rm := rmOf 0 0) (s := s) (args := args) 1 C.1.2.2.2.2 gX4_letter_X4_lengthOf rfl rfl rfl hd_X4_lengthOf ⟨Nat.le_of_ble_eq_true rfl, Nat.le_of_ble_eq_true rfl⟩
  have w_X4_letterOf := cwV (R := (rmOf 1 22)) (rm := rmOf 0 0) (s := s) (args := args) 2 C.1.2.2.2.2 gX4_letter_X4_letterOf rfl rfl rfl hd_X4_letterOf ⟨Nat.le_of_ble_eq_true rfl, Nat.le_of_ble_eq_true rfl⟩
  have w_X4_usersOf := cwV (R := (rmOf 1 22)) (rm := rmOf 0 0) (s := s) (args := args) 1 C.1.2.2.2.2 gX4_letter_X4_usersOf rfl rfl rfl hd_X4_usersOf ⟨Nat.le_of_ble_eq_true rfl, Nat.le_of_ble_eq_true rfl⟩
  have h := gw_top h
  unfold fM_letter at h
  show gw_G p l e (rmOf 1 22) s m args below meth c D A (CtM D below (some (.int o.1)) (wM cI a o.2) A args s) 3 0 0 (wM cI a t) [(0, .ref (a 0)), (1, .int p1), (2, .int p2)] 0 []
  refine gw_aload_n C dX4_letter_0 0 rfl ?_
  refine gw_iload_n C dX4_letter_1 1 rfl ?_
  refine gw_iconst (v := (0 : Int32)) C dX4_letter_2 rfl ?_
  refine gw_bipush (v := (39 : Int32)) C dX4_letter_3 rfl ?_
  refine gw_none (st2 := [.int (fM_in p1 (0 : Int32) (39 : Int32)), .ref (a 0)]) C (run_S (rest := [.ref (a 0)]) C (c_X4_in l D cI cJ cO p1 (0 : Int32) (39 : Int32) rfl) w_X4_in rfl rfl (Nat.le_of_ble_eq_true rfl) dX4_letter_5 ⟨Nat.zero_le _, Nat.zero_le _⟩) rfl ?_
  refine gw_lt h (fun j1 ej1 h => ?_)
  have J1 : ∀ v1 : Int32, Rs some o (j1 v1) → gw_G p l e (rmOf 1 22) s m args below meth c D A (CtM D below (some (.int o.1)) (wM cI a o.2) A args s) 3 0 0 (wM cI a t) [(0, .ref (a 0)), (1, .int p1), (2, .int p2)] 30 [.int v1, .ref (a 0)] := by
    intro v1 h
    have h := gw_app ej1 h
    refine gw_lt h (fun t4 et4 h => ?_)
    refine gw_put (ws' := wM cI a t4) (ty := .int) C dX4_letter_30 0 3 0 tyX4 tyX4_ok nmX4 rfl rfl iX4 (by decide) f40 rfl (tyX4_ok 0 (by decide)) rfl rfl (Nat.le_of_ble_eq_true rfl) (by subst et4; rfl) ?_
    refine gw_aload_n C dX4_letter_33 0 rfl ?_
    refine gw_get C dX4_letter_34 0 3 0 rfl rfl iX4 (by decide) f40 rfl ?_
    refine gw_if_le (tgt := 42) C dX4_letter_37 (by decide) h (fun c5 h => ?_) (fun c5 h => ?_)
    · refine gw_aload_n C dX4_letter_42 0 rfl ?_
      refine gw_iload_n C dX4_letter_43 1 rfl ?_
      refine gw_bind h (fun q6 hq6 h => ?_)
      refine gw_whole (st2 := [.int q6]) C (run_V (rest := []) C (c_X4_usersOf l D cI cJ cO a t4 p1 hq6) w_X4_usersOf 0 3 rfl rfl rfl rfl rfl (Nat.le_of_ble_eq_true rfl) dX4_letter_44 ⟨Nat.zero_le _, Nat.zero_le _⟩) rfl ?_
      refine gw_if_le (tgt := 68) C dX4_letter_47 (by decide) h (fun c7 h => ?_) (fun c7 h => ?_)
      · refine gw_iconst (v := (-1 : Int32)) C dX4_letter_68 rfl ?_
        have h := gw_some h
        have ho := Option.some.inj h
        subst ho
        exact gw_iret C dX4_letter_69
      · refine gw_iload_n C dX4_letter_50 2 rfl ?_
        refine gw_aload_n C dX4_letter_51 0 rfl ?_
        refine gw_iload_n C dX4_letter_52 1 rfl ?_
        refine gw_bind h (fun q8 hq8 h => ?_)
        refine gw_whole (st2 := [.int q8, .int p2]) C (run_V (rest := [.int p2]) C (c_X4_lengthOf l D cI cJ cO a t4 p1 hq8) w_X4_lengthOf 0 3 rfl rfl rfl rfl rfl (Nat.le_of_ble_eq_true rfl) dX4_letter_53 ⟨Nat.zero_le _, Nat.zero_le _⟩) rfl ?_
        refine gw_icmp_ge (tgt := 68) C dX4_letter_56 (by decide) h (fun c9 h => ?_) (fun c9 h => ?_)
        · refine gw_iconst (v := (-1 : Int32)) C dX4_letter_68 rfl ?_
          have h := gw_some h
          have ho := Option.some.inj h
          subst ho
          exact gw_iret C dX4_letter_69
        · refine gw_aload_n C dX4_letter_59 0 rfl ?_
          refine gw_iload_n C dX4_letter_60 1 rfl ?_
          refine gw_iload_n C dX4_letter_61 2 rfl ?_
          refine gw_bind h (fun q10 hq10 h => ?_)
          refine gw_whole (st2 := [.int q10]) C (run_V (rest := []) C (c_X4_letterOf l D cI cJ cO a t4 p1 p2 hq10) w_X4_letterOf 0 3 rfl rfl rfl rfl rfl (Nat.le_of_ble_eq_true rfl) dX4_letter_62 ⟨Nat.zero_le _, Nat.zero_le _⟩) rfl ?_
          refine gw_goto (tgt := 69) C dX4_letter_65 (by decide) ?_
          have h := gw_some h
          have ho := Option.some.inj h
          subst ho
          exact gw_iret C dX4_letter_69
    · refine gw_iconst (v := (0 : Int32)) C dX4_letter_40 rfl ?_
      have h := gw_some h
      have ho := Option.some.inj h
      subst ho
      exact gw_iret C dX4_letter_41
  refine gw_if_ne (tgt := 15) C dX4_letter_8 (by decide) h (fun c2 h => ?_) (fun c2 h => ?_)
  · refine gw_iconst (v := (1 : Int32)) C dX4_letter_11 rfl ?_
    refine gw_goto (tgt := 30) C dX4_letter_12 (by decide) ?_
    exact J1 _ h
  · refine gw_iload_n C dX4_letter_15 2 rfl ?_
    refine gw_iconst (v := (0 : Int32)) C dX4_letter_16 rfl ?_
    refine gw_bipush (v := (11 : Int32)) C dX4_letter_17 rfl ?_
    refine gw_none (st2 := [.int (fM_in p2 (0 : Int32) (11 : Int32)), .ref (a 0)]) C (run_S (rest := [.ref (a 0)]) C (c_X4_in l D cI cJ cO p2 (0 : Int32) (11 : Int32) rfl) w_X4_in rfl rfl (Nat.le_of_ble_eq_true rfl) dX4_letter_19 ⟨Nat.zero_le _, Nat.zero_le _⟩) rfl ?_
    refine gw_if_eq (tgt := 29) C dX4_letter_22 (by decide) h (fun c3 h => ?_) (fun c3 h => ?_)
    · refine gw_iconst (v := (2 : Int32)) C dX4_letter_29 rfl ?_
      exact J1 _ h
    · refine gw_iconst (v := (0 : Int32)) C dX4_letter_25 rfl ?_
      refine gw_goto (tgt := 30) C dX4_letter_26 (by decide) ?_
      exact J1 _ h
theorem hd_X4_cellsOf : yX4_cellsOf.cls = RX4 ∧ yX4_cellsOf.cls ≠ "java/lang/invoke/MethodHandle" ∧ yX4_cellsOf.cls ≠ "java/lang/invoke/VarHandle" ∧ (parseMethodDescriptor yX4_cellsOf.desc).map (fun d => d.parameters.length) = some 1 := by decide +kernel
set_option maxHeartbeats 4000000 in
set_option maxRecDepth 100000 in
theorem c_X4_cellsOf (l : Launch) (D : va_G) (cI cJ cO : ClassId) (a : Nat → Nat) (t : MS) (p1 : Int32) {o : Int32} (h : fM_cellsOf p1 t = some o) : Ct l D (tysA cI cJ cO) yX4_cellsOf wsX4_cellsOf (rmOf 0 0) [.ref (a 0), .int p1] (wM cI a t) (some (.int o)) (wM cI a t) := by
  refine Ct_of (own := RX4) cX4_cellsOf 4 (some .int) (by decide +kernel) rfl rfl (Nat.le_of_ble_eq_true rfl) ?_
  intro p e s m args below meth c A C hnm
  have iX4 : ∀ w ∈ u_ws RX4 TX4 16, w ∈ wsX4_cellsOf := fun w h => List.mem_cons_of_mem _ (List.mem_append_right _ h)
  have f7 : Cond.fieldLink RX4 7 (TX4 1).1 (TX4 1).2.1 (TX4 1).2.2.1 ∈ wsX4_cellsOf := List.mem_of_getElem? (i := 1) rfl
  have h := gw_top h
  unfold fM_cellsOf at h
  show gw_G p l e (rmOf 0 0) s m args below meth c D A (CtM D below (some (.int o)) (wM cI a t) A args s) 4 0 0 (wM cI a t) [(0, .ref (a 0)), (1, .int p1)] 0 []
  refine gw_iconst (v := (0 : Int32)) C dX4_cellsOf_0 rfl ?_
  refine gw_istore_n C dX4_cellsOf_1 [(2, .int (0 : Int32)), (0, .ref (a 0)), (1, .int p1)] rfl (by decide) rfl ?_
  refine gw_iconst (v := (0 : Int32)) C dX4_cellsOf_2 rfl ?_
  refine gw_istore_n C dX4_cellsOf_3 [(3, .int (0 : Int32)), (2, .int (0 : Int32)), (0, .ref (a 0)), (1, .int p1)] rfl (by decide) rfl ?_
  refine gw_sub [2, 3, 1, 0] rfl ?_
  refine gw_lpb (x0 := ((0 : Int32), (0 : Int32))) (Go := fun x1 : Int32 × Int32 => gw_G p l e (rmOf 0 0) s m args below meth c D A (CtM D below (some (.int o)) (wM cI a t) A args s) 4 0 0 (wM cI a t) [(0, .ref (a 0)), (1, .int p1), (2, .int x1.1), (3, .int x1.2)] 4 []) (GoX := fun v1 : Int32 => gw_G p l e (rmOf 0 0) s m args below meth c D A (CtM D below (some (.int o)) (wM cI a t) A args s) 4 0 0 (wM cI a t) [(2, .int v1)] 37 []) h (fun v1 h => ?_) (fun x1 K1 X1 I1 h => ?_)
  · refine gw_iload_n C dX4_cellsOf_37 0 rfl ?_
    have h := gw_some h
    have ho := Option.some.inj h
    subst ho
    exact gw_iret C dX4_cellsOf_38
  · refine gw_iload_n C dX4_cellsOf_4 3 rfl ?_
    refine gw_sipush (v := (160 : Int32)) C dX4_cellsOf_5 rfl ?_
    refine gw_icmp_ge (tgt := 37) C dX4_cellsOf_8 (by decide) h (fun c2 h => ?_) (fun c2 h => ?_)
    · refine gw_sub [2] rfl ?_
      have h := gw_some h
      exact X1 _ h
    · refine gw_iload_n C dX4_cellsOf_11 2 rfl ?_
      refine gw_aload_n C dX4_cellsOf_12 0 rfl ?_
      refine gw_get C dX4_cellsOf_13 0 3 1 rfl rfl iX4 (by decide) f7 rfl ?_
      refine gw_iconst (v := (0 : Int32)) C dX4_cellsOf_16 rfl ?_
      refine gw_iload_n C dX4_cellsOf_17 3 rfl ?_
      refine gw_iadd C dX4_cellsOf_18 ?_
      refine gw_chk h (fun b3 h => ?_)
      refine gw_iald C dX4_cellsOf_19 1 0 rfl rfl b3 ?_
      refine gw_iload_n C dX4_cellsOf_20 1 rfl ?_
      refine gw_lt h (fun j4 ej4 h => ?_)
      have J4 : ∀ v4 : Int32, Rs K1 o (j4 v4) → gw_G p l e (rmOf 0 0) s m args below meth c D A (CtM D below (some (.int o)) (wM cI a t) A args s) 4 0 0 (wM cI a t) [(0, .ref (a 0)), (1, .int p1), (3, .int x1.2)] 29 [.int v4, .int x1.1] := by
        intro v4 h
        have h := gw_app ej4 h
        refine gw_iadd C dX4_cellsOf_29 ?_
        refine gw_lt h (fun v6 ev6 h => ?_)
        rw [ev6]
        refine gw_istore_n C dX4_cellsOf_30 [(2, .int v6), (0, .ref (a 0)), (1, .int p1), (3, .int x1.2)] rfl (by decide) rfl ?_
        refine gw_iinc (v := (x1.2 + (1 : Int32))) C dX4_cellsOf_31 [(3, .int (x1.2 + (1 : Int32))), (2, .int v6), (0, .ref (a 0)), (1, .int p1)] 3 rfl rfl (by decide) rfl ?_
        refine gw_goto (tgt := 4) C dX4_cellsOf_34 (by decide) ?_
        refine gw_sub [2, 3, 1, 0] rfl ?_
        have h := gw_some h
        exact I1 _ h
      refine gw_icmp_ne (tgt := 28) C dX4_cellsOf_21 (by decide) h (fun c5 h => ?_) (fun c5 h => ?_)
      · refine gw_iconst (v := (1 : Int32)) C dX4_cellsOf_24 rfl ?_
        refine gw_goto (tgt := 29) C dX4_cellsOf_25 (by decide) ?_
        refine gw_sub [0, 1, 3] rfl ?_
        exact J4 _ h
      · refine gw_iconst (v := (0 : Int32)) C dX4_cellsOf_28 rfl ?_
        refine gw_sub [0, 1, 3] rfl ?_
        exact J4 _ h
theorem hd_X4_ends : yX4_ends.cls = RX4 ∧ yX4_ends.cls ≠ "java/lang/invoke/MethodHandle" ∧ yX4_ends.cls ≠ "java/lang/invoke/VarHandle" ∧ (parseMethodDescriptor yX4_ends.desc).map (fun d => d.parameters.length) = some 0 := by decide +kernel
set_option maxHeartbeats 4000000 in
set_option maxRecDepth 100000 in
theorem c_X4_ends (l : Launch) (D : va_G) (cI cJ cO : ClassId) (a : Nat → Nat) (t : MS)  {o : Int32} (h : fM_ends t = some o) : Ct l D (tysA cI cJ cO) yX4_ends wsX4_ends (rmOf 1 21) [.ref (a 0)] (wM cI a t) (some (.int o)) (wM cI a t) := by
  refine Ct_of (own := RX4) cX4_ends 3 (some .int) (by decide +kernel) rfl rfl (Nat.le_of_ble_eq_true rfl) ?_
  intro p e s m args below meth c A C hnm
  have w_X4_usersOf := cwV (R := (rmOf 1 21)) (rm := rmOf 0 0) (s := s) (args := args) 1 C.1.2.2.2.2 gX4_ends_X4_usersOf rfl rfl rfl hd_X4_usersOf ⟨Nat.le_of_ble_eq_true rfl, Nat.le_of_ble_eq_true rfl⟩
  have h := gw_top h
  unfold fM_ends at h
  show gw_G p l e (rmOf 1 21) s m args below meth c D A (CtM D below (some (.int o)) (wM cI a t) A args s) 3 0 0 (wM cI a t) [(0, .ref (a 0))] 0 []
  refine gw_iconst (v := (0 : Int32)) C dX4_ends_0 rfl ?_
  refine gw_istore_n C dX4_ends_1 [(1, .int (0 : Int32)), (0, .ref (a 0))] rfl (by decide) rfl ?_
  refine gw_iconst (v := (0 : Int32)) C dX4_ends_2 rfl ?_
  refine gw_istore_n C dX4_ends_3 [(2, .int (0 : Int32)), (1, .int (0 : Int32)), (0, .ref (a 0))] rfl (by decide) rfl ?_
  refine gw_sub [2, 1, 0] rfl ?_
  refine gw_lpb (x0 := ((0 : Int32), (0 : Int32))) (Go := fun x1 : Int32 × Int32 => gw_G p l e (rmOf 1 21) s m args below meth c D A (CtM D below (some (.int o)) (wM cI a t) A args s) 3 0 0 (wM cI a t) [(0, .ref (a 0)), (1, .int x1.1), (2, .int x1.2)] 4 []) (GoX := fun v1 : Int32 => gw_G p l e (rmOf 1 21) s m args below meth c D A (CtM D below (some (.int o)) (wM cI a t) A args s) 3 0 0 (wM cI a t) [(1, .int v1)] 32 []) h (fun v1 h => ?_) (fun x1 K1 X1 I1 h => ?_)
  · refine gw_iload_n C dX4_ends_32 0 rfl ?_
    have h := gw_some h
    have ho := Option.some.inj h
    subst ho
    exact gw_iret C dX4_ends_33
  · refine gw_iload_n C dX4_ends_4 2 rfl ?_
    refine gw_bipush (v := (40 : Int32)) C dX4_ends_5 rfl ?_
    refine gw_icmp_ge (tgt := 32) C dX4_ends_7 (by decide) h (fun c2 h => ?_) (fun c2 h => ?_)
    · refine gw_sub [1] rfl ?_
      have h := gw_some h
      exact X1 _ h
    · refine gw_iload_n C dX4_ends_10 1 rfl ?_
      refine gw_aload_n C dX4_ends_11 0 rfl ?_
      refine gw_iload_n C dX4_ends_12 2 rfl ?_
      refine gw_bind h (fun q3 hq3 h => ?_)
      refine gw_whole (st2 := [.int q3, .int x1.1]) C (run_V (rest := [.int x1.1]) C (c_X4_usersOf l D cI cJ cO a t x1.2 hq3) w_X4_usersOf 0 3 rfl rfl rfl rfl rfl (Nat.le_of_ble_eq_true rfl) dX4_ends_13 ⟨Nat.zero_le _, Nat.zero_le _⟩) rfl ?_
      refine gw_lt h (fun j4 ej4 h => ?_)
      have J4 : ∀ v4 : Int32, Rs K1 o (j4 v4) → gw_G p l e (rmOf 1 21) s m args below meth c D A (CtM D below (some (.int o)) (wM cI a t) A args s) 3 0 0 (wM cI a t) [(0, .ref (a 0)), (2, .int x1.2)] 24 [.int v4, .int x1.1] := by
        intro v4 h
        have h := gw_app ej4 h
        refine gw_iadd C dX4_ends_24 ?_
        refine gw_lt h (fun v6 ev6 h => ?_)
        rw [ev6]
        refine gw_istore_n C dX4_ends_25 [(1, .int v6), (0, .ref (a 0)), (2, .int x1.2)] rfl (by decide) rfl ?_
        refine gw_iinc (v := (x1.2 + (1 : Int32))) C dX4_ends_26 [(2, .int (x1.2 + (1 : Int32))), (1, .int v6), (0, .ref (a 0))] 2 rfl rfl (by decide) rfl ?_
        refine gw_goto (tgt := 4) C dX4_ends_29 (by decide) ?_
        refine gw_sub [2, 1, 0] rfl ?_
        have h := gw_some h
        exact I1 _ h
      refine gw_if_le (tgt := 23) C dX4_ends_16 (by decide) h (fun c5 h => ?_) (fun c5 h => ?_)
      · refine gw_iconst (v := (0 : Int32)) C dX4_ends_23 rfl ?_
        refine gw_sub [0, 2] rfl ?_
        exact J4 _ h
      · refine gw_iconst (v := (1 : Int32)) C dX4_ends_19 rfl ?_
        refine gw_goto (tgt := 24) C dX4_ends_20 (by decide) ?_
        refine gw_sub [0, 2] rfl ?_
        exact J4 _ h
theorem hd_X4_lettersOfEnds : yX4_lettersOfEnds.cls = RX4 ∧ yX4_lettersOfEnds.cls ≠ "java/lang/invoke/MethodHandle" ∧ yX4_lettersOfEnds.cls ≠ "java/lang/invoke/VarHandle" ∧ (parseMethodDescriptor yX4_lettersOfEnds.desc).map (fun d => d.parameters.length) = some 0 := by decide +kernel
set_option maxHeartbeats 4000000 in
set_option maxRecDepth 100000 in
theorem c_X4_lettersOfEnds (l : Launch) (D : va_G) (cI cJ cO : ClassId) (a : Nat → Nat) (t : MS)  {o : Int32} (h : fM_lettersOfEnds t = some o) : Ct l D (tysA cI cJ cO) yX4_lettersOfEnds wsX4_lettersOfEnds (rmOf 1 21) [.ref (a 0)] (wM cI a t) (some (.int o)) (wM cI a t) := by
  refine Ct_of (own := RX4) cX4_lettersOfEnds 3 (some .int) (by decide +kernel) rfl rfl (Nat.le_of_ble_eq_true rfl) ?_
  intro p e s m args below meth c A C hnm
  have w_X4_lengthOf := cwV (R := (rmOf 1 21)) (rm := rmOf 0 0) (s := s) (args := args) 1 C.1.2.2.2.2 gX4_lettersOfEnds_X4_lengthOf rfl rfl rfl hd_X4_lengthOf ⟨Nat.le_of_ble_eq_true rfl, Nat.le_of_ble_eq_true rfl⟩
  have w_X4_usersOf := cwV (R := (rmOf 1 21)) (rm := rmOf 0 0) (s := s) (args := args) 1 C.1.2.2.2.2 gX4_lettersOfEnds_X4_usersOf rfl rfl rfl hd_X4_usersOf ⟨Nat.le_of_ble_eq_true rfl, Nat.le_of_ble_eq_true rfl⟩
  have h := gw_top h
  unfold fM_lettersOfEnds at h
  show gw_G p l e (rmOf 1 21) s m args below meth c D A (CtM D below (some (.int o)) (wM cI a t) A args s) 3 0 0 (wM cI a t) [(0, .ref (a 0))] 0 []
  refine gw_iconst (v := (0 : Int32)) C dX4_lettersOfEnds_0 rfl ?_
  refine gw_istore_n C dX4_lettersOfEnds_1 [(1, .int (0 : Int32)), (0, .ref (a 0))] rfl (by decide) rfl ?_
  refine gw_iconst (v := (0 : Int32)) C dX4_lettersOfEnds_2 rfl ?_
  refine gw_istore_n C dX4_lettersOfEnds_3 [(2, .int (0 : Int32)), (1, .int (0 : Int32)), (0, .ref (a 0))] rfl (by decide) rfl ?_
  refine gw_sub [2, 1, 0] rfl ?_
  refine gw_lpb (x0 := ((0 : Int32), (0 : Int32))) (Go := fun x1 : Int32 × Int32 => gw_G p l e (rmOf 1 21) s m args below meth c D A (CtM D below (some (.int o)) (wM cI a t) A args s) 3 0 0 (wM cI a t) [(0, .ref (a 0)), (1, .int x1.1), (2, .int x1.2)] 4 []) (GoX := fun v1 : Int32 => gw_G p l e (rmOf 1 21) s m args below meth c D A (CtM D below (some (.int o)) (wM cI a t) A args s) 3 0 0 (wM cI a t) [(1, .int v1)] 36 []) h (fun v1 h => ?_) (fun x1 K1 X1 I1 h => ?_)
  · refine gw_iload_n C dX4_lettersOfEnds_36 0 rfl ?_
    have h := gw_some h
    have ho := Option.some.inj h
    subst ho
    exact gw_iret C dX4_lettersOfEnds_37
  · refine gw_iload_n C dX4_lettersOfEnds_4 2 rfl ?_
    refine gw_bipush (v := (40 : Int32)) C dX4_lettersOfEnds_5 rfl ?_
    refine gw_icmp_ge (tgt := 36) C dX4_lettersOfEnds_7 (by decide) h (fun c2 h => ?_) (fun c2 h => ?_)
    · refine gw_sub [1] rfl ?_
      have h := gw_some h
      exact X1 _ h
    · refine gw_iload_n C dX4_lettersOfEnds_10 1 rfl ?_
      refine gw_aload_n C dX4_lettersOfEnds_11 0 rfl ?_
      refine gw_iload_n C dX4_lettersOfEnds_12 2 rfl ?_
      refine gw_bind h (fun q3 hq3 h => ?_)
      refine gw_whole (st2 := [.int q3, .int x1.1]) C (run_V (rest := [.int x1.1]) C (c_X4_usersOf l D cI cJ cO a t x1.2 hq3) w_X4_usersOf 0 3 rfl rfl rfl rfl rfl (Nat.le_of_ble_eq_true rfl) dX4_lettersOfEnds_13 ⟨Nat.zero_le _, Nat.zero_le _⟩) rfl ?_
      refine gw_lt h (fun j4 ej4 h => ?_)
      have J4 : ∀ v4 : Int32, Rs K1 o (j4 v4) → gw_G p l e (rmOf 1 21) s m args below meth c D A (CtM D below (some (.int o)) (wM cI a t) A args s) 3 0 0 (wM cI a t) [(0, .ref (a 0)), (2, .int x1.2)] 28 [.int v4, .int x1.1] := by
        intro v4 h
        have h := gw_app ej4 h
        refine gw_iadd C dX4_lettersOfEnds_28 ?_
        refine gw_lt h (fun v7 ev7 h => ?_)
        rw [ev7]
        refine gw_istore_n C dX4_lettersOfEnds_29 [(1, .int v7), (0, .ref (a 0)), (2, .int x1.2)] rfl (by decide) rfl ?_
        refine gw_iinc (v := (x1.2 + (1 : Int32))) C dX4_lettersOfEnds_30 [(2, .int (x1.2 + (1 : Int32))), (1, .int v7), (0, .ref (a 0))] 2 rfl rfl (by decide) rfl ?_
        refine gw_goto (tgt := 4) C dX4_lettersOfEnds_33 (by decide) ?_
        refine gw_sub [2, 1, 0] rfl ?_
        have h := gw_some h
        exact I1 _ h
      refine gw_if_le (tgt := 27) C dX4_lettersOfEnds_16 (by decide) h (fun c5 h => ?_) (fun c5 h => ?_)
      · refine gw_iconst (v := (0 : Int32)) C dX4_lettersOfEnds_27 rfl ?_
        refine gw_sub [0, 2] rfl ?_
        exact J4 _ h
      · refine gw_aload_n C dX4_lettersOfEnds_19 0 rfl ?_
        refine gw_iload_n C dX4_lettersOfEnds_20 2 rfl ?_
        refine gw_bind h (fun q6 hq6 h => ?_)
        refine gw_whole (st2 := [.int q6, .int x1.1]) C (run_V (rest := [.int x1.1]) C (c_X4_lengthOf l D cI cJ cO a t x1.2 hq6) w_X4_lengthOf 0 3 rfl rfl rfl rfl rfl (Nat.le_of_ble_eq_true rfl) dX4_lettersOfEnds_21 ⟨Nat.zero_le _, Nat.zero_le _⟩) rfl ?_
        refine gw_goto (tgt := 28) C dX4_lettersOfEnds_24 (by decide) ?_
        refine gw_sub [0, 2] rfl ?_
        exact J4 _ h
theorem hd_X4_greatest : yX4_greatest.cls = RX4 ∧ yX4_greatest.cls ≠ "java/lang/invoke/MethodHandle" ∧ yX4_greatest.cls ≠ "java/lang/invoke/VarHandle" ∧ (parseMethodDescriptor yX4_greatest.desc).map (fun d => d.parameters.length) = some 0 := by decide +kernel
set_option maxHeartbeats 4000000 in
set_option maxRecDepth 100000 in
theorem c_X4_greatest (l : Launch) (D : va_G) (cI cJ cO : ClassId) (a : Nat → Nat) (t : MS)  {o : Int32} (h : fM_greatest t = some o) : Ct l D (tysA cI cJ cO) yX4_greatest wsX4_greatest (rmOf 1 21) [.ref (a 0)] (wM cI a t) (some (.int o)) (wM cI a t) := by
  refine Ct_of (own := RX4) cX4_greatest 3 (some .int) (by decide +kernel) rfl rfl (Nat.le_of_ble_eq_true rfl) ?_
  intro p e s m args below meth c A C hnm
  have w_X4_isUsed := cwV (R := (rmOf 1 21)) (rm := rmOf 0 0) (s := s) (args := args) 1 C.1.2.2.2.2 gX4_greatest_X4_isUsed rfl rfl rfl hd_X4_isUsed ⟨Nat.le_of_ble_eq_true rfl, Nat.le_of_ble_eq_true rfl⟩
  have h := gw_top h
  unfold fM_greatest at h
  show gw_G p l e (rmOf 1 21) s m args below meth c D A (CtM D below (some (.int o)) (wM cI a t) A args s) 3 0 0 (wM cI a t) [(0, .ref (a 0))] 0 []
  refine gw_iconst (v := (0 : Int32)) C dX4_greatest_0 rfl ?_
  refine gw_istore_n C dX4_greatest_1 [(1, .int (0 : Int32)), (0, .ref (a 0))] rfl (by decide) rfl ?_
  refine gw_iconst (v := (0 : Int32)) C dX4_greatest_2 rfl ?_
  refine gw_istore_n C dX4_greatest_3 [(2, .int (0 : Int32)), (1, .int (0 : Int32)), (0, .ref (a 0))] rfl (by decide) rfl ?_
  refine gw_sub [2, 1, 0] rfl ?_
  refine gw_lpb (x0 := ((0 : Int32), (0 : Int32))) (Go := fun x1 : Int32 × Int32 => gw_G p l e (rmOf 1 21) s m args below meth c D A (CtM D below (some (.int o)) (wM cI a t) A args s) 3 0 0 (wM cI a t) [(0, .ref (a 0)), (1, .int x1.1), (2, .int x1.2)] 4 []) (GoX := fun v1 : Int32 => gw_G p l e (rmOf 1 21) s m args below meth c D A (CtM D below (some (.int o)) (wM cI a t) A args s) 3 0 0 (wM cI a t) [(1, .int v1)] 31 []) h (fun v1 h => ?_) (fun x1 K1 X1 I1 h => ?_)
  · refine gw_iload_n C dX4_greatest_31 0 rfl ?_
    have h := gw_some h
    have ho := Option.some.inj h
    subst ho
    exact gw_iret C dX4_greatest_32
  · refine gw_iload_n C dX4_greatest_4 2 rfl ?_
    refine gw_sipush (v := (160 : Int32)) C dX4_greatest_5 rfl ?_
    refine gw_icmp_ge (tgt := 31) C dX4_greatest_8 (by decide) h (fun c2 h => ?_) (fun c2 h => ?_)
    · refine gw_sub [1] rfl ?_
      have h := gw_some h
      exact X1 _ h
    · refine gw_aload_n C dX4_greatest_11 0 rfl ?_
      refine gw_iload_n C dX4_greatest_12 2 rfl ?_
      refine gw_bind h (fun q3 hq3 h => ?_)
      refine gw_whole (st2 := [.int q3]) C (run_V (rest := []) C (c_X4_isUsed l D cI cJ cO a t x1.2 hq3) w_X4_isUsed 0 3 rfl rfl rfl rfl rfl (Nat.le_of_ble_eq_true rfl) dX4_greatest_13 ⟨Nat.zero_le _, Nat.zero_le _⟩) rfl ?_
      refine gw_lt h (fun j4 ej4 h => ?_)
      have J4 : ∀ v4 : Int32, Rs K1 o (j4 v4) → gw_G p l e (rmOf 1 21) s m args below meth c D A (CtM D below (some (.int o)) (wM cI a t) A args s) 3 0 0 (wM cI a t) [(0, .ref (a 0)), (2, .int x1.2)] 24 [.int v4] := by
        intro v4 h
        have h := gw_app ej4 h
        refine gw_istore_n C dX4_greatest_24 [(1, .int v4), (0, .ref (a 0)), (2, .int x1.2)] rfl (by decide) rfl ?_
        refine gw_iinc (v := (x1.2 + (1 : Int32))) C dX4_greatest_25 [(2, .int (x1.2 + (1 : Int32))), (1, .int v4), (0, .ref (a 0))] 2 rfl rfl (by decide) rfl ?_
        refine gw_goto (tgt := 4) C dX4_greatest_28 (by decide) ?_
        refine gw_sub [2, 1, 0] rfl ?_
        have h := gw_some h
        exact I1 _ h
      refine gw_if_eq (tgt := 23) C dX4_greatest_16 (by decide) h (fun c5 h => ?_) (fun c5 h => ?_)
      · refine gw_iload_n C dX4_greatest_23 1 rfl ?_
        refine gw_sub [0, 2] rfl ?_
        exact J4 _ h
      · refine gw_iload_n C dX4_greatest_19 2 rfl ?_
        refine gw_goto (tgt := 24) C dX4_greatest_20 (by decide) ?_
        refine gw_sub [0, 2] rfl ?_
        exact J4 _ h
theorem hd_X4_lettersOfWords : yX4_lettersOfWords.cls = RX4 ∧ yX4_lettersOfWords.cls ≠ "java/lang/invoke/MethodHandle" ∧ yX4_lettersOfWords.cls ≠ "java/lang/invoke/VarHandle" ∧ (parseMethodDescriptor yX4_lettersOfWords.desc).map (fun d => d.parameters.length) = some 0 := by decide +kernel
set_option maxHeartbeats 4000000 in
set_option maxRecDepth 100000 in
theorem c_X4_lettersOfWords (l : Launch) (D : va_G) (cI cJ cO : ClassId) (a : Nat → Nat) (t : MS)  {o : Int32 × MS} (h : fM_lettersOfWords t = some o) : Ct l D (tysA cI cJ cO) yX4_lettersOfWords wsX4_lettersOfWords (rmOf 3 71) [.ref (a 0)] (wM cI a t) (some (.int o.1)) (wM cI a o.2) := by
  refine Ct_of (own := RX4) cX4_lettersOfWords 3 (some .int) (by decide +kernel) rfl rfl (Nat.le_of_ble_eq_true rfl) ?_
  intro p e s m args below meth c A C hnm
  have iX4 : ∀ w ∈ u_ws RX4 TX4 16, w ∈ wsX4_lettersOfWords := fun w h => List.mem_cons_of_mem _ (List.mem_append_right _ h)
  have f25 : Cond.fieldLink RX4 25 (TX4 9).1 (TX4 9).2.1 (TX4 9).2.2.1 ∈ wsX4_lettersOfWords := List.mem_of_getElem? (i := 1) rfl
  have f160 : Cond.fieldLink RX4 160 (TX4 11).1 (TX4 11).2.1 (TX4 11).2.2.1 ∈ wsX4_lettersOfWords := List.mem_of_getElem? (i := 2) rfl
  have w_X4_layBelow := cwV (R := (rmOf 3 71)) (rm := rmOf 1 21) (s := s) (args := args) 0 C.1.2.2.2.2 gX4_lettersOfWords_X4_layBelow rfl rfl rfl hd_X4_layBelow ⟨Nat.le_of_ble_eq_true rfl, Nat.le_of_ble_eq_true rfl⟩
  have w_X4_layWord := cwV (R := (rmOf 3 71)) (rm := rmOf 2 45) (s := s) (args := args) 1 C.1.2.2.2.2 gX4_lettersOfWords_X4_layWord rfl rfl rfl hd_X4_layWord ⟨Nat.le_of_ble_eq_true rfl, Nat.le_of_ble_eq_true rfl⟩
  have h := gw_top h
  unfold fM_lettersOfWords at h
  show gw_G p l e (rmOf 3 71) s m args below meth c D A (CtM D below (some (.int o.1)) (wM cI a o.2) A args s) 3 0 0 (wM cI a t) [(0, .ref (a 0))] 0 []
  refine gw_aload_n C dX4_lettersOfWords_0 0 rfl ?_
  refine gw_bind h (fun q1 hq1 h => ?_)
  refine gw_whole (st2 := []) C (run_V (rest := []) C (c_X4_layBelow l D cI cJ cO a t hq1) w_X4_layBelow 0 3 rfl rfl rfl rfl rfl (Nat.le_of_ble_eq_true rfl) dX4_lettersOfWords_1 ⟨Nat.zero_le _, Nat.zero_le _⟩) rfl ?_
  refine gw_iconst (v := (0 : Int32)) C dX4_lettersOfWords_4 rfl ?_
  refine gw_istore_n C dX4_lettersOfWords_5 [(1, .int (0 : Int32)), (0, .ref (a 0))] rfl (by decide) rfl ?_
  refine gw_iconst (v := (0 : Int32)) C dX4_lettersOfWords_6 rfl ?_
  refine gw_istore_n C dX4_lettersOfWords_7 [(2, .int (0 : Int32)), (1, .int (0 : Int32)), (0, .ref (a 0))] rfl (by decide) rfl ?_
  refine gw_sub [2, 1, 0] rfl ?_
  refine gw_lpb (x0 := ((0 : Int32), (0 : Int32), q1)) (Go := fun x2 : Int32 × Int32 × MS => gw_G p l e (rmOf 3 71) s m args below meth c D A (CtM D below (some (.int o.1)) (wM cI a o.2) A args s) 3 0 0 (wM cI a x2.2.2) [(0, .ref (a 0)), (1, .int x2.1), (2, .int x2.2.1)] 8 []) (GoX := fun v2 : Int32 × MS => gw_G p l e (rmOf 3 71) s m args below meth c D A (CtM D below (some (.int o.1)) (wM cI a o.2) A args s) 3 0 0 (wM cI a v2.2) [(1, .int v2.1)] 36 []) h (fun v2 h => ?_) (fun x2 K2 X2 I2 h => ?_)
  · refine gw_iload_n C dX4_lettersOfWords_36 0 rfl ?_
    have h := gw_some h
    have ho := Option.some.inj h
    subst ho
    exact gw_iret C dX4_lettersOfWords_37
  · refine gw_iload_n C dX4_lettersOfWords_8 2 rfl ?_
    refine gw_aload_n C dX4_lettersOfWords_9 0 rfl ?_
    refine gw_get C dX4_lettersOfWords_10 0 3 9 rfl rfl iX4 (by decide) f25 rfl ?_
    refine gw_iconst (v := (0 : Int32)) C dX4_lettersOfWords_13 rfl ?_
    refine gw_chk h (fun b3 h => ?_)
    refine gw_iald C dX4_lettersOfWords_14 6 0 rfl rfl b3 ?_
    refine gw_icmp_ge (tgt := 36) C dX4_lettersOfWords_15 (by decide) h (fun c4 h => ?_) (fun c4 h => ?_)
    · refine gw_sub [1] rfl ?_
      have h := gw_some h
      exact X2 _ h
    · refine gw_aload_n C dX4_lettersOfWords_18 0 rfl ?_
      refine gw_iload_n C dX4_lettersOfWords_19 2 rfl ?_
      refine gw_bind h (fun q5 hq5 h => ?_)
      refine gw_whole (st2 := []) C (run_V (rest := []) C (c_X4_layWord l D cI cJ cO a x2.2.2 x2.2.1 hq5) w_X4_layWord 0 3 rfl rfl rfl rfl rfl (Nat.le_of_ble_eq_true rfl) dX4_lettersOfWords_20 ⟨Nat.zero_le _, Nat.zero_le _⟩) rfl ?_
      refine gw_iload_n C dX4_lettersOfWords_23 1 rfl ?_
      refine gw_aload_n C dX4_lettersOfWords_24 0 rfl ?_
      refine gw_get C dX4_lettersOfWords_25 0 3 11 rfl rfl iX4 (by decide) f160 rfl ?_
      refine gw_iadd C dX4_lettersOfWords_28 ?_
      refine gw_lt h (fun v6 ev6 h => ?_)
      rw [ev6]
      refine gw_istore_n C dX4_lettersOfWords_29 [(1, .int v6), (0, .ref (a 0)), (2, .int x2.2.1)] rfl (by decide) rfl ?_
      refine gw_iinc (v := (x2.2.1 + (1 : Int32))) C dX4_lettersOfWords_30 [(2, .int (x2.2.1 + (1 : Int32))), (1, .int v6), (0, .ref (a 0))] 2 rfl rfl (by decide) rfl ?_
      refine gw_goto (tgt := 8) C dX4_lettersOfWords_33 (by decide) ?_
      refine gw_sub [2, 1, 0] rfl ?_
      have h := gw_some h
      exact I2 _ h
theorem hd_X4_counted : yX4_counted.cls = RX4 ∧ yX4_counted.cls ≠ "java/lang/invoke/MethodHandle" ∧ yX4_counted.cls ≠ "java/lang/invoke/VarHandle" ∧ (parseMethodDescriptor yX4_counted.desc).map (fun d => d.parameters.length) = some 1 := by decide +kernel
set_option maxHeartbeats 4000000 in
set_option maxRecDepth 100000 in
theorem c_X4_counted (l : Launch) (D : va_G) (cI cJ cO : ClassId) (a : Nat → Nat) (t : MS) (p1 : Int32) {o : Int32 × MS} (h : fM_counted p1 t = some o) : Ct l D (tysA cI cJ cO) yX4_counted wsX4_counted (rmOf 4 93) [.ref (a 0), .int p1] (wM cI a t) (some (.int o.1)) (wM cI a o.2) := by
  refine Ct_of (own := RX4) cX4_counted 2 (some .int) (by decide +kernel) rfl rfl (Nat.le_of_ble_eq_true rfl) ?_
  intro p e s m args below meth c A C hnm
  have iX4 : ∀ w ∈ u_ws RX4 TX4 16, w ∈ wsX4_counted := fun w h => List.mem_cons_of_mem _ (List.mem_append_right _ h)
  have f7 : Cond.fieldLink RX4 7 (TX4 1).1 (TX4 1).2.1 (TX4 1).2.2.1 ∈ wsX4_counted := List.mem_of_getElem? (i := 1) rfl
  have f48 : Cond.fieldLink RX4 48 (TX4 3).1 (TX4 3).2.1 (TX4 3).2.2.1 ∈ wsX4_counted := List.mem_of_getElem? (i := 3) rfl
  have f133 : Cond.fieldLink RX4 133 (TX4 6).1 (TX4 6).2.1 (TX4 6).2.2.1 ∈ wsX4_counted := List.mem_of_getElem? (i := 2) rfl
  have w_X4_cellsOf := cwV (R := (rmOf 4 93)) (rm := rmOf 0 0) (s := s) (args := args) 1 C.1.2.2.2.2 gX4_counted_X4_cellsOf rfl rfl rfl hd_X4_cellsOf ⟨Nat.le_of_ble_eq_true rfl, Nat.le_of_ble_eq_true rfl⟩
  have w_X4_ends := cwV (R := (rmOf 4 93)) (rm := rmOf 1 21) (s := s) (args := args) 0 C.1.2.2.2.2 gX4_counted_X4_ends rfl rfl rfl hd_X4_ends ⟨Nat.le_of_ble_eq_true rfl, Nat.le_of_ble_eq_true rfl⟩
  have w_X4_greatest := cwV (R := (rmOf 4 93)) (rm := rmOf 1 21) (s := s) (args := args) 0 C.1.2.2.2.2 gX4_counted_X4_greatest rfl rfl rfl hd_X4_greatest ⟨Nat.le_of_ble_eq_true rfl, Nat.le_of_ble_eq_true rfl⟩
  have w_X4_lettersOfEnds := cwV (R := (rmOf 4 93)) (rm := rmOf 1 21) (s := s) (args := args) 0 C.1.2.2.2.2 gX4_counted_X4_lettersOfEnds rfl rfl rfl hd_X4_lettersOfEnds ⟨Nat.le_of_ble_eq_true rfl, Nat.le_of_ble_eq_true rfl⟩
  have w_X4_lettersOfWords := cwV (R := (rmOf 4 93)) (rm := rmOf 3 71) (s := s) (args := args) 0 C.1.2.2.2.2 gX4_counted_X4_lettersOfWords rfl rfl rfl hd_X4_lettersOfWords ⟨Nat.le_of_ble_eq_true rfl, Nat.le_of_ble_eq_true rfl⟩
  have w_X4_used := cwV (R := (rmOf 4 93)) (rm := rmOf 1 21) (s := s) (args := args) 0 C.1.2.2.2.2 gX4_counted_X4_used rfl rfl rfl hd_X4_used ⟨Nat.le_of_ble_eq_true rfl, Nat.le_of_ble_eq_true rfl⟩
  have h := gw_top h
  unfold fM_counted at h
  show gw_G p l e (rmOf 4 93) s m args below meth c D A (CtM D below (some (.int o.1)) (wM cI a o.2) A args s) 2 0 0 (wM cI a t) [(0, .ref (a 0)), (1, .int p1)] 0 []
  refine gw_iload_n C dX4_counted_0 1 rfl ?_
  refine gw_if h (fun c1 h => ?_) (fun c1 h => ?_)
  · refine gw_tabIn (k := (0 : Int32)) (off := 51) (tgt := 52) C dX4_counted_1 c1 (by decide) (by decide) rfl (by decide) ?_
    refine gw_aload_n C dX4_counted_52 0 rfl ?_
    refine gw_iconst (v := (2 : Int32)) C dX4_counted_53 rfl ?_
    refine gw_bind h (fun q2 hq2 h => ?_)
    refine gw_whole (st2 := [.int q2]) C (run_V (rest := []) C (c_X4_cellsOf l D cI cJ cO a t (2 : Int32) hq2) w_X4_cellsOf 0 3 rfl rfl rfl rfl rfl (Nat.le_of_ble_eq_true rfl) dX4_counted_54 ⟨Nat.zero_le _, Nat.zero_le _⟩) rfl ?_
    have h := gw_some h
    have ho := Option.some.inj h
    subst ho
    exact gw_iret C dX4_counted_57
  refine gw_if h (fun c3 h => ?_) (fun c3 h => ?_)
  · refine gw_tabIn (k := (1 : Int32)) (off := 57) (tgt := 58) C dX4_counted_1 c3 (by decide) (by decide) rfl (by decide) ?_
    refine gw_aload_n C dX4_counted_58 0 rfl ?_
    refine gw_bind h (fun q4 hq4 h => ?_)
    refine gw_whole (st2 := [.int q4]) C (run_V (rest := []) C (c_X4_used l D cI cJ cO a t hq4) w_X4_used 0 3 rfl rfl rfl rfl rfl (Nat.le_of_ble_eq_true rfl) dX4_counted_59 ⟨Nat.zero_le _, Nat.zero_le _⟩) rfl ?_
    have h := gw_some h
    have ho := Option.some.inj h
    subst ho
    exact gw_iret C dX4_counted_62
  refine gw_if h (fun c5 h => ?_) (fun c5 h => ?_)
  · refine gw_tabIn (k := (2 : Int32)) (off := 62) (tgt := 63) C dX4_counted_1 c5 (by decide) (by decide) rfl (by decide) ?_
    refine gw_aload_n C dX4_counted_63 0 rfl ?_
    refine gw_iconst (v := (1 : Int32)) C dX4_counted_64 rfl ?_
    refine gw_bind h (fun q6 hq6 h => ?_)
    refine gw_whole (st2 := [.int q6]) C (run_V (rest := []) C (c_X4_cellsOf l D cI cJ cO a t (1 : Int32) hq6) w_X4_cellsOf 0 3 rfl rfl rfl rfl rfl (Nat.le_of_ble_eq_true rfl) dX4_counted_65 ⟨Nat.zero_le _, Nat.zero_le _⟩) rfl ?_
    have h := gw_some h
    have ho := Option.some.inj h
    subst ho
    exact gw_iret C dX4_counted_68
  refine gw_if h (fun c7 h => ?_) (fun c7 h => ?_)
  · refine gw_tabIn (k := (3 : Int32)) (off := 68) (tgt := 69) C dX4_counted_1 c7 (by decide) (by decide) rfl (by decide) ?_
    refine gw_aload_n C dX4_counted_69 0 rfl ?_
    refine gw_bind h (fun q8 hq8 h => ?_)
    refine gw_whole (st2 := [.int q8]) C (run_V (rest := []) C (c_X4_ends l D cI cJ cO a t hq8) w_X4_ends 0 3 rfl rfl rfl rfl rfl (Nat.le_of_ble_eq_true rfl) dX4_counted_70 ⟨Nat.zero_le _, Nat.zero_le _⟩) rfl ?_
    have h := gw_some h
    have ho := Option.some.inj h
    subst ho
    exact gw_iret C dX4_counted_73
  refine gw_if h (fun c9 h => ?_) (fun c9 h => ?_)
  · refine gw_tabIn (k := (4 : Int32)) (off := 73) (tgt := 74) C dX4_counted_1 c9 (by decide) (by decide) rfl (by decide) ?_
    refine gw_aload_n C dX4_counted_74 0 rfl ?_
    refine gw_bind h (fun q10 hq10 h => ?_)
    refine gw_whole (st2 := [.int q10]) C (run_V (rest := []) C (c_X4_lettersOfEnds l D cI cJ cO a t hq10) w_X4_lettersOfEnds 0 3 rfl rfl rfl rfl rfl (Nat.le_of_ble_eq_true rfl) dX4_counted_75 ⟨Nat.zero_le _, Nat.zero_le _⟩) rfl ?_
    have h := gw_some h
    have ho := Option.some.inj h
    subst ho
    exact gw_iret C dX4_counted_78
  refine gw_if h (fun c11 h => ?_) (fun c11 h => ?_)
  · refine gw_tabIn (k := (5 : Int32)) (off := 78) (tgt := 79) C dX4_counted_1 c11 (by decide) (by decide) rfl (by decide) ?_
    refine gw_aload_n C dX4_counted_79 0 rfl ?_
    refine gw_get C dX4_counted_80 0 3 1 rfl rfl iX4 (by decide) f7 rfl ?_
    refine gw_sipush (v := (1360 : Int32)) C dX4_counted_83 rfl ?_
    refine gw_chk h (fun b12 h => ?_)
    refine gw_iald C dX4_counted_86 1 0 rfl rfl b12 ?_
    have h := gw_some h
    have ho := Option.some.inj h
    subst ho
    exact gw_iret C dX4_counted_87
  refine gw_if h (fun c13 h => ?_) (fun c13 h => ?_)
  · refine gw_tabIn (k := (6 : Int32)) (off := 87) (tgt := 88) C dX4_counted_1 c13 (by decide) (by decide) rfl (by decide) ?_
    refine gw_aload_n C dX4_counted_88 0 rfl ?_
    refine gw_bind h (fun q14 hq14 h => ?_)
    refine gw_whole (st2 := [.int q14]) C (run_V (rest := []) C (c_X4_greatest l D cI cJ cO a t hq14) w_X4_greatest 0 3 rfl rfl rfl rfl rfl (Nat.le_of_ble_eq_true rfl) dX4_counted_89 ⟨Nat.zero_le _, Nat.zero_le _⟩) rfl ?_
    have h := gw_some h
    have ho := Option.some.inj h
    subst ho
    exact gw_iret C dX4_counted_92
  refine gw_if h (fun c15 h => ?_) (fun c15 h => ?_)
  · refine gw_tabIn (k := (7 : Int32)) (off := 92) (tgt := 93) C dX4_counted_1 c15 (by decide) (by decide) rfl (by decide) ?_
    refine gw_aload_n C dX4_counted_93 0 rfl ?_
    refine gw_bind h (fun q16 hq16 h => ?_)
    refine gw_whole (st2 := [.int q16.1]) C (run_V (rest := []) C (c_X4_lettersOfWords l D cI cJ cO a t hq16) w_X4_lettersOfWords 0 3 rfl rfl rfl rfl rfl (Nat.le_of_ble_eq_true rfl) dX4_counted_94 ⟨Nat.zero_le _, Nat.zero_le _⟩) rfl ?_
    have h := gw_some h
    have ho := Option.some.inj h
    subst ho
    exact gw_iret C dX4_counted_97
  refine gw_if h (fun c17 h => ?_) (fun c17 h => ?_)
  · refine gw_tabIn (k := (8 : Int32)) (off := 97) (tgt := 98) C dX4_counted_1 c17 (by decide) (by decide) rfl (by decide) ?_
    refine gw_aload_n C dX4_counted_98 0 rfl ?_
    refine gw_get C dX4_counted_99 0 3 6 rfl rfl iX4 (by decide) f133 rfl ?_
    have h := gw_some h
    have ho := Option.some.inj h
    subst ho
    exact gw_iret C dX4_counted_102
  refine gw_tabOut (tgt := 103) C dX4_counted_1 (gw_out9 (lo := 0) c1 c3 c5 c7 c9 c11 c13 c15 c17) (by decide) ?_
  refine gw_aload_n C dX4_counted_103 0 rfl ?_
  refine gw_get C dX4_counted_104 0 3 3 rfl rfl iX4 (by decide) f48 rfl ?_
  have h := gw_some h
  have ho := Option.some.inj h
  subst ho
  exact gw_iret C dX4_counted_107
theorem hd_X4_count : yX4_count.cls = RX4 ∧ yX4_count.cls ≠ "java/lang/invoke/MethodHandle" ∧ yX4_count.cls ≠ "java/lang/invoke/VarHandle" ∧ (parseMethodDescriptor yX4_count.desc).map (fun d => d.parameters.length) = some 1 := by decide +kernel
set_option maxHeartbeats 4000000 in
set_option maxRecDepth 100000 in
theorem c_X4_count (l : Launch) (D : va_G) (cI cJ cO : ClassId) (a : Nat → Nat) (t : MS) (p1 : Int32) {o : Int32 × MS} (h : fM_count p1 t = some o) : Ct l D (tysA cI cJ cO) yX4_count wsX4_count (rmOf 5 114) [.ref (a 0), .int p1] (wM cI a t) (some (.int o.1)) (wM cI a o.2) := by
  refine Ct_of (own := RX4) cX4_count 2 (some .int) (by decide +kernel) rfl rfl (Nat.le_of_ble_eq_true rfl) ?_
  intro p e s m args below meth c A C hnm
  have iX4 : ∀ w ∈ u_ws RX4 TX4 16, w ∈ wsX4_count := fun w h => List.mem_cons_of_mem _ (List.mem_append_right _ h)
  have f40 : Cond.fieldLink RX4 40 (TX4 0).1 (TX4 0).2.1 (TX4 0).2.2.1 ∈ wsX4_count := List.mem_of_getElem? (i := 1) rfl
  have w_X4_counted := cwV (R := (rmOf 5 114)) (rm := rmOf 4 93) (s := s) (args := args) 1 C.1.2.2.2.2 gX4_count_X4_counted rfl rfl rfl hd_X4_counted ⟨Nat.le_of_ble_eq_true rfl, Nat.le_of_ble_eq_true rfl⟩
  have w_X4_in := va_cwS (R := (rmOf 5 114)) (rm := rmOf 0 0) (s := s) (args := args) 3 C.1.2.2.2.2 gX4_count_X4_in rfl rfl rfl hd_X4_in.2 ⟨Nat.le_of_ble_eq_true rfl, Nat.le_of_ble_eq_true rfl⟩
  have h := gw_top h
  unfold fM_count at h
  show gw_G p l e (rmOf 5 114) s m args below meth c D A (CtM D below (some (.int o.1)) (wM cI a o.2) A args s) 2 0 0 (wM cI a t) [(0, .ref (a 0)), (1, .int p1)] 0 []
  refine gw_aload_n C dX4_count_0 0 rfl ?_
  refine gw_iload_n C dX4_count_1 1 rfl ?_
  refine gw_iconst (v := (0 : Int32)) C dX4_count_2 rfl ?_
  refine gw_bipush (v := (9 : Int32)) C dX4_count_3 rfl ?_
  refine gw_none (st2 := [.int (fM_in p1 (0 : Int32) (9 : Int32)), .ref (a 0)]) C (run_S (rest := [.ref (a 0)]) C (c_X4_in l D cI cJ cO p1 (0 : Int32) (9 : Int32) rfl) w_X4_in rfl rfl (Nat.le_of_ble_eq_true rfl) dX4_count_5 ⟨Nat.zero_le _, Nat.zero_le _⟩) rfl ?_
  refine gw_lt h (fun j1 ej1 h => ?_)
  have J1 : ∀ v1 : Int32, Rs some o (j1 v1) → gw_G p l e (rmOf 5 114) s m args below meth c D A (CtM D below (some (.int o.1)) (wM cI a o.2) A args s) 2 0 0 (wM cI a t) [(0, .ref (a 0)), (1, .int p1)] 16 [.int v1, .ref (a 0)] := by
    intro v1 h
    have h := gw_app ej1 h
    refine gw_lt h (fun t3 et3 h => ?_)
    refine gw_put (ws' := wM cI a t3) (ty := .int) C dX4_count_16 0 3 0 tyX4 tyX4_ok nmX4 rfl rfl iX4 (by decide) f40 rfl (tyX4_ok 0 (by decide)) rfl rfl (Nat.le_of_ble_eq_true rfl) (by subst et3; rfl) ?_
    refine gw_aload_n C dX4_count_19 0 rfl ?_
    refine gw_get C dX4_count_20 0 3 0 rfl rfl iX4 (by decide) f40 rfl ?_
    refine gw_if_le (tgt := 30) C dX4_count_23 (by decide) h (fun c4 h => ?_) (fun c4 h => ?_)
    · refine gw_aload_n C dX4_count_30 0 rfl ?_
      refine gw_iload_n C dX4_count_31 1 rfl ?_
      refine gw_bind h (fun q5 hq5 h => ?_)
      refine gw_whole (st2 := [.int q5.1]) C (run_V (rest := []) C (c_X4_counted l D cI cJ cO a t3 p1 hq5) w_X4_counted 0 3 rfl rfl rfl rfl rfl (Nat.le_of_ble_eq_true rfl) dX4_count_32 ⟨Nat.zero_le _, Nat.zero_le _⟩) rfl ?_
      have h := gw_some h
      have ho := Option.some.inj h
      subst ho
      exact gw_iret C dX4_count_35
    · refine gw_iconst (v := (0 : Int32)) C dX4_count_26 rfl ?_
      refine gw_goto (tgt := 35) C dX4_count_27 (by decide) ?_
      have h := gw_some h
      have ho := Option.some.inj h
      subst ho
      exact gw_iret C dX4_count_35
  refine gw_if_eq (tgt := 15) C dX4_count_8 (by decide) h (fun c2 h => ?_) (fun c2 h => ?_)
  · refine gw_iconst (v := (1 : Int32)) C dX4_count_15 rfl ?_
    exact J1 _ h
  · refine gw_iconst (v := (0 : Int32)) C dX4_count_11 rfl ?_
    refine gw_goto (tgt := 16) C dX4_count_12 (by decide) ?_
    exact J1 _ h
theorem hd_X4_find : yX4_find.cls = RX4 ∧ yX4_find.cls ≠ "java/lang/invoke/MethodHandle" ∧ yX4_find.cls ≠ "java/lang/invoke/VarHandle" ∧ (parseMethodDescriptor yX4_find.desc).map (fun d => d.parameters.length) = some 0 := by decide +kernel
set_option maxHeartbeats 4000000 in
set_option maxRecDepth 100000 in
theorem c_X4_find (l : Launch) (D : va_G) (cI cJ cO : ClassId) (a : Nat → Nat) (t : MS)  {o : Int32 × MS} (h : fM_find t = some o) : Ct l D (tysA cI cJ cO) yX4_find wsX4_find (rmOf 3 72) [.ref (a 0)] (wM cI a t) (some (.int o.1)) (wM cI a o.2) := by
  refine Ct_of (own := RX4) cX4_find 1 (some .int) (by decide +kernel) rfl rfl (Nat.le_of_ble_eq_true rfl) ?_
  intro p e s m args below meth c A C hnm
  have iX4 : ∀ w ∈ u_ws RX4 TX4 16, w ∈ wsX4_find := fun w h => List.mem_cons_of_mem _ (List.mem_append_right _ h)
  have f19 : Cond.fieldLink RX4 19 (TX4 5).1 (TX4 5).2.1 (TX4 5).2.2.1 ∈ wsX4_find := List.mem_of_getElem? (i := 2) rfl
  have f40 : Cond.fieldLink RX4 40 (TX4 0).1 (TX4 0).2.1 (TX4 0).2.2.1 ∈ wsX4_find := List.mem_of_getElem? (i := 1) rfl
  have f133 : Cond.fieldLink RX4 133 (TX4 6).1 (TX4 6).2.1 (TX4 6).2.2.1 ∈ wsX4_find := List.mem_of_getElem? (i := 3) rfl
  have w_X4_leafOf := cwV (R := (rmOf 3 72)) (rm := rmOf 2 48) (s := s) (args := args) 2 C.1.2.2.2.2 gX4_find_X4_leafOf rfl rfl rfl hd_X4_leafOf ⟨Nat.le_of_ble_eq_true rfl, Nat.le_of_ble_eq_true rfl⟩
  have h := gw_top h
  unfold fM_find at h
  show gw_G p l e (rmOf 3 72) s m args below meth c D A (CtM D below (some (.int o.1)) (wM cI a o.2) A args s) 1 0 0 (wM cI a t) [(0, .ref (a 0))] 0 []
  refine gw_aload_n C dX4_find_0 0 rfl ?_
  refine gw_iconst (v := (0 : Int32)) C dX4_find_1 rfl ?_
  refine gw_lt h (fun t1 et1 h => ?_)
  refine gw_put (ws' := wM cI a t1) (ty := .int) C dX4_find_2 0 3 0 tyX4 tyX4_ok nmX4 rfl rfl iX4 (by decide) f40 rfl (tyX4_ok 0 (by decide)) rfl rfl (Nat.le_of_ble_eq_true rfl) (by subst et1; rfl) ?_
  refine gw_aload_n C dX4_find_5 0 rfl ?_
  refine gw_aload_n C dX4_find_6 0 rfl ?_
  refine gw_get C dX4_find_7 0 3 5 rfl rfl iX4 (by decide) f19 rfl ?_
  refine gw_aload_n C dX4_find_10 0 rfl ?_
  refine gw_get C dX4_find_11 0 3 6 rfl rfl iX4 (by decide) f133 rfl ?_
  refine gw_bind h (fun q2 hq2 h => ?_)
  refine gw_whole (st2 := [.int q2]) C (run_V (rest := []) C (c_X4_leafOf_4 l D cI cJ cO a t1 (mTy t1) hq2) w_X4_leafOf 0 3 rfl rfl rfl rfl rfl (Nat.le_of_ble_eq_true rfl) dX4_find_14 ⟨Nat.zero_le _, Nat.zero_le _⟩) rfl ?_
  have h := gw_some h
  have ho := Option.some.inj h
  subst ho
  exact gw_iret C dX4_find_17
theorem hd_X4_longestOne : yX4_longestOne.cls = RX4 ∧ yX4_longestOne.cls ≠ "java/lang/invoke/MethodHandle" ∧ yX4_longestOne.cls ≠ "java/lang/invoke/VarHandle" ∧ (parseMethodDescriptor yX4_longestOne.desc).map (fun d => d.parameters.length) = some 0 := by decide +kernel
set_option maxHeartbeats 4000000 in
set_option maxRecDepth 100000 in
theorem c_X4_longestOne (l : Launch) (D : va_G) (cI cJ cO : ClassId) (a : Nat → Nat) (t : MS)  {o : Int32 × MS} (h : fM_longestOne t = some o) : Ct l D (tysA cI cJ cO) yX4_longestOne wsX4_longestOne (rmOf 3 71) [.ref (a 0)] (wM cI a t) (some (.int o.1)) (wM cI a o.2) := by
  refine Ct_of (own := RX4) cX4_longestOne 3 (some .int) (by decide +kernel) rfl rfl (Nat.le_of_ble_eq_true rfl) ?_
  intro p e s m args below meth c A C hnm
  have iX4 : ∀ w ∈ u_ws RX4 TX4 16, w ∈ wsX4_longestOne := fun w h => List.mem_cons_of_mem _ (List.mem_append_right _ h)
  have f25 : Cond.fieldLink RX4 25 (TX4 9).1 (TX4 9).2.1 (TX4 9).2.2.1 ∈ wsX4_longestOne := List.mem_of_getElem? (i := 1) rfl
  have f160 : Cond.fieldLink RX4 160 (TX4 11).1 (TX4 11).2.1 (TX4 11).2.2.1 ∈ wsX4_longestOne := List.mem_of_getElem? (i := 2) rfl
  have w_X4_alike := cwV (R := (rmOf 3 71)) (rm := rmOf 0 0) (s := s) (args := args) 0 C.1.2.2.2.2 gX4_longestOne_X4_alike rfl rfl rfl hd_X4_alike ⟨Nat.le_of_ble_eq_true rfl, Nat.le_of_ble_eq_true rfl⟩
  have w_X4_layBelow := cwV (R := (rmOf 3 71)) (rm := rmOf 1 21) (s := s) (args := args) 0 C.1.2.2.2.2 gX4_longestOne_X4_layBelow rfl rfl rfl hd_X4_layBelow ⟨Nat.le_of_ble_eq_true rfl, Nat.le_of_ble_eq_true rfl⟩
  have w_X4_layWord := cwV (R := (rmOf 3 71)) (rm := rmOf 2 45) (s := s) (args := args) 1 C.1.2.2.2.2 gX4_longestOne_X4_layWord rfl rfl rfl hd_X4_layWord ⟨Nat.le_of_ble_eq_true rfl, Nat.le_of_ble_eq_true rfl⟩
  have h := gw_top h
  unfold fM_longestOne at h
  show gw_G p l e (rmOf 3 71) s m args below meth c D A (CtM D below (some (.int o.1)) (wM cI a o.2) A args s) 3 0 0 (wM cI a t) [(0, .ref (a 0))] 0 []
  refine gw_aload_n C dX4_longestOne_0 0 rfl ?_
  refine gw_bind h (fun q1 hq1 h => ?_)
  refine gw_whole (st2 := []) C (run_V (rest := []) C (c_X4_layBelow l D cI cJ cO a t hq1) w_X4_layBelow 0 3 rfl rfl rfl rfl rfl (Nat.le_of_ble_eq_true rfl) dX4_longestOne_1 ⟨Nat.zero_le _, Nat.zero_le _⟩) rfl ?_
  refine gw_iconst (v := (-1 : Int32)) C dX4_longestOne_4 rfl ?_
  refine gw_istore_n C dX4_longestOne_5 [(1, .int (-1 : Int32)), (0, .ref (a 0))] rfl (by decide) rfl ?_
  refine gw_iconst (v := (0 : Int32)) C dX4_longestOne_6 rfl ?_
  refine gw_istore_n C dX4_longestOne_7 [(2, .int (0 : Int32)), (1, .int (-1 : Int32)), (0, .ref (a 0))] rfl (by decide) rfl ?_
  refine gw_sub [2, 1, 0] rfl ?_
  refine gw_lpb (x0 := ((-1 : Int32), (0 : Int32), q1)) (Go := fun x2 : Int32 × Int32 × MS => gw_G p l e (rmOf 3 71) s m args below meth c D A (CtM D below (some (.int o.1)) (wM cI a o.2) A args s) 3 0 0 (wM cI a x2.2.2) [(0, .ref (a 0)), (1, .int x2.1), (2, .int x2.2.1)] 8 []) (GoX := fun v2 : Int32 × MS => gw_G p l e (rmOf 3 71) s m args below meth c D A (CtM D below (some (.int o.1)) (wM cI a o.2) A args s) 3 0 0 (wM cI a v2.2) [(1, .int v2.1)] 57 []) h (fun v2 h => ?_) (fun x2 K2 X2 I2 h => ?_)
  · refine gw_iload_n C dX4_longestOne_57 0 rfl ?_
    have h := gw_some h
    have ho := Option.some.inj h
    subst ho
    exact gw_iret C dX4_longestOne_58
  · refine gw_iload_n C dX4_longestOne_8 2 rfl ?_
    refine gw_aload_n C dX4_longestOne_9 0 rfl ?_
    refine gw_get C dX4_longestOne_10 0 3 9 rfl rfl iX4 (by decide) f25 rfl ?_
    refine gw_iconst (v := (0 : Int32)) C dX4_longestOne_13 rfl ?_
    refine gw_chk h (fun b3 h => ?_)
    refine gw_iald C dX4_longestOne_14 6 0 rfl rfl b3 ?_
    refine gw_icmp_ge (tgt := 57) C dX4_longestOne_15 (by decide) h (fun c4 h => ?_) (fun c4 h => ?_)
    · refine gw_sub [1] rfl ?_
      have h := gw_some h
      exact X2 _ h
    · refine gw_aload_n C dX4_longestOne_18 0 rfl ?_
      refine gw_iload_n C dX4_longestOne_19 2 rfl ?_
      refine gw_bind h (fun q5 hq5 h => ?_)
      refine gw_whole (st2 := []) C (run_V (rest := []) C (c_X4_layWord l D cI cJ cO a x2.2.2 x2.2.1 hq5) w_X4_layWord 0 3 rfl rfl rfl rfl rfl (Nat.le_of_ble_eq_true rfl) dX4_longestOne_20 ⟨Nat.zero_le _, Nat.zero_le _⟩) rfl ?_
      refine gw_aload_n C dX4_longestOne_23 0 rfl ?_
      refine gw_bind h (fun q6 hq6 h => ?_)
      refine gw_whole (st2 := [.int q6]) C (run_V (rest := []) C (c_X4_alike l D cI cJ cO a q5 hq6) w_X4_alike 0 3 rfl rfl rfl rfl rfl (Nat.le_of_ble_eq_true rfl) dX4_longestOne_24 ⟨Nat.zero_le _, Nat.zero_le _⟩) rfl ?_
      refine gw_aload_n C dX4_longestOne_27 0 rfl ?_
      refine gw_get C dX4_longestOne_28 0 3 11 rfl rfl iX4 (by decide) f160 rfl ?_
      refine gw_lt h (fun j8 ej8 h => ?_)
      have J8 : ∀ v8 : Int32, Rs K2 o (j8 v8) → gw_G p l e (rmOf 3 71) s m args below meth c D A (CtM D below (some (.int o.1)) (wM cI a o.2) A args s) 3 0 0 (wM cI a q5) [(0, .ref (a 0)), (2, .int x2.2.1)] 50 [.int v8] := by
        intro v8 h
        have h := gw_app ej8 h
        refine gw_istore_n C dX4_longestOne_50 [(1, .int v8), (0, .ref (a 0)), (2, .int x2.2.1)] rfl (by decide) rfl ?_
        refine gw_iinc (v := (x2.2.1 + (1 : Int32))) C dX4_longestOne_51 [(2, .int (x2.2.1 + (1 : Int32))), (1, .int v8), (0, .ref (a 0))] 2 rfl rfl (by decide) rfl ?_
        refine gw_goto (tgt := 8) C dX4_longestOne_54 (by decide) ?_
        refine gw_sub [2, 1, 0] rfl ?_
        have h := gw_some h
        exact I2 _ h
      refine gw_lt h (fun j7 ej7 h => ?_)
      have J7 : ∀ v7 : Unit, Rs K2 o (j7 v7) → gw_G p l e (rmOf 3 71) s m args below meth c D A (CtM D below (some (.int o.1)) (wM cI a o.2) A args s) 3 0 0 (wM cI a q5) [(0, .ref (a 0)), (1, .int x2.1), (2, .int x2.2.1)] 49 [] := by
        intro v7 h
        have h := gw_app ej7 h
        refine gw_iload_n C dX4_longestOne_49 1 rfl ?_
        refine gw_sub [0, 2] rfl ?_
        exact J8 _ h
      refine gw_icmp_ne (tgt := 49) C dX4_longestOne_31 (by decide) h (fun c9 h => ?_) (fun c9 h => ?_)
      · refine gw_aload_n C dX4_longestOne_34 0 rfl ?_
        refine gw_get C dX4_longestOne_35 0 3 11 rfl rfl iX4 (by decide) f160 rfl ?_
        refine gw_iload_n C dX4_longestOne_38 1 rfl ?_
        refine gw_icmp_le (tgt := 49) C dX4_longestOne_39 (by decide) h (fun c10 h => ?_) (fun c10 h => ?_)
        · exact J7 _ h
        · refine gw_aload_n C dX4_longestOne_42 0 rfl ?_
          refine gw_get C dX4_longestOne_43 0 3 11 rfl rfl iX4 (by decide) f160 rfl ?_
          refine gw_goto (tgt := 50) C dX4_longestOne_46 (by decide) ?_
          refine gw_sub [0, 2] rfl ?_
          exact J8 _ h
      · exact J7 _ h
theorem hd_X4_longest : yX4_longest.cls = RX4 ∧ yX4_longest.cls ≠ "java/lang/invoke/MethodHandle" ∧ yX4_longest.cls ≠ "java/lang/invoke/VarHandle" ∧ (parseMethodDescriptor yX4_longest.desc).map (fun d => d.parameters.length) = some 0 := by decide +kernel
set_option maxHeartbeats 4000000 in
set_option maxRecDepth 100000 in
theorem c_X4_longest (l : Launch) (D : va_G) (cI cJ cO : ClassId) (a : Nat → Nat) (t : MS)  {o : Int32 × MS} (h : fM_longest t = some o) : Ct l D (tysA cI cJ cO) yX4_longest wsX4_longest (rmOf 4 93) [.ref (a 0)] (wM cI a t) (some (.int o.1)) (wM cI a o.2) := by
  refine Ct_of (own := RX4) cX4_longest 1 (some .int) (by decide +kernel) rfl rfl (Nat.le_of_ble_eq_true rfl) ?_
  intro p e s m args below meth c A C hnm
  have iX4 : ∀ w ∈ u_ws RX4 TX4 16, w ∈ wsX4_longest := fun w h => List.mem_cons_of_mem _ (List.mem_append_right _ h)
  have f40 : Cond.fieldLink RX4 40 (TX4 0).1 (TX4 0).2.1 (TX4 0).2.2.1 ∈ wsX4_longest := List.mem_of_getElem? (i := 1) rfl
  have w_X4_longestOne := cwV (R := (rmOf 4 93)) (rm := rmOf 3 71) (s := s) (args := args) 0 C.1.2.2.2.2 gX4_longest_X4_longestOne rfl rfl rfl hd_X4_longestOne ⟨Nat.le_of_ble_eq_true rfl, Nat.le_of_ble_eq_true rfl⟩
  have h := gw_top h
  unfold fM_longest at h
  show gw_G p l e (rmOf 4 93) s m args below meth c D A (CtM D below (some (.int o.1)) (wM cI a o.2) A args s) 1 0 0 (wM cI a t) [(0, .ref (a 0))] 0 []
  refine gw_aload_n C dX4_longest_0 0 rfl ?_
  refine gw_iconst (v := (0 : Int32)) C dX4_longest_1 rfl ?_
  refine gw_lt h (fun t1 et1 h => ?_)
  refine gw_put (ws' := wM cI a t1) (ty := .int) C dX4_longest_2 0 3 0 tyX4 tyX4_ok nmX4 rfl rfl iX4 (by decide) f40 rfl (tyX4_ok 0 (by decide)) rfl rfl (Nat.le_of_ble_eq_true rfl) (by subst et1; rfl) ?_
  refine gw_aload_n C dX4_longest_5 0 rfl ?_
  refine gw_bind h (fun q2 hq2 h => ?_)
  refine gw_whole (st2 := [.int q2.1]) C (run_V (rest := []) C (c_X4_longestOne l D cI cJ cO a t1 hq2) w_X4_longestOne 0 3 rfl rfl rfl rfl rfl (Nat.le_of_ble_eq_true rfl) dX4_longest_6 ⟨Nat.zero_le _, Nat.zero_le _⟩) rfl ?_
  have h := gw_some h
  have ho := Option.some.inj h
  subst ho
  exact gw_iret C dX4_longest_9
theorem hd_X4_beginningMany : yX4_beginningMany.cls = RX4 ∧ yX4_beginningMany.cls ≠ "java/lang/invoke/MethodHandle" ∧ yX4_beginningMany.cls ≠ "java/lang/invoke/VarHandle" ∧ (parseMethodDescriptor yX4_beginningMany.desc).map (fun d => d.parameters.length) = some 0 := by decide +kernel
set_option maxHeartbeats 4000000 in
set_option maxRecDepth 100000 in
theorem c_X4_beginningMany (l : Launch) (D : va_G) (cI cJ cO : ClassId) (a : Nat → Nat) (t : MS)  {o : Int32 × MS} (h : fM_beginningMany t = some o) : Ct l D (tysA cI cJ cO) yX4_beginningMany wsX4_beginningMany (rmOf 3 71) [.ref (a 0)] (wM cI a t) (some (.int o.1)) (wM cI a o.2) := by
  refine Ct_of (own := RX4) cX4_beginningMany 3 (some .int) (by decide +kernel) rfl rfl (Nat.le_of_ble_eq_true rfl) ?_
  intro p e s m args below meth c A C hnm
  have iX4 : ∀ w ∈ u_ws RX4 TX4 16, w ∈ wsX4_beginningMany := fun w h => List.mem_cons_of_mem _ (List.mem_append_right _ h)
  have f25 : Cond.fieldLink RX4 25 (TX4 9).1 (TX4 9).2.1 (TX4 9).2.2.1 ∈ wsX4_beginningMany := List.mem_of_getElem? (i := 1) rfl
  have f133 : Cond.fieldLink RX4 133 (TX4 6).1 (TX4 6).2.1 (TX4 6).2.2.1 ∈ wsX4_beginningMany := List.mem_of_getElem? (i := 2) rfl
  have w_X4_alike := cwV (R := (rmOf 3 71)) (rm := rmOf 0 0) (s := s) (args := args) 0 C.1.2.2.2.2 gX4_beginningMany_X4_alike rfl rfl rfl hd_X4_alike ⟨Nat.le_of_ble_eq_true rfl, Nat.le_of_ble_eq_true rfl⟩
  have w_X4_layBelow := cwV (R := (rmOf 3 71)) (rm := rmOf 1 21) (s := s) (args := args) 0 C.1.2.2.2.2 gX4_beginningMany_X4_layBelow rfl rfl rfl hd_X4_layBelow ⟨Nat.le_of_ble_eq_true rfl, Nat.le_of_ble_eq_true rfl⟩
  have w_X4_layWord := cwV (R := (rmOf 3 71)) (rm := rmOf 2 45) (s := s) (args := args) 1 C.1.2.2.2.2 gX4_beginningMany_X4_layWord rfl rfl rfl hd_X4_layWord ⟨Nat.le_of_ble_eq_true rfl, Nat.le_of_ble_eq_true rfl⟩
  have h := gw_top h
  unfold fM_beginningMany at h
  show gw_G p l e (rmOf 3 71) s m args below meth c D A (CtM D below (some (.int o.1)) (wM cI a o.2) A args s) 3 0 0 (wM cI a t) [(0, .ref (a 0))] 0 []
  refine gw_aload_n C dX4_beginningMany_0 0 rfl ?_
  refine gw_bind h (fun q1 hq1 h => ?_)
  refine gw_whole (st2 := []) C (run_V (rest := []) C (c_X4_layBelow l D cI cJ cO a t hq1) w_X4_layBelow 0 3 rfl rfl rfl rfl rfl (Nat.le_of_ble_eq_true rfl) dX4_beginningMany_1 ⟨Nat.zero_le _, Nat.zero_le _⟩) rfl ?_
  refine gw_iconst (v := (0 : Int32)) C dX4_beginningMany_4 rfl ?_
  refine gw_istore_n C dX4_beginningMany_5 [(1, .int (0 : Int32)), (0, .ref (a 0))] rfl (by decide) rfl ?_
  refine gw_iconst (v := (0 : Int32)) C dX4_beginningMany_6 rfl ?_
  refine gw_istore_n C dX4_beginningMany_7 [(2, .int (0 : Int32)), (1, .int (0 : Int32)), (0, .ref (a 0))] rfl (by decide) rfl ?_
  refine gw_sub [2, 1, 0] rfl ?_
  refine gw_lpb (x0 := ((0 : Int32), (0 : Int32), q1)) (Go := fun x2 : Int32 × Int32 × MS => gw_G p l e (rmOf 3 71) s m args below meth c D A (CtM D below (some (.int o.1)) (wM cI a o.2) A args s) 3 0 0 (wM cI a x2.2.2) [(0, .ref (a 0)), (1, .int x2.1), (2, .int x2.2.1)] 8 []) (GoX := fun v2 : Int32 × MS => gw_G p l e (rmOf 3 71) s m args below meth c D A (CtM D below (some (.int o.1)) (wM cI a o.2) A args s) 3 0 0 (wM cI a v2.2) [(1, .int v2.1)] 48 []) h (fun v2 h => ?_) (fun x2 K2 X2 I2 h => ?_)
  · refine gw_iload_n C dX4_beginningMany_48 0 rfl ?_
    have h := gw_some h
    have ho := Option.some.inj h
    subst ho
    exact gw_iret C dX4_beginningMany_49
  · refine gw_iload_n C dX4_beginningMany_8 2 rfl ?_
    refine gw_aload_n C dX4_beginningMany_9 0 rfl ?_
    refine gw_get C dX4_beginningMany_10 0 3 9 rfl rfl iX4 (by decide) f25 rfl ?_
    refine gw_iconst (v := (0 : Int32)) C dX4_beginningMany_13 rfl ?_
    refine gw_chk h (fun b3 h => ?_)
    refine gw_iald C dX4_beginningMany_14 6 0 rfl rfl b3 ?_
    refine gw_icmp_ge (tgt := 48) C dX4_beginningMany_15 (by decide) h (fun c4 h => ?_) (fun c4 h => ?_)
    · refine gw_sub [1] rfl ?_
      have h := gw_some h
      exact X2 _ h
    · refine gw_aload_n C dX4_beginningMany_18 0 rfl ?_
      refine gw_iload_n C dX4_beginningMany_19 2 rfl ?_
      refine gw_bind h (fun q5 hq5 h => ?_)
      refine gw_whole (st2 := []) C (run_V (rest := []) C (c_X4_layWord l D cI cJ cO a x2.2.2 x2.2.1 hq5) w_X4_layWord 0 3 rfl rfl rfl rfl rfl (Nat.le_of_ble_eq_true rfl) dX4_beginningMany_20 ⟨Nat.zero_le _, Nat.zero_le _⟩) rfl ?_
      refine gw_iload_n C dX4_beginningMany_23 1 rfl ?_
      refine gw_aload_n C dX4_beginningMany_24 0 rfl ?_
      refine gw_bind h (fun q6 hq6 h => ?_)
      refine gw_whole (st2 := [.int q6, .int x2.1]) C (run_V (rest := [.int x2.1]) C (c_X4_alike l D cI cJ cO a q5 hq6) w_X4_alike 0 3 rfl rfl rfl rfl rfl (Nat.le_of_ble_eq_true rfl) dX4_beginningMany_25 ⟨Nat.zero_le _, Nat.zero_le _⟩) rfl ?_
      refine gw_aload_n C dX4_beginningMany_28 0 rfl ?_
      refine gw_get C dX4_beginningMany_29 0 3 6 rfl rfl iX4 (by decide) f133 rfl ?_
      refine gw_lt h (fun j7 ej7 h => ?_)
      have J7 : ∀ v7 : Int32, Rs K2 o (j7 v7) → gw_G p l e (rmOf 3 71) s m args below meth c D A (CtM D below (some (.int o.1)) (wM cI a o.2) A args s) 3 0 0 (wM cI a q5) [(0, .ref (a 0)), (2, .int x2.2.1)] 40 [.int v7, .int x2.1] := by
        intro v7 h
        have h := gw_app ej7 h
        refine gw_iadd C dX4_beginningMany_40 ?_
        refine gw_lt h (fun v9 ev9 h => ?_)
        rw [ev9]
        refine gw_istore_n C dX4_beginningMany_41 [(1, .int v9), (0, .ref (a 0)), (2, .int x2.2.1)] rfl (by decide) rfl ?_
        refine gw_iinc (v := (x2.2.1 + (1 : Int32))) C dX4_beginningMany_42 [(2, .int (x2.2.1 + (1 : Int32))), (1, .int v9), (0, .ref (a 0))] 2 rfl rfl (by decide) rfl ?_
        refine gw_goto (tgt := 8) C dX4_beginningMany_45 (by decide) ?_
        refine gw_sub [2, 1, 0] rfl ?_
        have h := gw_some h
        exact I2 _ h
      refine gw_icmp_ne (tgt := 39) C dX4_beginningMany_32 (by decide) h (fun c8 h => ?_) (fun c8 h => ?_)
      · refine gw_iconst (v := (1 : Int32)) C dX4_beginningMany_35 rfl ?_
        refine gw_goto (tgt := 40) C dX4_beginningMany_36 (by decide) ?_
        refine gw_sub [0, 2] rfl ?_
        exact J7 _ h
      · refine gw_iconst (v := (0 : Int32)) C dX4_beginningMany_39 rfl ?_
        refine gw_sub [0, 2] rfl ?_
        exact J7 _ h
theorem hd_X4_beginning : yX4_beginning.cls = RX4 ∧ yX4_beginning.cls ≠ "java/lang/invoke/MethodHandle" ∧ yX4_beginning.cls ≠ "java/lang/invoke/VarHandle" ∧ (parseMethodDescriptor yX4_beginning.desc).map (fun d => d.parameters.length) = some 0 := by decide +kernel
set_option maxHeartbeats 4000000 in
set_option maxRecDepth 100000 in
theorem c_X4_beginning (l : Launch) (D : va_G) (cI cJ cO : ClassId) (a : Nat → Nat) (t : MS)  {o : Int32 × MS} (h : fM_beginning t = some o) : Ct l D (tysA cI cJ cO) yX4_beginning wsX4_beginning (rmOf 4 93) [.ref (a 0)] (wM cI a t) (some (.int o.1)) (wM cI a o.2) := by
  refine Ct_of (own := RX4) cX4_beginning 1 (some .int) (by decide +kernel) rfl rfl (Nat.le_of_ble_eq_true rfl) ?_
  intro p e s m args below meth c A C hnm
  have iX4 : ∀ w ∈ u_ws RX4 TX4 16, w ∈ wsX4_beginning := fun w h => List.mem_cons_of_mem _ (List.mem_append_right _ h)
  have f40 : Cond.fieldLink RX4 40 (TX4 0).1 (TX4 0).2.1 (TX4 0).2.2.1 ∈ wsX4_beginning := List.mem_of_getElem? (i := 1) rfl
  have w_X4_beginningMany := cwV (R := (rmOf 4 93)) (rm := rmOf 3 71) (s := s) (args := args) 0 C.1.2.2.2.2 gX4_beginning_X4_beginningMany rfl rfl rfl hd_X4_beginningMany ⟨Nat.le_of_ble_eq_true rfl, Nat.le_of_ble_eq_true rfl⟩
  have h := gw_top h
  unfold fM_beginning at h
  show gw_G p l e (rmOf 4 93) s m args below meth c D A (CtM D below (some (.int o.1)) (wM cI a o.2) A args s) 1 0 0 (wM cI a t) [(0, .ref (a 0))] 0 []
  refine gw_aload_n C dX4_beginning_0 0 rfl ?_
  refine gw_iconst (v := (0 : Int32)) C dX4_beginning_1 rfl ?_
  refine gw_lt h (fun t1 et1 h => ?_)
  refine gw_put (ws' := wM cI a t1) (ty := .int) C dX4_beginning_2 0 3 0 tyX4 tyX4_ok nmX4 rfl rfl iX4 (by decide) f40 rfl (tyX4_ok 0 (by decide)) rfl rfl (Nat.le_of_ble_eq_true rfl) (by subst et1; rfl) ?_
  refine gw_aload_n C dX4_beginning_5 0 rfl ?_
  refine gw_bind h (fun q2 hq2 h => ?_)
  refine gw_whole (st2 := [.int q2.1]) C (run_V (rest := []) C (c_X4_beginningMany l D cI cJ cO a t1 hq2) w_X4_beginningMany 0 3 rfl rfl rfl rfl rfl (Nat.le_of_ble_eq_true rfl) dX4_beginning_6 ⟨Nat.zero_le _, Nat.zero_le _⟩) rfl ?_
  have h := gw_some h
  have ho := Option.some.inj h
  subst ho
  exact gw_iret C dX4_beginning_9
theorem hd_X4_aheadMany : yX4_aheadMany.cls = RX4 ∧ yX4_aheadMany.cls ≠ "java/lang/invoke/MethodHandle" ∧ yX4_aheadMany.cls ≠ "java/lang/invoke/VarHandle" ∧ (parseMethodDescriptor yX4_aheadMany.desc).map (fun d => d.parameters.length) = some 0 := by decide +kernel
set_option maxHeartbeats 4000000 in
set_option maxRecDepth 100000 in
theorem c_X4_aheadMany (l : Launch) (D : va_G) (cI cJ cO : ClassId) (a : Nat → Nat) (t : MS)  {o : Int32 × MS} (h : fM_aheadMany t = some o) : Ct l D (tysA cI cJ cO) yX4_aheadMany wsX4_aheadMany (rmOf 3 71) [.ref (a 0)] (wM cI a t) (some (.int o.1)) (wM cI a o.2) := by
  refine Ct_of (own := RX4) cX4_aheadMany 5 (some .int) (by decide +kernel) rfl rfl (Nat.le_of_ble_eq_true rfl) ?_
  intro p e s m args below meth c A C hnm
  have iX4 : ∀ w ∈ u_ws RX4 TX4 16, w ∈ wsX4_aheadMany := fun w h => List.mem_cons_of_mem _ (List.mem_append_right _ h)
  have f19 : Cond.fieldLink RX4 19 (TX4 5).1 (TX4 5).2.1 (TX4 5).2.2.1 ∈ wsX4_aheadMany := List.mem_of_getElem? (i := 5) rfl
  have f25 : Cond.fieldLink RX4 25 (TX4 9).1 (TX4 9).2.1 (TX4 9).2.2.1 ∈ wsX4_aheadMany := List.mem_of_getElem? (i := 1) rfl
  have f28 : Cond.fieldLink RX4 28 (TX4 10).1 (TX4 10).2.1 (TX4 10).2.2.1 ∈ wsX4_aheadMany := List.mem_of_getElem? (i := 4) rfl
  have f133 : Cond.fieldLink RX4 133 (TX4 6).1 (TX4 6).2.1 (TX4 6).2.2.1 ∈ wsX4_aheadMany := List.mem_of_getElem? (i := 2) rfl
  have f160 : Cond.fieldLink RX4 160 (TX4 11).1 (TX4 11).2.1 (TX4 11).2.2.1 ∈ wsX4_aheadMany := List.mem_of_getElem? (i := 3) rfl
  have w_X4_alike := cwV (R := (rmOf 3 71)) (rm := rmOf 0 0) (s := s) (args := args) 0 C.1.2.2.2.2 gX4_aheadMany_X4_alike rfl rfl rfl hd_X4_alike ⟨Nat.le_of_ble_eq_true rfl, Nat.le_of_ble_eq_true rfl⟩
  have w_X4_layBelow := cwV (R := (rmOf 3 71)) (rm := rmOf 1 21) (s := s) (args := args) 0 C.1.2.2.2.2 gX4_aheadMany_X4_layBelow rfl rfl rfl hd_X4_layBelow ⟨Nat.le_of_ble_eq_true rfl, Nat.le_of_ble_eq_true rfl⟩
  have w_X4_layWord := cwV (R := (rmOf 3 71)) (rm := rmOf 2 45) (s := s) (args := args) 1 C.1.2.2.2.2 gX4_aheadMany_X4_layWord rfl rfl rfl hd_X4_layWord ⟨Nat.le_of_ble_eq_true rfl, Nat.le_of_ble_eq_true rfl⟩
  have h := gw_top h
  unfold fM_aheadMany at h
  show gw_G p l e (rmOf 3 71) s m args below meth c D A (CtM D below (some (.int o.1)) (wM cI a o.2) A args s) 5 0 0 (wM cI a t) [(0, .ref (a 0))] 0 []
  refine gw_aload_n C dX4_aheadMany_0 0 rfl ?_
  refine gw_bind h (fun q1 hq1 h => ?_)
  refine gw_whole (st2 := []) C (run_V (rest := []) C (c_X4_layBelow l D cI cJ cO a t hq1) w_X4_layBelow 0 3 rfl rfl rfl rfl rfl (Nat.le_of_ble_eq_true rfl) dX4_aheadMany_1 ⟨Nat.zero_le _, Nat.zero_le _⟩) rfl ?_
  refine gw_iconst (v := (0 : Int32)) C dX4_aheadMany_4 rfl ?_
  refine gw_istore_n C dX4_aheadMany_5 [(1, .int (0 : Int32)), (0, .ref (a 0))] rfl (by decide) rfl ?_
  refine gw_iconst (v := (0 : Int32)) C dX4_aheadMany_6 rfl ?_
  refine gw_istore_n C dX4_aheadMany_7 [(2, .int (0 : Int32)), (1, .int (0 : Int32)), (0, .ref (a 0))] rfl (by decide) rfl ?_
  refine gw_sub [2, 1, 0] rfl ?_
  refine gw_lpb (x0 := ((0 : Int32), (0 : Int32), q1)) (Go := fun x2 : Int32 × Int32 × MS => gw_G p l e (rmOf 3 71) s m args below meth c D A (CtM D below (some (.int o.1)) (wM cI a o.2) A args s) 5 0 0 (wM cI a x2.2.2) [(0, .ref (a 0)), (1, .int x2.1), (2, .int x2.2.1)] 8 []) (GoX := fun v2 : Int32 × MS => gw_G p l e (rmOf 3 71) s m args below meth c D A (CtM D below (some (.int o.1)) (wM cI a o.2) A args s) 5 0 0 (wM cI a v2.2) [(1, .int v2.1)] 85 []) h (fun v2 h => ?_) (fun x2 K2 X2 I2 h => ?_)
  · refine gw_iload_n C dX4_aheadMany_85 0 rfl ?_
    have h := gw_some h
    have ho := Option.some.inj h
    subst ho
    exact gw_iret C dX4_aheadMany_86
  · refine gw_iload_n C dX4_aheadMany_8 2 rfl ?_
    refine gw_aload_n C dX4_aheadMany_9 0 rfl ?_
    refine gw_get C dX4_aheadMany_10 0 3 9 rfl rfl iX4 (by decide) f25 rfl ?_
    refine gw_iconst (v := (0 : Int32)) C dX4_aheadMany_13 rfl ?_
    refine gw_chk h (fun b3 h => ?_)
    refine gw_iald C dX4_aheadMany_14 6 0 rfl rfl b3 ?_
    refine gw_icmp_ge (tgt := 85) C dX4_aheadMany_15 (by decide) h (fun c4 h => ?_) (fun c4 h => ?_)
    · refine gw_sub [1] rfl ?_
      have h := gw_some h
      exact X2 _ h
    · refine gw_aload_n C dX4_aheadMany_18 0 rfl ?_
      refine gw_iload_n C dX4_aheadMany_19 2 rfl ?_
      refine gw_bind h (fun q5 hq5 h => ?_)
      refine gw_whole (st2 := []) C (run_V (rest := []) C (c_X4_layWord l D cI cJ cO a x2.2.2 x2.2.1 hq5) w_X4_layWord 0 3 rfl rfl rfl rfl rfl (Nat.le_of_ble_eq_true rfl) dX4_aheadMany_20 ⟨Nat.zero_le _, Nat.zero_le _⟩) rfl ?_
      refine gw_aload_n C dX4_aheadMany_23 0 rfl ?_
      refine gw_bind h (fun q6 hq6 h => ?_)
      refine gw_whole (st2 := [.int q6]) C (run_V (rest := []) C (c_X4_alike l D cI cJ cO a q5 hq6) w_X4_alike 0 3 rfl rfl rfl rfl rfl (Nat.le_of_ble_eq_true rfl) dX4_aheadMany_24 ⟨Nat.zero_le _, Nat.zero_le _⟩) rfl ?_
      refine gw_istore_n C dX4_aheadMany_27 [(3, .int q6), (0, .ref (a 0)), (1, .int x2.1), (2, .int x2.2.1)] rfl (by decide) rfl ?_
      refine gw_iload_n C dX4_aheadMany_28 0 rfl ?_
      refine gw_aload_n C dX4_aheadMany_29 1 rfl ?_
      refine gw_get C dX4_aheadMany_30 0 3 6 rfl rfl iX4 (by decide) f133 rfl ?_
      refine gw_lt h (fun j8 ej8 h => ?_)
      have J8 : ∀ v8 : Int32, Rs K2 o (j8 v8) → gw_G p l e (rmOf 3 71) s m args below meth c D A (CtM D below (some (.int o.1)) (wM cI a o.2) A args s) 5 0 0 (wM cI a q5) [(0, .ref (a 0)), (1, .int x2.1), (2, .int x2.2.1)] 64 [.int v8] := by
        intro v8 h
        have h := gw_app ej8 h
        refine gw_istore C dX4_aheadMany_64 [(4, .int v8), (0, .ref (a 0)), (1, .int x2.1), (2, .int x2.2.1)] (by decide) rfl ?_
        refine gw_iload_n C dX4_aheadMany_66 2 rfl ?_
        refine gw_iload C dX4_aheadMany_67 0 rfl ?_
        refine gw_lt h (fun j15 ej15 h => ?_)
        have J15 : ∀ v15 : Int32, Rs K2 o (j15 v15) → gw_G p l e (rmOf 3 71) s m args below meth c D A (CtM D below (some (.int o.1)) (wM cI a o.2) A args s) 5 0 0 (wM cI a q5) [(0, .ref (a 0)), (2, .int x2.2.1)] 77 [.int v15, .int x2.1] := by
          intro v15 h
          have h := gw_app ej15 h
          refine gw_iadd C dX4_aheadMany_77 ?_
          refine gw_lt h (fun v17 ev17 h => ?_)
          rw [ev17]
          refine gw_istore_n C dX4_aheadMany_78 [(1, .int v17), (0, .ref (a 0)), (2, .int x2.2.1)] rfl (by decide) rfl ?_
          refine gw_iinc (v := (x2.2.1 + (1 : Int32))) C dX4_aheadMany_79 [(2, .int (x2.2.1 + (1 : Int32))), (1, .int v17), (0, .ref (a 0))] 2 rfl rfl (by decide) rfl ?_
          refine gw_goto (tgt := 8) C dX4_aheadMany_82 (by decide) ?_
          refine gw_sub [2, 1, 0] rfl ?_
          have h := gw_some h
          exact I2 _ h
        refine gw_if_eq (tgt := 76) C dX4_aheadMany_69 (by decide) h (fun c16 h => ?_) (fun c16 h => ?_)
        · refine gw_iconst (v := (0 : Int32)) C dX4_aheadMany_76 rfl ?_
          refine gw_sub [1, 3] rfl ?_
          exact J15 _ h
        · refine gw_iconst (v := (1 : Int32)) C dX4_aheadMany_72 rfl ?_
          refine gw_goto (tgt := 77) C dX4_aheadMany_73 (by decide) ?_
          refine gw_sub [1, 3] rfl ?_
          exact J15 _ h
      refine gw_lt h (fun j7 ej7 h => ?_)
      have J7 : ∀ v7 : Unit, Rs K2 o (j7 v7) → gw_G p l e (rmOf 3 71) s m args below meth c D A (CtM D below (some (.int o.1)) (wM cI a o.2) A args s) 5 0 0 (wM cI a q5) [(0, .ref (a 0)), (1, .int x2.1), (2, .int x2.2.1)] 63 [] := by
        intro v7 h
        have h := gw_app ej7 h
        refine gw_iconst (v := (0 : Int32)) C dX4_aheadMany_63 rfl ?_
        exact J8 _ h
      refine gw_icmp_ge (tgt := 63) C dX4_aheadMany_33 (by decide) h (fun c9 h => ?_) (fun c9 h => ?_)
      · refine gw_sub [1, 2, 3] rfl ?_
        exact J7 _ h
      · refine gw_iload_n C dX4_aheadMany_36 0 rfl ?_
        refine gw_aload_n C dX4_aheadMany_37 1 rfl ?_
        refine gw_get C dX4_aheadMany_38 0 3 11 rfl rfl iX4 (by decide) f160 rfl ?_
        refine gw_lt h (fun j10 ej10 h => ?_)
        have J10 : ∀ v10 : Unit, Rs K2 o (j10 v10) → gw_G p l e (rmOf 3 71) s m args below meth c D A (CtM D below (some (.int o.1)) (wM cI a o.2) A args s) 5 0 0 (wM cI a q5) [(0, .ref (a 0)), (1, .int x2.1), (2, .int x2.2.1)] 59 [] := by
          intro v10 h
          have h := gw_app ej10 h
          refine gw_iconst (v := (1 : Int32)) C dX4_aheadMany_59 rfl ?_
          refine gw_goto (tgt := 64) C dX4_aheadMany_60 (by decide) ?_
          exact J8 _ h
        refine gw_icmp_eq (tgt := 59) C dX4_aheadMany_41 (by decide) h (fun c11 h => ?_) (fun c11 h => ?_)
        · refine gw_sub [1, 2, 3] rfl ?_
          exact J10 _ h
        · refine gw_aload_n C dX4_aheadMany_44 1 rfl ?_
          refine gw_get C dX4_aheadMany_45 0 3 10 rfl rfl iX4 (by decide) f28 rfl ?_
          refine gw_iload_n C dX4_aheadMany_48 0 rfl ?_
          refine gw_chk h (fun b12 h => ?_)
          refine gw_iald C dX4_aheadMany_49 7 0 rfl rfl b12 ?_
          refine gw_aload_n C dX4_aheadMany_50 1 rfl ?_
          refine gw_get C dX4_aheadMany_51 0 3 5 rfl rfl iX4 (by decide) f19 rfl ?_
          refine gw_iload_n C dX4_aheadMany_54 0 rfl ?_
          refine gw_chk h (fun b13 h => ?_)
          refine gw_iald C dX4_aheadMany_55 4 0 rfl rfl b13 ?_
          refine gw_icmp_ge (tgt := 63) C dX4_aheadMany_56 (by decide) h (fun c14 h => ?_) (fun c14 h => ?_)
          · refine gw_sub [1, 2, 3] rfl ?_
            exact J7 _ h
          · refine gw_sub [1, 2, 3] rfl ?_
            exact J10 _ h
theorem hd_X4_ahead : yX4_ahead.cls = RX4 ∧ yX4_ahead.cls ≠ "java/lang/invoke/MethodHandle" ∧ yX4_ahead.cls ≠ "java/lang/invoke/VarHandle" ∧ (parseMethodDescriptor yX4_ahead.desc).map (fun d => d.parameters.length) = some 0 := by decide +kernel
set_option maxHeartbeats 4000000 in
set_option maxRecDepth 100000 in
theorem c_X4_ahead (l : Launch) (D : va_G) (cI cJ cO : ClassId) (a : Nat → Nat) (t : MS)  {o : Int32 × MS} (h : fM_ahead t = some o) : Ct l D (tysA cI cJ cO) yX4_ahead wsX4_ahead (rmOf 4 95) [.ref (a 0)] (wM cI a t) (some (.int o.1)) (wM cI a o.2) := by
  refine Ct_of (own := RX4) cX4_ahead 1 (some .int) (by decide +kernel) rfl rfl (Nat.le_of_ble_eq_true rfl) ?_
  intro p e s m args below meth c A C hnm
  have iX4 : ∀ w ∈ u_ws RX4 TX4 16, w ∈ wsX4_ahead := fun w h => List.mem_cons_of_mem _ (List.mem_append_right _ h)
  have f40 : Cond.fieldLink RX4 40 (TX4 0).1 (TX4 0).2.1 (TX4 0).2.2.1 ∈ wsX4_ahead := List.mem_of_getElem? (i := 1) rfl
  have w_X4_aheadMany := cwV (R := (rmOf 4 95)) (rm := rmOf 3 71) (s := s) (args := args) 0 C.1.2.2.2.2 gX4_ahead_X4_aheadMany rfl rfl rfl hd_X4_aheadMany ⟨Nat.le_of_ble_eq_true rfl, Nat.le_of_ble_eq_true rfl⟩
  have h := gw_top h
  unfold fM_ahead at h
  show gw_G p l e (rmOf 4 95) s m args below meth c D A (CtM D below (some (.int o.1)) (wM cI a o.2) A args s) 1 0 0 (wM cI a t) [(0, .ref (a 0))] 0 []
  refine gw_aload_n C dX4_ahead_0 0 rfl ?_
  refine gw_iconst (v := (0 : Int32)) C dX4_ahead_1 rfl ?_
  refine gw_lt h (fun t1 et1 h => ?_)
  refine gw_put (ws' := wM cI a t1) (ty := .int) C dX4_ahead_2 0 3 0 tyX4 tyX4_ok nmX4 rfl rfl iX4 (by decide) f40 rfl (tyX4_ok 0 (by decide)) rfl rfl (Nat.le_of_ble_eq_true rfl) (by subst et1; rfl) ?_
  refine gw_aload_n C dX4_ahead_5 0 rfl ?_
  refine gw_bind h (fun q2 hq2 h => ?_)
  refine gw_whole (st2 := [.int q2.1]) C (run_V (rest := []) C (c_X4_aheadMany l D cI cJ cO a t1 hq2) w_X4_aheadMany 0 3 rfl rfl rfl rfl rfl (Nat.le_of_ble_eq_true rfl) dX4_ahead_6 ⟨Nat.zero_le _, Nat.zero_le _⟩) rfl ?_
  have h := gw_some h
  have ho := Option.some.inj h
  subst ho
  exact gw_iret C dX4_ahead_9
theorem hd_X4_toldWord : yX4_toldWord.cls = RX4 ∧ yX4_toldWord.cls ≠ "java/lang/invoke/MethodHandle" ∧ yX4_toldWord.cls ≠ "java/lang/invoke/VarHandle" ∧ (parseMethodDescriptor yX4_toldWord.desc).map (fun d => d.parameters.length) = some 2 := by decide +kernel
set_option maxHeartbeats 4000000 in
set_option maxRecDepth 100000 in
theorem c_X4_toldWord (l : Launch) (D : va_G) (cI cJ cO : ClassId) (a : Nat → Nat) (t : MS) (p1 : Int32) (p2 : Int32) {o : Int32 × MS} (h : fM_toldWord p1 p2 t = some o) : Ct l D (tysA cI cJ cO) yX4_toldWord wsX4_toldWord (rmOf 3 71) [.ref (a 0), .int p1, .int p2] (wM cI a t) (some (.int o.1)) (wM cI a o.2) := by
  refine Ct_of (own := RX4) cX4_toldWord 3 (some .int) (by decide +kernel) rfl rfl (Nat.le_of_ble_eq_true rfl) ?_
  intro p e s m args below meth c A C hnm
  have iX4 : ∀ w ∈ u_ws RX4 TX4 16, w ∈ wsX4_toldWord := fun w h => List.mem_cons_of_mem _ (List.mem_append_right _ h)
  have f25 : Cond.fieldLink RX4 25 (TX4 9).1 (TX4 9).2.1 (TX4 9).2.2.1 ∈ wsX4_toldWord := List.mem_of_getElem? (i := 1) rfl
  have f28 : Cond.fieldLink RX4 28 (TX4 10).1 (TX4 10).2.1 (TX4 10).2.2.1 ∈ wsX4_toldWord := List.mem_of_getElem? (i := 3) rfl
  have f160 : Cond.fieldLink RX4 160 (TX4 11).1 (TX4 11).2.1 (TX4 11).2.2.1 ∈ wsX4_toldWord := List.mem_of_getElem? (i := 2) rfl
  have w_X4_layBelow := cwV (R := (rmOf 3 71)) (rm := rmOf 1 21) (s := s) (args := args) 0 C.1.2.2.2.2 gX4_toldWord_X4_layBelow rfl rfl rfl hd_X4_layBelow ⟨Nat.le_of_ble_eq_true rfl, Nat.le_of_ble_eq_true rfl⟩
  have w_X4_layWord := cwV (R := (rmOf 3 71)) (rm := rmOf 2 45) (s := s) (args := args) 1 C.1.2.2.2.2 gX4_toldWord_X4_layWord rfl rfl rfl hd_X4_layWord ⟨Nat.le_of_ble_eq_true rfl, Nat.le_of_ble_eq_true rfl⟩
  have h := gw_top h
  unfold fM_toldWord at h
  show gw_G p l e (rmOf 3 71) s m args below meth c D A (CtM D below (some (.int o.1)) (wM cI a o.2) A args s) 3 0 0 (wM cI a t) [(0, .ref (a 0)), (1, .int p1), (2, .int p2)] 0 []
  refine gw_aload_n C dX4_toldWord_0 0 rfl ?_
  refine gw_bind h (fun q1 hq1 h => ?_)
  refine gw_whole (st2 := []) C (run_V (rest := []) C (c_X4_layBelow l D cI cJ cO a t hq1) w_X4_layBelow 0 3 rfl rfl rfl rfl rfl (Nat.le_of_ble_eq_true rfl) dX4_toldWord_1 ⟨Nat.zero_le _, Nat.zero_le _⟩) rfl ?_
  refine gw_iload_n C dX4_toldWord_4 1 rfl ?_
  refine gw_aload_n C dX4_toldWord_5 0 rfl ?_
  refine gw_get C dX4_toldWord_6 0 3 9 rfl rfl iX4 (by decide) f25 rfl ?_
  refine gw_iconst (v := (0 : Int32)) C dX4_toldWord_9 rfl ?_
  refine gw_chk h (fun b2 h => ?_)
  refine gw_iald C dX4_toldWord_10 6 0 rfl rfl b2 ?_
  refine gw_icmp_lt (tgt := 16) C dX4_toldWord_11 (by decide) h (fun c3 h => ?_) (fun c3 h => ?_)
  · refine gw_aload_n C dX4_toldWord_16 0 rfl ?_
    refine gw_iload_n C dX4_toldWord_17 1 rfl ?_
    refine gw_bind h (fun q4 hq4 h => ?_)
    refine gw_whole (st2 := []) C (run_V (rest := []) C (c_X4_layWord l D cI cJ cO a q1 p1 hq4) w_X4_layWord 0 3 rfl rfl rfl rfl rfl (Nat.le_of_ble_eq_true rfl) dX4_toldWord_18 ⟨Nat.zero_le _, Nat.zero_le _⟩) rfl ?_
    refine gw_iload_n C dX4_toldWord_21 2 rfl ?_
    refine gw_aload_n C dX4_toldWord_22 0 rfl ?_
    refine gw_get C dX4_toldWord_23 0 3 11 rfl rfl iX4 (by decide) f160 rfl ?_
    refine gw_icmp_ge (tgt := 38) C dX4_toldWord_26 (by decide) h (fun c5 h => ?_) (fun c5 h => ?_)
    · refine gw_iload_n C dX4_toldWord_38 2 rfl ?_
      refine gw_aload_n C dX4_toldWord_39 0 rfl ?_
      refine gw_get C dX4_toldWord_40 0 3 11 rfl rfl iX4 (by decide) f160 rfl ?_
      refine gw_icmp_ne (tgt := 50) C dX4_toldWord_43 (by decide) h (fun c6 h => ?_) (fun c6 h => ?_)
      · refine gw_iconst (v := (0 : Int32)) C dX4_toldWord_46 rfl ?_
        refine gw_goto (tgt := 51) C dX4_toldWord_47 (by decide) ?_
        have h := gw_some h
        have ho := Option.some.inj h
        subst ho
        exact gw_iret C dX4_toldWord_51
      · refine gw_iconst (v := (-1 : Int32)) C dX4_toldWord_50 rfl ?_
        have h := gw_some h
        have ho := Option.some.inj h
        subst ho
        exact gw_iret C dX4_toldWord_51
    · refine gw_aload_n C dX4_toldWord_29 0 rfl ?_
      refine gw_get C dX4_toldWord_30 0 3 10 rfl rfl iX4 (by decide) f28 rfl ?_
      refine gw_iload_n C dX4_toldWord_33 2 rfl ?_
      refine gw_chk h (fun b7 h => ?_)
      refine gw_iald C dX4_toldWord_34 7 0 rfl rfl b7 ?_
      refine gw_goto (tgt := 51) C dX4_toldWord_35 (by decide) ?_
      have h := gw_some h
      have ho := Option.some.inj h
      subst ho
      exact gw_iret C dX4_toldWord_51
  · refine gw_iconst (v := (-1 : Int32)) C dX4_toldWord_14 rfl ?_
    have h := gw_some h
    have ho := Option.some.inj h
    subst ho
    exact gw_iret C dX4_toldWord_15
theorem hd_X4_word : yX4_word.cls = RX4 ∧ yX4_word.cls ≠ "java/lang/invoke/MethodHandle" ∧ yX4_word.cls ≠ "java/lang/invoke/VarHandle" ∧ (parseMethodDescriptor yX4_word.desc).map (fun d => d.parameters.length) = some 2 := by decide +kernel
set_option maxHeartbeats 4000000 in
set_option maxRecDepth 100000 in
theorem c_X4_word (l : Launch) (D : va_G) (cI cJ cO : ClassId) (a : Nat → Nat) (t : MS) (p1 : Int32) (p2 : Int32) {o : Int32 × MS} (h : fM_word p1 p2 t = some o) : Ct l D (tysA cI cJ cO) yX4_word wsX4_word (rmOf 4 93) [.ref (a 0), .int p1, .int p2] (wM cI a t) (some (.int o.1)) (wM cI a o.2) := by
  refine Ct_of (own := RX4) cX4_word 3 (some .int) (by decide +kernel) rfl rfl (Nat.le_of_ble_eq_true rfl) ?_
  intro p e s m args below meth c A C hnm
  have iX4 : ∀ w ∈ u_ws RX4 TX4 16, w ∈ wsX4_word := fun w h => List.mem_cons_of_mem _ (List.mem_append_right _ h)
  have f40 : Cond.fieldLink RX4 40 (TX4 0).1 (TX4 0).2.1 (TX4 0).2.2.1 ∈ wsX4_word := List.mem_of_getElem? (i := 1) rfl
  have w_X4_in := va_cwS (R := (rmOf 4 93)) (rm := rmOf 0 0) (s := s) (args := args) 3 C.1.2.2.2.2 gX4_word_X4_in rfl rfl rfl hd_X4_in.2 ⟨Nat.le_of_ble_eq_true rfl, Nat.le_of_ble_eq_true rfl⟩
  have w_X4_toldWord := cwV (R := (rmOf 4 93)) (rm := rmOf 3 71) (s := s) (args := args) 2 C.1.2.2.2.2 gX4_word_X4_toldWord rfl rfl rfl hd_X4_toldWord ⟨Nat.le_of_ble_eq_true rfl, Nat.le_of_ble_eq_true rfl⟩
  have h := gw_top h
  unfold fM_word at h
  show gw_G p l e (rmOf 4 93) s m args below meth c D A (CtM D below (some (.int o.1)) (wM cI a o.2) A args s) 3 0 0 (wM cI a t) [(0, .ref (a 0)), (1, .int p1), (2, .int p2)] 0 []
  refine gw_aload_n C dX4_word_0 0 rfl ?_
  refine gw_iload_n C dX4_word_1 1 rfl ?_
  refine gw_lt h (fun j2 ej2 h => ?_)
  have J2 : ∀ v2 : Int32, Rs some o (j2 v2) → gw_G p l e (rmOf 4 93) s m args below meth c D A (CtM D below (some (.int o.1)) (wM cI a o.2) A args s) 3 0 0 (wM cI a t) [(0, .ref (a 0)), (1, .int p1), (2, .int p2)] 20 [.int v2, .ref (a 0)] := by
    intro v2 h
    have h := gw_app ej2 h
    refine gw_lt h (fun t5 et5 h => ?_)
    refine gw_put (ws' := wM cI a t5) (ty := .int) C dX4_word_20 0 3 0 tyX4 tyX4_ok nmX4 rfl rfl iX4 (by decide) f40 rfl (tyX4_ok 0 (by decide)) rfl rfl (Nat.le_of_ble_eq_true rfl) (by subst et5; rfl) ?_
    refine gw_aload_n C dX4_word_23 0 rfl ?_
    refine gw_get C dX4_word_24 0 3 0 rfl rfl iX4 (by decide) f40 rfl ?_
    refine gw_if_le (tgt := 34) C dX4_word_27 (by decide) h (fun c6 h => ?_) (fun c6 h => ?_)
    · refine gw_aload_n C dX4_word_34 0 rfl ?_
      refine gw_iload_n C dX4_word_35 1 rfl ?_
      refine gw_iload_n C dX4_word_36 2 rfl ?_
      refine gw_bind h (fun q7 hq7 h => ?_)
      refine gw_whole (st2 := [.int q7.1]) C (run_V (rest := []) C (c_X4_toldWord l D cI cJ cO a t5 p1 p2 hq7) w_X4_toldWord 0 3 rfl rfl rfl rfl rfl (Nat.le_of_ble_eq_true rfl) dX4_word_37 ⟨Nat.zero_le _, Nat.zero_le _⟩) rfl ?_
      have h := gw_some h
      have ho := Option.some.inj h
      subst ho
      exact gw_iret C dX4_word_40
    · refine gw_iconst (v := (0 : Int32)) C dX4_word_30 rfl ?_
      refine gw_goto (tgt := 40) C dX4_word_31 (by decide) ?_
      have h := gw_some h
      have ho := Option.some.inj h
      subst ho
      exact gw_iret C dX4_word_40
  refine gw_lt h (fun j1 ej1 h => ?_)
  have J1 : ∀ v1 : Unit, Rs some o (j1 v1) → gw_G p l e (rmOf 4 93) s m args below meth c D A (CtM D below (some (.int o.1)) (wM cI a o.2) A args s) 3 0 0 (wM cI a t) [(0, .ref (a 0)), (1, .int p1), (2, .int p2)] 19 [.ref (a 0)] := by
    intro v1 h
    have h := gw_app ej1 h
    refine gw_iconst (v := (1 : Int32)) C dX4_word_19 rfl ?_
    exact J2 _ h
  refine gw_if_lt (tgt := 19) C dX4_word_2 (by decide) h (fun c3 h => ?_) (fun c3 h => ?_)
  · exact J1 _ h
  · refine gw_iload_n C dX4_word_5 2 rfl ?_
    refine gw_iconst (v := (0 : Int32)) C dX4_word_6 rfl ?_
    refine gw_bipush (v := (12 : Int32)) C dX4_word_7 rfl ?_
    refine gw_none (st2 := [.int (fM_in p2 (0 : Int32) (12 : Int32)), .ref (a 0)]) C (run_S (rest := [.ref (a 0)]) C (c_X4_in l D cI cJ cO p2 (0 : Int32) (12 : Int32) rfl) w_X4_in rfl rfl (Nat.le_of_ble_eq_true rfl) dX4_word_9 ⟨Nat.zero_le _, Nat.zero_le _⟩) rfl ?_
    refine gw_if_eq (tgt := 19) C dX4_word_12 (by decide) h (fun c4 h => ?_) (fun c4 h => ?_)
    · exact J1 _ h
    · refine gw_iconst (v := (0 : Int32)) C dX4_word_15 rfl ?_
      refine gw_goto (tgt := 20) C dX4_word_16 (by decide) ?_
      exact J2 _ h
theorem hd_X4_wouldAdd : yX4_wouldAdd.cls = RX4 ∧ yX4_wouldAdd.cls ≠ "java/lang/invoke/MethodHandle" ∧ yX4_wouldAdd.cls ≠ "java/lang/invoke/VarHandle" ∧ (parseMethodDescriptor yX4_wouldAdd.desc).map (fun d => d.parameters.length) = some 1 := by decide +kernel
set_option maxHeartbeats 4000000 in
set_option maxRecDepth 100000 in
theorem c_X4_wouldAdd (l : Launch) (D : va_G) (cI cJ cO : ClassId) (a : Nat → Nat) (t : MS) (p1 : Int32) {o : Int32 × MS} (h : fM_wouldAdd p1 t = some o) : Ct l D (tysA cI cJ cO) yX4_wouldAdd wsX4_wouldAdd (rmOf 8 200) [.ref (a 0), .int p1] (wM cI a t) (some (.int o.1)) (wM cI a o.2) := by
  refine Ct_of (own := RX4) cX4_wouldAdd 7 (some .int) (by decide +kernel) rfl rfl (Nat.le_of_ble_eq_true rfl) ?_
  intro p e s m args below meth c A C hnm
  have iX4 : ∀ w ∈ u_ws RX4 TX4 16, w ∈ wsX4_wouldAdd := fun w h => List.mem_cons_of_mem _ (List.mem_append_right _ h)
  have f7 : Cond.fieldLink RX4 7 (TX4 1).1 (TX4 1).2.1 (TX4 1).2.2.1 ∈ wsX4_wouldAdd := List.mem_of_getElem? (i := 1) rfl
  have w_X4_addIt := cwV (R := (rmOf 8 200)) (rm := rmOf 7 179) (s := s) (args := args) 0 C.1.2.2.2.2 gX4_wouldAdd_X4_addIt rfl rfl rfl hd_X4_addIt ⟨Nat.le_of_ble_eq_true rfl, Nat.le_of_ble_eq_true rfl⟩
  have w_X4_bringBack := cwV (R := (rmOf 8 200)) (rm := rmOf 0 0) (s := s) (args := args) 0 C.1.2.2.2.2 gX4_wouldAdd_X4_bringBack rfl rfl rfl hd_X4_bringBack ⟨Nat.le_of_ble_eq_true rfl, Nat.le_of_ble_eq_true rfl⟩
  have w_X4_ends := cwV (R := (rmOf 8 200)) (rm := rmOf 1 21) (s := s) (args := args) 0 C.1.2.2.2.2 gX4_wouldAdd_X4_ends rfl rfl rfl hd_X4_ends ⟨Nat.le_of_ble_eq_true rfl, Nat.le_of_ble_eq_true rfl⟩
  have w_X4_used := cwV (R := (rmOf 8 200)) (rm := rmOf 1 21) (s := s) (args := args) 0 C.1.2.2.2.2 gX4_wouldAdd_X4_used rfl rfl rfl hd_X4_used ⟨Nat.le_of_ble_eq_true rfl, Nat.le_of_ble_eq_true rfl⟩
  have h := gw_top h
  unfold fM_wouldAdd at h
  show gw_G p l e (rmOf 8 200) s m args below meth c D A (CtM D below (some (.int o.1)) (wM cI a o.2) A args s) 7 0 0 (wM cI a t) [(0, .ref (a 0)), (1, .int p1)] 0 []
  refine gw_aload_n C dX4_wouldAdd_0 0 rfl ?_
  refine gw_bind h (fun q1 hq1 h => ?_)
  refine gw_whole (st2 := [.int q1]) C (run_V (rest := []) C (c_X4_used l D cI cJ cO a t hq1) w_X4_used 0 3 rfl rfl rfl rfl rfl (Nat.le_of_ble_eq_true rfl) dX4_wouldAdd_1 ⟨Nat.zero_le _, Nat.zero_le _⟩) rfl ?_
  refine gw_istore_n C dX4_wouldAdd_4 [(2, .int q1), (0, .ref (a 0)), (1, .int p1)] rfl (by decide) rfl ?_
  refine gw_aload_n C dX4_wouldAdd_5 1 rfl ?_
  refine gw_get C dX4_wouldAdd_6 0 3 1 rfl rfl iX4 (by decide) f7 rfl ?_
  refine gw_sipush (v := (1360 : Int32)) C dX4_wouldAdd_9 rfl ?_
  refine gw_chk h (fun b2 h => ?_)
  refine gw_iald C dX4_wouldAdd_12 1 0 rfl rfl b2 ?_
  refine gw_lt h (fun v3 ev3 h => ?_)
  rw [ev3]
  refine gw_istore_n C dX4_wouldAdd_13 [(3, .int v3), (2, .int q1), (0, .ref (a 0)), (1, .int p1)] rfl (by decide) rfl ?_
  refine gw_aload_n C dX4_wouldAdd_14 2 rfl ?_
  refine gw_bind h (fun q4 hq4 h => ?_)
  refine gw_whole (st2 := [.int q4]) C (run_V (rest := []) C (c_X4_ends l D cI cJ cO a t hq4) w_X4_ends 0 3 rfl rfl rfl rfl rfl (Nat.le_of_ble_eq_true rfl) dX4_wouldAdd_15 ⟨Nat.zero_le _, Nat.zero_le _⟩) rfl ?_
  refine gw_istore C dX4_wouldAdd_18 [(4, .int q4), (3, .int v3), (2, .int q1), (0, .ref (a 0)), (1, .int p1)] (by decide) rfl ?_
  refine gw_aload_n C dX4_wouldAdd_20 3 rfl ?_
  refine gw_bind h (fun q5 hq5 h => ?_)
  refine gw_whole (st2 := [.int q5.1]) C (run_V (rest := []) C (c_X4_addIt l D cI cJ cO a t hq5) w_X4_addIt 0 3 rfl rfl rfl rfl rfl (Nat.le_of_ble_eq_true rfl) dX4_wouldAdd_21 ⟨Nat.zero_le _, Nat.zero_le _⟩) rfl ?_
  refine gw_istore C dX4_wouldAdd_24 [(5, .int q5.1), (4, .int q4), (3, .int v3), (2, .int q1), (0, .ref (a 0)), (1, .int p1)] (by decide) rfl ?_
  refine gw_iload_n C dX4_wouldAdd_26 5 rfl ?_
  refine gw_lt h (fun j6 ej6 h => ?_)
  have J6 : ∀ v6 : Int32, Rs some o (j6 v6) → gw_G p l e (rmOf 8 200) s m args below meth c D A (CtM D below (some (.int o.1)) (wM cI a o.2) A args s) 7 0 0 (wM cI a q5.2) [(0, .ref (a 0)), (1, .int p1), (2, .int q1), (3, .int v3), (4, .int q4), (5, .int q5.1)] 36 [.int v6] := by
    intro v6 h
    have h := gw_app ej6 h
    refine gw_istore C dX4_wouldAdd_36 [(6, .int v6), (0, .ref (a 0)), (1, .int p1), (2, .int q1), (3, .int v3), (4, .int q4), (5, .int q5.1)] (by decide) rfl ?_
    refine gw_iload C dX4_wouldAdd_38 6 rfl ?_
    refine gw_if_ne (tgt := 100) C dX4_wouldAdd_40 (by decide) h (fun c8 h => ?_) (fun c8 h => ?_)
    · refine gw_iload_n C dX4_wouldAdd_43 2 rfl ?_
      refine gw_lt h (fun j9 ej9 h => ?_)
      have J9 : ∀ v9 : Int32, Rs some o (j9 v9) → gw_G p l e (rmOf 8 200) s m args below meth c D A (CtM D below (some (.int o.1)) (wM cI a o.2) A args s) 7 0 0 (wM cI a q5.2) [(0, .ref (a 0))] 94 [.int v9] := by
        intro v9 h
        have h := gw_app ej9 h
        refine gw_istore C dX4_wouldAdd_94 [(6, .int v9), (0, .ref (a 0))] (by decide) rfl ?_
        refine gw_aload_n C dX4_wouldAdd_96 1 rfl ?_
        refine gw_bind h (fun q16 hq16 h => ?_)
        refine gw_whole (st2 := []) C (run_V (rest := []) C (c_X4_bringBack l D cI cJ cO a q5.2 hq16) w_X4_bringBack 0 3 rfl rfl rfl rfl rfl (Nat.le_of_ble_eq_true rfl) dX4_wouldAdd_97 ⟨Nat.zero_le _, Nat.zero_le _⟩) rfl ?_
        refine gw_iload C dX4_wouldAdd_100 0 rfl ?_
        have h := gw_some h
        have ho := Option.some.inj h
        subst ho
        exact gw_iret C dX4_wouldAdd_102
      refine gw_if_ne (tgt := 52) C dX4_wouldAdd_44 (by decide) h (fun c10 h => ?_) (fun c10 h => ?_)
      · refine gw_iload C dX4_wouldAdd_47 6 rfl ?_
        refine gw_goto (tgt := 94) C dX4_wouldAdd_49 (by decide) ?_
        refine gw_sub [1] rfl ?_
        exact J9 _ h
      · refine gw_iload_n C dX4_wouldAdd_52 2 rfl ?_
        refine gw_iconst (v := (1 : Int32)) C dX4_wouldAdd_53 rfl ?_
        refine gw_icmp_ne (tgt := 66) C dX4_wouldAdd_54 (by decide) h (fun c11 h => ?_) (fun c11 h => ?_)
        · refine gw_aload_n C dX4_wouldAdd_57 1 rfl ?_
          refine gw_bind h (fun q12 hq12 h => ?_)
          refine gw_whole (st2 := [.int q12]) C (run_V (rest := []) C (c_X4_used l D cI cJ cO a q5.2 hq12) w_X4_used 0 3 rfl rfl rfl rfl rfl (Nat.le_of_ble_eq_true rfl) dX4_wouldAdd_58 ⟨Nat.zero_le _, Nat.zero_le _⟩) rfl ?_
          refine gw_iload_n C dX4_wouldAdd_61 3 rfl ?_
          refine gw_isub C dX4_wouldAdd_62 ?_
          refine gw_goto (tgt := 94) C dX4_wouldAdd_63 (by decide) ?_
          refine gw_sub [1] rfl ?_
          exact J9 _ h
        · refine gw_iload_n C dX4_wouldAdd_66 2 rfl ?_
          refine gw_iconst (v := (2 : Int32)) C dX4_wouldAdd_67 rfl ?_
          refine gw_icmp_ne (tgt := 84) C dX4_wouldAdd_68 (by decide) h (fun c13 h => ?_) (fun c13 h => ?_)
          · refine gw_aload_n C dX4_wouldAdd_71 1 rfl ?_
            refine gw_get C dX4_wouldAdd_72 0 3 1 rfl rfl iX4 (by decide) f7 rfl ?_
            refine gw_sipush (v := (1360 : Int32)) C dX4_wouldAdd_75 rfl ?_
            refine gw_chk h (fun b14 h => ?_)
            refine gw_iald C dX4_wouldAdd_78 1 0 rfl rfl b14 ?_
            refine gw_iload_n C dX4_wouldAdd_79 4 rfl ?_
            refine gw_isub C dX4_wouldAdd_80 ?_
            refine gw_goto (tgt := 94) C dX4_wouldAdd_81 (by decide) ?_
            refine gw_sub [1] rfl ?_
            exact J9 _ h
          · refine gw_aload_n C dX4_wouldAdd_84 1 rfl ?_
            refine gw_bind h (fun q15 hq15 h => ?_)
            refine gw_whole (st2 := [.int q15]) C (run_V (rest := []) C (c_X4_ends l D cI cJ cO a q5.2 hq15) w_X4_ends 0 3 rfl rfl rfl rfl rfl (Nat.le_of_ble_eq_true rfl) dX4_wouldAdd_85 ⟨Nat.zero_le _, Nat.zero_le _⟩) rfl ?_
            refine gw_iload C dX4_wouldAdd_88 5 rfl ?_
            refine gw_isub C dX4_wouldAdd_90 ?_
            refine gw_bipush (v := (100 : Int32)) C dX4_wouldAdd_91 rfl ?_
            refine gw_iadd C dX4_wouldAdd_93 ?_
            refine gw_sub [1] rfl ?_
            exact J9 _ h
    · refine gw_iload C dX4_wouldAdd_100 0 rfl ?_
      have h := gw_some h
      have ho := Option.some.inj h
      subst ho
      exact gw_iret C dX4_wouldAdd_102
  refine gw_if_ne (tgt := 35) C dX4_wouldAdd_27 (by decide) h (fun c7 h => ?_) (fun c7 h => ?_)
  · refine gw_iload C dX4_wouldAdd_30 0 rfl ?_
    refine gw_goto (tgt := 36) C dX4_wouldAdd_32 (by decide) ?_
    refine gw_sub [4, 5, 3, 2, 1, 0] rfl ?_
    exact J6 _ h
  · refine gw_iconst (v := (-1 : Int32)) C dX4_wouldAdd_35 rfl ?_
    refine gw_sub [4, 5, 3, 2, 1, 0] rfl ?_
    exact J6 _ h
theorem hd_X4_ifAdded : yX4_ifAdded.cls = RX4 ∧ yX4_ifAdded.cls ≠ "java/lang/invoke/MethodHandle" ∧ yX4_ifAdded.cls ≠ "java/lang/invoke/VarHandle" ∧ (parseMethodDescriptor yX4_ifAdded.desc).map (fun d => d.parameters.length) = some 1 := by decide +kernel
set_option maxHeartbeats 4000000 in
set_option maxRecDepth 100000 in
theorem c_X4_ifAdded (l : Launch) (D : va_G) (cI cJ cO : ClassId) (a : Nat → Nat) (t : MS) (p1 : Int32) {o : Int32 × MS} (h : fM_ifAdded p1 t = some o) : Ct l D (tysA cI cJ cO) yX4_ifAdded wsX4_ifAdded (rmOf 9 226) [.ref (a 0), .int p1] (wM cI a t) (some (.int o.1)) (wM cI a o.2) := by
  refine Ct_of (own := RX4) cX4_ifAdded 2 (some .int) (by decide +kernel) rfl rfl (Nat.le_of_ble_eq_true rfl) ?_
  intro p e s m args below meth c A C hnm
  have iX4 : ∀ w ∈ u_ws RX4 TX4 16, w ∈ wsX4_ifAdded := fun w h => List.mem_cons_of_mem _ (List.mem_append_right _ h)
  have f40 : Cond.fieldLink RX4 40 (TX4 0).1 (TX4 0).2.1 (TX4 0).2.2.1 ∈ wsX4_ifAdded := List.mem_of_getElem? (i := 1) rfl
  have w_X4_in := va_cwS (R := (rmOf 9 226)) (rm := rmOf 0 0) (s := s) (args := args) 3 C.1.2.2.2.2 gX4_ifAdded_X4_in rfl rfl rfl hd_X4_in.2 ⟨Nat.le_of_ble_eq_true rfl, Nat.le_of_ble_eq_true rfl⟩
  have w_X4_wouldAdd := cwV (R := (rmOf 9 226)) (rm := rmOf 8 200) (s := s) (args := args) 1 C.1.2.2.2.2 gX4_ifAdded_X4_wouldAdd rfl rfl rfl hd_X4_wouldAdd ⟨Nat.le_of_ble_eq_true rfl, Nat.le_of_ble_eq_true rfl⟩
  have h := gw_top h
  unfold fM_ifAdded at h
  show gw_G p l e (rmOf 9 226) s m args below meth c D A (CtM D below (some (.int o.1)) (wM cI a o.2) A args s) 2 0 0 (wM cI a t) [(0, .ref (a 0)), (1, .int p1)] 0 []
  refine gw_aload_n C dX4_ifAdded_0 0 rfl ?_
  refine gw_iload_n C dX4_ifAdded_1 1 rfl ?_
  refine gw_iconst (v := (0 : Int32)) C dX4_ifAdded_2 rfl ?_
  refine gw_iconst (v := (3 : Int32)) C dX4_ifAdded_3 rfl ?_
  refine gw_none (st2 := [.int (fM_in p1 (0 : Int32) (3 : Int32)), .ref (a 0)]) C (run_S (rest := [.ref (a 0)]) C (c_X4_in l D cI cJ cO p1 (0 : Int32) (3 : Int32) rfl) w_X4_in rfl rfl (Nat.le_of_ble_eq_true rfl) dX4_ifAdded_4 ⟨Nat.zero_le _, Nat.zero_le _⟩) rfl ?_
  refine gw_lt h (fun j1 ej1 h => ?_)
  have J1 : ∀ v1 : Int32, Rs some o (j1 v1) → gw_G p l e (rmOf 9 226) s m args below meth c D A (CtM D below (some (.int o.1)) (wM cI a o.2) A args s) 2 0 0 (wM cI a t) [(0, .ref (a 0)), (1, .int p1)] 15 [.int v1, .ref (a 0)] := by
    intro v1 h
    have h := gw_app ej1 h
    refine gw_lt h (fun t3 et3 h => ?_)
    refine gw_put (ws' := wM cI a t3) (ty := .int) C dX4_ifAdded_15 0 3 0 tyX4 tyX4_ok nmX4 rfl rfl iX4 (by decide) f40 rfl (tyX4_ok 0 (by decide)) rfl rfl (Nat.le_of_ble_eq_true rfl) (by subst et3; rfl) ?_
    refine gw_aload_n C dX4_ifAdded_18 0 rfl ?_
    refine gw_get C dX4_ifAdded_19 0 3 0 rfl rfl iX4 (by decide) f40 rfl ?_
    refine gw_if_le (tgt := 29) C dX4_ifAdded_22 (by decide) h (fun c4 h => ?_) (fun c4 h => ?_)
    · refine gw_aload_n C dX4_ifAdded_29 0 rfl ?_
      refine gw_iload_n C dX4_ifAdded_30 1 rfl ?_
      refine gw_bind h (fun q5 hq5 h => ?_)
      refine gw_whole (st2 := [.int q5.1]) C (run_V (rest := []) C (c_X4_wouldAdd l D cI cJ cO a t3 p1 hq5) w_X4_wouldAdd 0 3 rfl rfl rfl rfl rfl (Nat.le_of_ble_eq_true rfl) dX4_ifAdded_31 ⟨Nat.zero_le _, Nat.zero_le _⟩) rfl ?_
      have h := gw_some h
      have ho := Option.some.inj h
      subst ho
      exact gw_iret C dX4_ifAdded_34
    · refine gw_iconst (v := (0 : Int32)) C dX4_ifAdded_25 rfl ?_
      refine gw_goto (tgt := 34) C dX4_ifAdded_26 (by decide) ?_
      have h := gw_some h
      have ho := Option.some.inj h
      subst ho
      exact gw_iret C dX4_ifAdded_34
  refine gw_if_eq (tgt := 14) C dX4_ifAdded_7 (by decide) h (fun c2 h => ?_) (fun c2 h => ?_)
  · refine gw_iconst (v := (1 : Int32)) C dX4_ifAdded_14 rfl ?_
    exact J1 _ h
  · refine gw_iconst (v := (0 : Int32)) C dX4_ifAdded_10 rfl ?_
    refine gw_goto (tgt := 15) C dX4_ifAdded_11 (by decide) ?_
    exact J1 _ h
theorem hd_X4_wouldPack : yX4_wouldPack.cls = RX4 ∧ yX4_wouldPack.cls ≠ "java/lang/invoke/MethodHandle" ∧ yX4_wouldPack.cls ≠ "java/lang/invoke/VarHandle" ∧ (parseMethodDescriptor yX4_wouldPack.desc).map (fun d => d.parameters.length) = some 0 := by decide +kernel
set_option maxHeartbeats 4000000 in
set_option maxRecDepth 100000 in
theorem c_X4_wouldPack (l : Launch) (D : va_G) (cI cJ cO : ClassId) (a : Nat → Nat) (t : MS)  {o : Int32 × MS} (h : fM_wouldPack t = some o) : Ct l D (tysA cI cJ cO) yX4_wouldPack wsX4_wouldPack (rmOf 8 203) [.ref (a 0)] (wM cI a t) (some (.int o.1)) (wM cI a o.2) := by
  refine Ct_of (own := RX4) cX4_wouldPack 2 (some .int) (by decide +kernel) rfl rfl (Nat.le_of_ble_eq_true rfl) ?_
  intro p e s m args below meth c A C hnm
  have w_X4_bringBack := cwV (R := (rmOf 8 203)) (rm := rmOf 0 0) (s := s) (args := args) 0 C.1.2.2.2.2 gX4_wouldPack_X4_bringBack rfl rfl rfl hd_X4_bringBack ⟨Nat.le_of_ble_eq_true rfl, Nat.le_of_ble_eq_true rfl⟩
  have w_X4_packIt := cwV (R := (rmOf 8 203)) (rm := rmOf 7 179) (s := s) (args := args) 0 C.1.2.2.2.2 gX4_wouldPack_X4_packIt rfl rfl rfl hd_X4_packIt ⟨Nat.le_of_ble_eq_true rfl, Nat.le_of_ble_eq_true rfl⟩
  have w_X4_putAside := cwV (R := (rmOf 8 203)) (rm := rmOf 0 0) (s := s) (args := args) 0 C.1.2.2.2.2 gX4_wouldPack_X4_putAside rfl rfl rfl hd_X4_putAside ⟨Nat.le_of_ble_eq_true rfl, Nat.le_of_ble_eq_true rfl⟩
  have w_X4_used := cwV (R := (rmOf 8 203)) (rm := rmOf 1 21) (s := s) (args := args) 0 C.1.2.2.2.2 gX4_wouldPack_X4_used rfl rfl rfl hd_X4_used ⟨Nat.le_of_ble_eq_true rfl, Nat.le_of_ble_eq_true rfl⟩
  have h := gw_top h
  unfold fM_wouldPack at h
  show gw_G p l e (rmOf 8 203) s m args below meth c D A (CtM D below (some (.int o.1)) (wM cI a o.2) A args s) 2 0 0 (wM cI a t) [(0, .ref (a 0))] 0 []
  refine gw_aload_n C dX4_wouldPack_0 0 rfl ?_
  refine gw_bind h (fun q1 hq1 h => ?_)
  refine gw_whole (st2 := []) C (run_V (rest := []) C (c_X4_putAside l D cI cJ cO a t hq1) w_X4_putAside 0 3 rfl rfl rfl rfl rfl (Nat.le_of_ble_eq_true rfl) dX4_wouldPack_1 ⟨Nat.zero_le _, Nat.zero_le _⟩) rfl ?_
  refine gw_aload_n C dX4_wouldPack_4 0 rfl ?_
  refine gw_bind h (fun q2 hq2 h => ?_)
  refine gw_whole (st2 := [.int q2.1]) C (run_V (rest := []) C (c_X4_packIt l D cI cJ cO a q1 hq2) w_X4_packIt 0 3 rfl rfl rfl rfl rfl (Nat.le_of_ble_eq_true rfl) dX4_wouldPack_5 ⟨Nat.zero_le _, Nat.zero_le _⟩) rfl ?_
  refine gw_lt h (fun j3 ej3 h => ?_)
  have J3 : ∀ v3 : Int32, Rs some o (j3 v3) → gw_G p l e (rmOf 8 203) s m args below meth c D A (CtM D below (some (.int o.1)) (wM cI a o.2) A args s) 2 0 0 (wM cI a q2.2) [(0, .ref (a 0))] 19 [.int v3] := by
    intro v3 h
    have h := gw_app ej3 h
    refine gw_istore_n C dX4_wouldPack_19 [(1, .int v3), (0, .ref (a 0))] rfl (by decide) rfl ?_
    refine gw_aload_n C dX4_wouldPack_20 1 rfl ?_
    refine gw_bind h (fun q6 hq6 h => ?_)
    refine gw_whole (st2 := []) C (run_V (rest := []) C (c_X4_bringBack l D cI cJ cO a q2.2 hq6) w_X4_bringBack 0 3 rfl rfl rfl rfl rfl (Nat.le_of_ble_eq_true rfl) dX4_wouldPack_21 ⟨Nat.zero_le _, Nat.zero_le _⟩) rfl ?_
    refine gw_iload_n C dX4_wouldPack_24 0 rfl ?_
    have h := gw_some h
    have ho := Option.some.inj h
    subst ho
    exact gw_iret C dX4_wouldPack_25
  refine gw_if_eq (tgt := 18) C dX4_wouldPack_8 (by decide) h (fun c4 h => ?_) (fun c4 h => ?_)
  · refine gw_iconst (v := (-1 : Int32)) C dX4_wouldPack_18 rfl ?_
    exact J3 _ h
  · refine gw_aload_n C dX4_wouldPack_11 0 rfl ?_
    refine gw_bind h (fun q5 hq5 h => ?_)
    refine gw_whole (st2 := [.int q5]) C (run_V (rest := []) C (c_X4_used l D cI cJ cO a q2.2 hq5) w_X4_used 0 3 rfl rfl rfl rfl rfl (Nat.le_of_ble_eq_true rfl) dX4_wouldPack_12 ⟨Nat.zero_le _, Nat.zero_le _⟩) rfl ?_
    refine gw_goto (tgt := 19) C dX4_wouldPack_15 (by decide) ?_
    exact J3 _ h
theorem hd_X4_ifPacked : yX4_ifPacked.cls = RX4 ∧ yX4_ifPacked.cls ≠ "java/lang/invoke/MethodHandle" ∧ yX4_ifPacked.cls ≠ "java/lang/invoke/VarHandle" ∧ (parseMethodDescriptor yX4_ifPacked.desc).map (fun d => d.parameters.length) = some 0 := by decide +kernel
set_option maxHeartbeats 4000000 in
set_option maxRecDepth 100000 in
theorem c_X4_ifPacked (l : Launch) (D : va_G) (cI cJ cO : ClassId) (a : Nat → Nat) (t : MS)  {o : Int32 × MS} (h : fM_ifPacked t = some o) : Ct l D (tysA cI cJ cO) yX4_ifPacked wsX4_ifPacked (rmOf 9 224) [.ref (a 0)] (wM cI a t) (some (.int o.1)) (wM cI a o.2) := by
  refine Ct_of (own := RX4) cX4_ifPacked 1 (some .int) (by decide +kernel) rfl rfl (Nat.le_of_ble_eq_true rfl) ?_
  intro p e s m args below meth c A C hnm
  have iX4 : ∀ w ∈ u_ws RX4 TX4 16, w ∈ wsX4_ifPacked := fun w h => List.mem_cons_of_mem _ (List.mem_append_right _ h)
  have f40 : Cond.fieldLink RX4 40 (TX4 0).1 (TX4 0).2.1 (TX4 0).2.2.1 ∈ wsX4_ifPacked := List.mem_of_getElem? (i := 1) rfl
  have w_X4_wouldPack := cwV (R := (rmOf 9 224)) (rm := rmOf 8 203) (s := s) (args := args) 0 C.1.2.2.2.2 gX4_ifPacked_X4_wouldPack rfl rfl rfl hd_X4_wouldPack ⟨Nat.le_of_ble_eq_true rfl, Nat.le_of_ble_eq_true rfl⟩
  have h := gw_top h
  unfold fM_ifPacked at h
  show gw_G p l e (rmOf 9 224) s m args below meth c D A (CtM D below (some (.int o.1)) (wM cI a o.2) A args s) 1 0 0 (wM cI a t) [(0, .ref (a 0))] 0 []
  refine gw_aload_n C dX4_ifPacked_0 0 rfl ?_
  refine gw_iconst (v := (0 : Int32)) C dX4_ifPacked_1 rfl ?_
  refine gw_lt h (fun t1 et1 h => ?_)
  refine gw_put (ws' := wM cI a t1) (ty := .int) C dX4_ifPacked_2 0 3 0 tyX4 tyX4_ok nmX4 rfl rfl iX4 (by decide) f40 rfl (tyX4_ok 0 (by decide)) rfl rfl (Nat.le_of_ble_eq_true rfl) (by subst et1; rfl) ?_
  refine gw_aload_n C dX4_ifPacked_5 0 rfl ?_
  refine gw_bind h (fun q2 hq2 h => ?_)
  refine gw_whole (st2 := [.int q2.1]) C (run_V (rest := []) C (c_X4_wouldPack l D cI cJ cO a t1 hq2) w_X4_wouldPack 0 3 rfl rfl rfl rfl rfl (Nat.le_of_ble_eq_true rfl) dX4_ifPacked_6 ⟨Nat.zero_le _, Nat.zero_le _⟩) rfl ?_
  have h := gw_some h
  have ho := Option.some.inj h
  subst ho
  exact gw_iret C dX4_ifPacked_9
theorem hd_X4_full : yX4_full.cls = RX4 ∧ yX4_full.cls ≠ "java/lang/invoke/MethodHandle" ∧ yX4_full.cls ≠ "java/lang/invoke/VarHandle" ∧ (parseMethodDescriptor yX4_full.desc).map (fun d => d.parameters.length) = some 0 := by decide +kernel
set_option maxHeartbeats 4000000 in
set_option maxRecDepth 100000 in
theorem c_X4_full (l : Launch) (D : va_G) (cI cJ cO : ClassId) (a : Nat → Nat) (t : MS)  {o : UInt64} (h : fM_full t = some o) : Ct l D (tysA cI cJ cO) yX4_full wsX4_full (rmOf 2 43) [.ref (a 0)] (wM cI a t) (some (.double o)) (wM cI a t) := by
  refine Ct_of (own := RX4) cX4_full 1 (some .double) (by decide +kernel) rfl rfl (Nat.le_of_ble_eq_true rfl) ?_
  intro p e s m args below meth c A C hnm
  have w_X4_greatest := cwV (R := (rmOf 2 43)) (rm := rmOf 1 21) (s := s) (args := args) 0 C.1.2.2.2.2 gX4_full_X4_greatest rfl rfl rfl hd_X4_greatest ⟨Nat.le_of_ble_eq_true rfl, Nat.le_of_ble_eq_true rfl⟩
  have w_X4_used := cwV (R := (rmOf 2 43)) (rm := rmOf 1 21) (s := s) (args := args) 0 C.1.2.2.2.2 gX4_full_X4_used rfl rfl rfl hd_X4_used ⟨Nat.le_of_ble_eq_true rfl, Nat.le_of_ble_eq_true rfl⟩
  have h := gw_top h
  unfold fM_full at h
  show gw_G p l e (rmOf 2 43) s m args below meth c D A (CtM D below (some (.double o)) (wM cI a t) A args s) 1 0 0 (wM cI a t) [(0, .ref (a 0))] 0 []
  refine gw_aload_n C dX4_full_0 0 rfl ?_
  refine gw_bind h (fun q1 hq1 h => ?_)
  refine gw_whole (st2 := [.int q1]) C (run_V (rest := []) C (c_X4_used l D cI cJ cO a t hq1) w_X4_used 0 3 rfl rfl rfl rfl rfl (Nat.le_of_ble_eq_true rfl) dX4_full_1 ⟨Nat.zero_le _, Nat.zero_le _⟩) rfl ?_
  refine gw_i2d C dX4_full_4 ?_
  refine gw_aload_n C dX4_full_5 0 rfl ?_
  refine gw_bind h (fun q2 hq2 h => ?_)
  refine gw_whole (st2 := [.int q2, .double (FP.i2d q1)]) C (run_V (rest := [.double (FP.i2d q1)]) C (c_X4_greatest l D cI cJ cO a t hq2) w_X4_greatest 0 3 rfl rfl rfl rfl rfl (Nat.le_of_ble_eq_true rfl) dX4_full_6 ⟨Nat.zero_le _, Nat.zero_le _⟩) rfl ?_
  refine gw_iconst (v := (1 : Int32)) C dX4_full_9 rfl ?_
  refine gw_iadd C dX4_full_10 ?_
  refine gw_i2d C dX4_full_11 ?_
  refine gw_chk h (fun b3 h => ?_)
  refine gw_ddiv C dX4_full_12 b3 ?_
  have h := gw_some h
  have ho := Option.some.inj h
  subst ho
  exact gw_dret C dX4_full_13
theorem hd_X4_fullness : yX4_fullness.cls = RX4 ∧ yX4_fullness.cls ≠ "java/lang/invoke/MethodHandle" ∧ yX4_fullness.cls ≠ "java/lang/invoke/VarHandle" ∧ (parseMethodDescriptor yX4_fullness.desc).map (fun d => d.parameters.length) = some 0 := by decide +kernel
set_option maxHeartbeats 4000000 in
set_option maxRecDepth 100000 in
theorem c_X4_fullness (l : Launch) (D : va_G) (cI cJ cO : ClassId) (a : Nat → Nat) (t : MS)  {o : UInt64 × MS} (h : fM_fullness t = some o) : Ct l D (tysA cI cJ cO) yX4_fullness wsX4_fullness (rmOf 3 63) [.ref (a 0)] (wM cI a t) (some (.double o.1)) (wM cI a o.2) := by
  refine Ct_of (own := RX4) cX4_fullness 1 (some .double) (by decide +kernel) rfl rfl (Nat.le_of_ble_eq_true rfl) ?_
  intro p e s m args below meth c A C hnm
  have iX4 : ∀ w ∈ u_ws RX4 TX4 16, w ∈ wsX4_fullness := fun w h => List.mem_cons_of_mem _ (List.mem_append_right _ h)
  have f40 : Cond.fieldLink RX4 40 (TX4 0).1 (TX4 0).2.1 (TX4 0).2.2.1 ∈ wsX4_fullness := List.mem_of_getElem? (i := 1) rfl
  have w_X4_full := cwV (R := (rmOf 3 63)) (rm := rmOf 2 43) (s := s) (args := args) 0 C.1.2.2.2.2 gX4_fullness_X4_full rfl rfl rfl hd_X4_full ⟨Nat.le_of_ble_eq_true rfl, Nat.le_of_ble_eq_true rfl⟩
  have h := gw_top h
  unfold fM_fullness at h
  show gw_G p l e (rmOf 3 63) s m args below meth c D A (CtM D below (some (.double o.1)) (wM cI a o.2) A args s) 1 0 0 (wM cI a t) [(0, .ref (a 0))] 0 []
  refine gw_aload_n C dX4_fullness_0 0 rfl ?_
  refine gw_iconst (v := (0 : Int32)) C dX4_fullness_1 rfl ?_
  refine gw_lt h (fun t1 et1 h => ?_)
  refine gw_put (ws' := wM cI a t1) (ty := .int) C dX4_fullness_2 0 3 0 tyX4 tyX4_ok nmX4 rfl rfl iX4 (by decide) f40 rfl (tyX4_ok 0 (by decide)) rfl rfl (Nat.le_of_ble_eq_true rfl) (by subst et1; rfl) ?_
  refine gw_aload_n C dX4_fullness_5 0 rfl ?_
  refine gw_bind h (fun q2 hq2 h => ?_)
  refine gw_whole (st2 := [.double q2]) C (run_V (rest := []) C (c_X4_full l D cI cJ cO a t1 hq2) w_X4_full 0 3 rfl rfl rfl rfl rfl (Nat.le_of_ble_eq_true rfl) dX4_fullness_6 ⟨Nat.zero_le _, Nat.zero_le _⟩) rfl ?_
  have h := gw_some h
  have ho := Option.some.inj h
  subst ho
  exact gw_dret C dX4_fullness_9
theorem hd_X4_bitsOf : yX4_bitsOf.cls = RX4 ∧ yX4_bitsOf.cls ≠ "java/lang/invoke/MethodHandle" ∧ yX4_bitsOf.cls ≠ "java/lang/invoke/VarHandle" ∧ (parseMethodDescriptor yX4_bitsOf.desc).map (fun d => d.parameters.length) = some 1 := by decide +kernel
set_option maxHeartbeats 4000000 in
set_option maxRecDepth 100000 in
theorem c_X4_bitsOf (l : Launch) (D : va_G) (cI cJ cO : ClassId) (p1 : UInt64) {o : Int64} (h : fM_bitsOf p1 = some o) : Ct l D (tysA cI cJ cO) yX4_bitsOf wsX4_bitsOf (rmOf 0 0) [.double p1] ([]) (some (.long o)) ([]) := by
  refine Ct_of (own := RX4) cX4_bitsOf 6 (some .long) (by decide +kernel) rfl rfl (Nat.le_of_ble_eq_true rfl) ?_
  intro p e s m args below meth c A C hnm
  have k231 : Cond.constantLong RX4 231 (1023 : Int64) ∈ wsX4_bitsOf := List.mem_of_getElem? (i := 1) rfl
  have k233 : Cond.constantDouble RX4 233 (4611686018427387904 : UInt64) ∈ wsX4_bitsOf := List.mem_of_getElem? (i := 2) rfl
  have k235 : Cond.constantDouble RX4 235 (4841369599423283200 : UInt64) ∈ wsX4_bitsOf := List.mem_of_getElem? (i := 3) rfl
  have k237 : Cond.constantLong RX4 237 (4503599627370496 : Int64) ∈ wsX4_bitsOf := List.mem_of_getElem? (i := 4) rfl
  have h := gw_top h
  unfold fM_bitsOf at h
  show gw_G p l e (rmOf 0 0) s m args below meth c D A (CtM D below (some (.long o)) ([]) A args s) 6 0 0 ([]) [(0, .double p1)] 0 []
  refine gw_dload_n C dX4_bitsOf_0 0 rfl ?_
  refine gw_dconst0 C dX4_bitsOf_1 ?_
  refine gw_dcmp C dX4_bitsOf_2 ?_
  refine gw_if_ne (tgt := 8) C dX4_bitsOf_3 (by decide) h (fun c1 h => ?_) (fun c1 h => ?_)
  · refine gw_lconst (v := (0 : Int64)) C dX4_bitsOf_6 rfl ?_
    have h := gw_some h
    have ho := Option.some.inj h
    subst ho
    exact gw_lret C dX4_bitsOf_7
  · refine gw_dload_n C dX4_bitsOf_8 0 rfl ?_
    refine gw_dstore_n C dX4_bitsOf_9 [(2, .double p1), (0, .double p1)] rfl (by decide) rfl ?_
    refine gw_ldc2 C dX4_bitsOf_10 k231 ?_
    refine gw_lstore C dX4_bitsOf_13 [(4, .long (1023 : Int64)), (2, .double p1), (0, .double p1)] (by decide) rfl ?_
    refine gw_sub [1, 0] rfl ?_
    refine gw_lpb (x0 := (p1, (1023 : Int64))) (Go := fun x2 : UInt64 × Int64 => gw_G p l e (rmOf 0 0) s m args below meth c D A (CtM D below (some (.long o)) ([]) A args s) 6 0 0 ([]) [(2, .double x2.1), (4, .long x2.2)] 15 []) (GoX := fun v2 : UInt64 × Int64 => gw_G p l e (rmOf 0 0) s m args below meth c D A (CtM D below (some (.long o)) ([]) A args s) 6 0 0 ([]) [(2, .double v2.1), (4, .long v2.2)] 38 []) h (fun v2 h => ?_) (fun x2 K2 X2 I2 h => ?_)
    · refine gw_lpb (x0 := (v2.1, v2.2)) (Go := fun x7 : UInt64 × Int64 => gw_G p l e (rmOf 0 0) s m args below meth c D A (CtM D below (some (.long o)) ([]) A args s) 6 0 0 ([]) [(2, .double x7.1), (4, .long x7.2)] 38 []) (GoX := fun v7 : UInt64 × Int64 => gw_G p l e (rmOf 0 0) s m args below meth c D A (CtM D below (some (.long o)) ([]) A args s) 6 0 0 ([]) [(2, .double v7.1), (4, .long v7.2)] 59 []) h (fun v7 h => ?_) (fun x7 K7 X7 I7 h => ?_)
      · refine gw_lload C dX4_bitsOf_59 1 rfl ?_
        refine gw_bipush (v := (52 : Int32)) C dX4_bitsOf_61 rfl ?_
        refine gw_lshl C dX4_bitsOf_63 ?_
        refine gw_dload_n C dX4_bitsOf_64 0 rfl ?_
        refine gw_ldc2d C dX4_bitsOf_65 k235 ?_
        refine gw_chk h (fun b12 h => ?_)
        refine gw_dmul C dX4_bitsOf_68 b12 ?_
        refine gw_d2l C dX4_bitsOf_69 ?_
        refine gw_ladd C dX4_bitsOf_70 ?_
        refine gw_ldc2 C dX4_bitsOf_71 k237 ?_
        refine gw_lsub C dX4_bitsOf_74 ?_
        have h := gw_some h
        have ho := Option.some.inj h
        subst ho
        exact gw_lret C dX4_bitsOf_75
      · refine gw_dload_n C dX4_bitsOf_38 0 rfl ?_
        refine gw_dconst1 C dX4_bitsOf_39 ?_
        refine gw_dcmp C dX4_bitsOf_40 ?_
        refine gw_if_ge (tgt := 59) C dX4_bitsOf_41 (by decide) h (fun c8 h => ?_) (fun c8 h => ?_)
        · have h := gw_some h
          exact X7 _ h
        · refine gw_dload_n C dX4_bitsOf_44 0 rfl ?_
          refine gw_ldc2d C dX4_bitsOf_45 k233 ?_
          refine gw_chk h (fun b9 h => ?_)
          refine gw_dmul C dX4_bitsOf_48 b9 ?_
          refine gw_lt h (fun v10 ev10 h => ?_)
          rw [ev10]
          refine gw_dstore_n C dX4_bitsOf_49 [(2, .double v10), (4, .long x7.2)] rfl (by decide) rfl ?_
          refine gw_lload C dX4_bitsOf_50 1 rfl ?_
          refine gw_lconst (v := (1 : Int64)) C dX4_bitsOf_52 rfl ?_
          refine gw_lsub C dX4_bitsOf_53 ?_
          refine gw_lt h (fun v11 ev11 h => ?_)
          rw [ev11]
          refine gw_lstore C dX4_bitsOf_54 [(4, .long v11), (2, .double v10)] (by decide) rfl ?_
          refine gw_goto (tgt := 38) C dX4_bitsOf_56 (by decide) ?_
          refine gw_sub [1, 0] rfl ?_
          have h := gw_some h
          exact I7 _ h
    · refine gw_dload_n C dX4_bitsOf_15 0 rfl ?_
      refine gw_ldc2d C dX4_bitsOf_16 k233 ?_
      refine gw_dcmp C dX4_bitsOf_19 ?_
      refine gw_if_lt (tgt := 38) C dX4_bitsOf_20 (by decide) h (fun c3 h => ?_) (fun c3 h => ?_)
      · have h := gw_some h
        exact X2 _ h
      · refine gw_dload_n C dX4_bitsOf_23 0 rfl ?_
        refine gw_ldc2d C dX4_bitsOf_24 k233 ?_
        refine gw_chk h (fun b4 h => ?_)
        refine gw_ddiv C dX4_bitsOf_27 b4 ?_
        refine gw_lt h (fun v5 ev5 h => ?_)
        rw [ev5]
        refine gw_dstore_n C dX4_bitsOf_28 [(2, .double v5), (4, .long x2.2)] rfl (by decide) rfl ?_
        refine gw_lload C dX4_bitsOf_29 1 rfl ?_
        refine gw_lconst (v := (1 : Int64)) C dX4_bitsOf_31 rfl ?_
        refine gw_ladd C dX4_bitsOf_32 ?_
        refine gw_lt h (fun v6 ev6 h => ?_)
        rw [ev6]
        refine gw_lstore C dX4_bitsOf_33 [(4, .long v6), (2, .double v5)] (by decide) rfl ?_
        refine gw_goto (tgt := 15) C dX4_bitsOf_35 (by decide) ?_
        refine gw_sub [1, 0] rfl ?_
        have h := gw_some h
        exact I2 _ h
theorem hd_X4_mix : yX4_mix.cls = RX4 ∧ yX4_mix.cls ≠ "java/lang/invoke/MethodHandle" ∧ yX4_mix.cls ≠ "java/lang/invoke/VarHandle" ∧ (parseMethodDescriptor yX4_mix.desc).map (fun d => d.parameters.length) = some 1 := by decide +kernel
set_option maxHeartbeats 4000000 in
set_option maxRecDepth 100000 in
theorem c_X4_mix (l : Launch) (D : va_G) (cI cJ cO : ClassId) (a : Nat → Nat) (t : MS) (p1 : Int64) {o : MS} (h : fM_mix p1 t = o) : Ct l D (tysA cI cJ cO) yX4_mix wsX4_mix (rmOf 0 0) [.ref (a 0), .long p1] (wM cI a t) none (wM cI a o) := by
  refine Ct_of (own := RX4) cX4_mix 3 none (by decide +kernel) rfl rfl (Nat.le_of_ble_eq_true rfl) ?_
  intro p e s m args below meth c A C hnm
  have iX4 : ∀ w ∈ u_ws RX4 TX4 16, w ∈ wsX4_mix := fun w h => List.mem_cons_of_mem _ (List.mem_append_right _ h)
  have f241 : Cond.fieldLink RX4 241 (TX4 15).1 (TX4 15).2.1 (TX4 15).2.2.1 ∈ wsX4_mix := List.mem_of_getElem? (i := 2) rfl
  have k239 : Cond.constantLong RX4 239 (31 : Int64) ∈ wsX4_mix := List.mem_of_getElem? (i := 1) rfl
  have h : Rt o (fM_mix p1 t) := h
  unfold fM_mix at h
  show gw_G p l e (rmOf 0 0) s m args below meth c D A (CtM D below none (wM cI a o) A args s) 3 0 0 (wM cI a t) [(0, .ref (a 0)), (1, .long p1)] 0 []
  refine gw_aload_n C dX4_mix_0 0 rfl ?_
  refine gw_ldc2 C dX4_mix_1 k239 ?_
  refine gw_aload_n C dX4_mix_4 0 rfl ?_
  refine gw_get C dX4_mix_5 0 3 15 rfl rfl iX4 (by decide) f241 rfl ?_
  refine gw_lmul C dX4_mix_8 ?_
  refine gw_lload_n C dX4_mix_9 1 rfl ?_
  refine gw_ladd C dX4_mix_10 ?_
  refine gw_lt h (fun t1 et1 h => ?_)
  refine gw_put (ws' := wM cI a t1) (ty := .long) C dX4_mix_11 0 3 15 tyX4 tyX4_ok nmX4 rfl rfl iX4 (by decide) f241 rfl (tyX4_ok 15 (by decide)) rfl rfl (Nat.le_of_ble_eq_true rfl) (by subst et1; rfl) ?_
  have ho : _ = o := h
  subst ho
  exact gw_vret C dX4_mix_14
theorem hd_X4_mixTable : yX4_mixTable.cls = RX4 ∧ yX4_mixTable.cls ≠ "java/lang/invoke/MethodHandle" ∧ yX4_mixTable.cls ≠ "java/lang/invoke/VarHandle" ∧ (parseMethodDescriptor yX4_mixTable.desc).map (fun d => d.parameters.length) = some 0 := by decide +kernel
set_option maxHeartbeats 4000000 in
set_option maxRecDepth 100000 in
theorem c_X4_mixTable (l : Launch) (D : va_G) (cI cJ cO : ClassId) (a : Nat → Nat) (t : MS)  {o : MS} (h : fM_mixTable t = some o) : Ct l D (tysA cI cJ cO) yX4_mixTable wsX4_mixTable (rmOf 4 90) [.ref (a 0)] (wM cI a t) none (wM cI a o) := by
  refine Ct_of (own := RX4) cX4_mixTable 3 none (by decide +kernel) rfl rfl (Nat.le_of_ble_eq_true rfl) ?_
  intro p e s m args below meth c A C hnm
  have w_X4_isUsed := cwV (R := (rmOf 4 90)) (rm := rmOf 0 0) (s := s) (args := args) 1 C.1.2.2.2.2 gX4_mixTable_X4_isUsed rfl rfl rfl hd_X4_isUsed ⟨Nat.le_of_ble_eq_true rfl, Nat.le_of_ble_eq_true rfl⟩
  have w_X4_lengthOf := cwV (R := (rmOf 4 90)) (rm := rmOf 0 0) (s := s) (args := args) 1 C.1.2.2.2.2 gX4_mixTable_X4_lengthOf rfl rfl rfl hd_X4_lengthOf ⟨Nat.le_of_ble_eq_true rfl, Nat.le_of_ble_eq_true rfl⟩
  have w_X4_letterOf := cwV (R := (rmOf 4 90)) (rm := rmOf 0 0) (s := s) (args := args) 2 C.1.2.2.2.2 gX4_mixTable_X4_letterOf rfl rfl rfl hd_X4_letterOf ⟨Nat.le_of_ble_eq_true rfl, Nat.le_of_ble_eq_true rfl⟩
  have w_X4_mix := cwV (R := (rmOf 4 90)) (rm := rmOf 0 0) (s := s) (args := args) 1 C.1.2.2.2.2 gX4_mixTable_X4_mix rfl rfl rfl hd_X4_mix ⟨Nat.le_of_ble_eq_true rfl, Nat.le_of_ble_eq_true rfl⟩
  have w_X4_toldCell := cwV (R := (rmOf 4 90)) (rm := rmOf 3 68) (s := s) (args := args) 2 C.1.2.2.2.2 gX4_mixTable_X4_toldCell rfl rfl rfl hd_X4_toldCell ⟨Nat.le_of_ble_eq_true rfl, Nat.le_of_ble_eq_true rfl⟩
  have w_X4_toldEnd := cwV (R := (rmOf 4 90)) (rm := rmOf 1 21) (s := s) (args := args) 2 C.1.2.2.2.2 gX4_mixTable_X4_toldEnd rfl rfl rfl hd_X4_toldEnd ⟨Nat.le_of_ble_eq_true rfl, Nat.le_of_ble_eq_true rfl⟩
  have w_X4_usersOf := cwV (R := (rmOf 4 90)) (rm := rmOf 0 0) (s := s) (args := args) 1 C.1.2.2.2.2 gX4_mixTable_X4_usersOf rfl rfl rfl hd_X4_usersOf ⟨Nat.le_of_ble_eq_true rfl, Nat.le_of_ble_eq_true rfl⟩
  have h := gw_top h
  unfold fM_mixTable at h
  show gw_G p l e (rmOf 4 90) s m args below meth c D A (CtM D below none (wM cI a o) A args s) 3 0 0 (wM cI a t) [(0, .ref (a 0))] 0 []
  refine gw_iconst (v := (0 : Int32)) C dX4_mixTable_0 rfl ?_
  refine gw_istore_n C dX4_mixTable_1 [(1, .int (0 : Int32)), (0, .ref (a 0))] rfl (by decide) rfl ?_
  refine gw_sub [1, 0] rfl ?_
  refine gw_lpb (x0 := ((0 : Int32), t)) (Go := fun x1 : Int32 × MS => gw_G p l e (rmOf 4 90) s m args below meth c D A (CtM D below none (wM cI a o) A args s) 3 0 0 (wM cI a x1.2) [(0, .ref (a 0)), (1, .int x1.1)] 2 []) (GoX := fun v1 : MS => gw_G p l e (rmOf 4 90) s m args below meth c D A (CtM D below none (wM cI a o) A args s) 3 0 0 (wM cI a v1) [(0, .ref (a 0))] 54 []) h (fun v1 h => ?_) (fun x1 K1 X1 I1 h => ?_)
  · refine gw_iconst (v := (0 : Int32)) C dX4_mixTable_54 rfl ?_
    refine gw_istore_n C dX4_mixTable_55 [(1, .int (0 : Int32)), (0, .ref (a 0))] rfl (by decide) rfl ?_
    refine gw_sub [1, 0] rfl ?_
    refine gw_lpb (x0 := ((0 : Int32), v1)) (Go := fun x10 : Int32 × MS => gw_G p l e (rmOf 4 90) s m args below meth c D A (CtM D below none (wM cI a o) A args s) 3 0 0 (wM cI a x10.2) [(0, .ref (a 0)), (1, .int x10.1)] 56 []) (GoX := fun v10 : MS => gw_G p l e (rmOf 4 90) s m args below meth c D A (CtM D below none (wM cI a o) A args s) 3 0 0 (wM cI a v10) [] 132 []) h (fun v10 h => ?_) (fun x10 K10 X10 I10 h => ?_)
    · have h := gw_some h
      have ho := Option.some.inj h
      subst ho
      exact gw_vret C dX4_mixTable_132
    · refine gw_iload_n C dX4_mixTable_56 1 rfl ?_
      refine gw_bipush (v := (40 : Int32)) C dX4_mixTable_57 rfl ?_
      refine gw_icmp_ge (tgt := 132) C dX4_mixTable_59 (by decide) h (fun c11 h => ?_) (fun c11 h => ?_)
      · refine gw_sub [] rfl ?_
        have h := gw_some h
        exact X10 _ h
      · refine gw_aload_n C dX4_mixTable_62 0 rfl ?_
        refine gw_iload_n C dX4_mixTable_63 1 rfl ?_
        refine gw_bind h (fun q12 hq12 h => ?_)
        refine gw_whole (st2 := [.int q12]) C (run_V (rest := []) C (c_X4_usersOf l D cI cJ cO a x10.2 x10.1 hq12) w_X4_usersOf 0 3 rfl rfl rfl rfl rfl (Nat.le_of_ble_eq_true rfl) dX4_mixTable_64 ⟨Nat.zero_le _, Nat.zero_le _⟩) rfl ?_
        refine gw_if_le (tgt := 126) C dX4_mixTable_67 (by decide) h (fun c13 h => ?_) (fun c13 h => ?_)
        · refine gw_iinc (v := (x10.1 + (1 : Int32))) C dX4_mixTable_126 [(1, .int (x10.1 + (1 : Int32))), (0, .ref (a 0))] 1 rfl rfl (by decide) rfl ?_
          refine gw_goto (tgt := 56) C dX4_mixTable_129 (by decide) ?_
          refine gw_sub [1, 0] rfl ?_
          have h := gw_some h
          exact I10 _ h
        · refine gw_aload_n C dX4_mixTable_70 0 rfl ?_
          refine gw_iload_n C dX4_mixTable_71 1 rfl ?_
          refine gw_i2l C dX4_mixTable_72 ?_
          refine gw_lt h (fun q14 hq14 h => ?_)
          refine gw_whole (st2 := []) C (run_V (rest := []) C (c_X4_mix l D cI cJ cO a x10.2 x10.1.toInt64 hq14) w_X4_mix 0 3 rfl rfl rfl rfl rfl (Nat.le_of_ble_eq_true rfl) dX4_mixTable_73 ⟨Nat.zero_le _, Nat.zero_le _⟩) rfl ?_
          refine gw_aload_n C dX4_mixTable_76 0 rfl ?_
          refine gw_aload_n C dX4_mixTable_77 0 rfl ?_
          refine gw_iload_n C dX4_mixTable_78 1 rfl ?_
          refine gw_iconst (v := (0 : Int32)) C dX4_mixTable_79 rfl ?_
          refine gw_bind h (fun q15 hq15 h => ?_)
          refine gw_whole (st2 := [.int q15, .ref (a 0)]) C (run_V (rest := [.ref (a 0)]) C (c_X4_toldEnd l D cI cJ cO a q14 x10.1 (0 : Int32) hq15) w_X4_toldEnd 0 3 rfl rfl rfl rfl rfl (Nat.le_of_ble_eq_true rfl) dX4_mixTable_80 ⟨Nat.zero_le _, Nat.zero_le _⟩) rfl ?_
          refine gw_i2l C dX4_mixTable_83 ?_
          refine gw_lt h (fun q16 hq16 h => ?_)
          refine gw_whole (st2 := []) C (run_V (rest := []) C (c_X4_mix l D cI cJ cO a q14 q15.toInt64 hq16) w_X4_mix 0 3 rfl rfl rfl rfl rfl (Nat.le_of_ble_eq_true rfl) dX4_mixTable_84 ⟨Nat.zero_le _, Nat.zero_le _⟩) rfl ?_
          refine gw_aload_n C dX4_mixTable_87 0 rfl ?_
          refine gw_aload_n C dX4_mixTable_88 0 rfl ?_
          refine gw_iload_n C dX4_mixTable_89 1 rfl ?_
          refine gw_iconst (v := (1 : Int32)) C dX4_mixTable_90 rfl ?_
          refine gw_bind h (fun q17 hq17 h => ?_)
          refine gw_whole (st2 := [.int q17, .ref (a 0)]) C (run_V (rest := [.ref (a 0)]) C (c_X4_toldEnd l D cI cJ cO a q16 x10.1 (1 : Int32) hq17) w_X4_toldEnd 0 3 rfl rfl rfl rfl rfl (Nat.le_of_ble_eq_true rfl) dX4_mixTable_91 ⟨Nat.zero_le _, Nat.zero_le _⟩) rfl ?_
          refine gw_i2l C dX4_mixTable_94 ?_
          refine gw_lt h (fun q18 hq18 h => ?_)
          refine gw_whole (st2 := []) C (run_V (rest := []) C (c_X4_mix l D cI cJ cO a q16 q17.toInt64 hq18) w_X4_mix 0 3 rfl rfl rfl rfl rfl (Nat.le_of_ble_eq_true rfl) dX4_mixTable_95 ⟨Nat.zero_le _, Nat.zero_le _⟩) rfl ?_
          refine gw_iconst (v := (0 : Int32)) C dX4_mixTable_98 rfl ?_
          refine gw_istore_n C dX4_mixTable_99 [(2, .int (0 : Int32)), (0, .ref (a 0)), (1, .int x10.1)] rfl (by decide) rfl ?_
          refine gw_sub [1, 2, 0] rfl ?_
          refine gw_lpb (x0 := ((0 : Int32), q18)) (Go := fun x19 : Int32 × MS => gw_G p l e (rmOf 4 90) s m args below meth c D A (CtM D below none (wM cI a o) A args s) 3 0 0 (wM cI a x19.2) [(0, .ref (a 0)), (1, .int x10.1), (2, .int x19.1)] 100 []) (GoX := fun v19 : MS => gw_G p l e (rmOf 4 90) s m args below meth c D A (CtM D below none (wM cI a o) A args s) 3 0 0 (wM cI a v19) [(0, .ref (a 0)), (1, .int x10.1)] 126 []) h (fun v19 h => ?_) (fun x19 K19 X19 I19 h => ?_)
          · refine gw_iinc (v := (x10.1 + (1 : Int32))) C dX4_mixTable_126 [(1, .int (x10.1 + (1 : Int32))), (0, .ref (a 0))] 1 rfl rfl (by decide) rfl ?_
            refine gw_goto (tgt := 56) C dX4_mixTable_129 (by decide) ?_
            refine gw_sub [1, 0] rfl ?_
            have h := gw_some h
            exact I10 _ h
          · refine gw_iload_n C dX4_mixTable_100 2 rfl ?_
            refine gw_aload_n C dX4_mixTable_101 0 rfl ?_
            refine gw_iload_n C dX4_mixTable_102 1 rfl ?_
            refine gw_bind h (fun q20 hq20 h => ?_)
            refine gw_whole (st2 := [.int q20, .int x19.1]) C (run_V (rest := [.int x19.1]) C (c_X4_lengthOf l D cI cJ cO a x19.2 x10.1 hq20) w_X4_lengthOf 0 3 rfl rfl rfl rfl rfl (Nat.le_of_ble_eq_true rfl) dX4_mixTable_103 ⟨Nat.zero_le _, Nat.zero_le _⟩) rfl ?_
            refine gw_icmp_ge (tgt := 126) C dX4_mixTable_106 (by decide) h (fun c21 h => ?_) (fun c21 h => ?_)
            · refine gw_sub [0, 1] rfl ?_
              have h := gw_some h
              exact X19 _ h
            · refine gw_aload_n C dX4_mixTable_109 0 rfl ?_
              refine gw_aload_n C dX4_mixTable_110 0 rfl ?_
              refine gw_iload_n C dX4_mixTable_111 1 rfl ?_
              refine gw_iload_n C dX4_mixTable_112 2 rfl ?_
              refine gw_bind h (fun q22 hq22 h => ?_)
              refine gw_whole (st2 := [.int q22, .ref (a 0)]) C (run_V (rest := [.ref (a 0)]) C (c_X4_letterOf l D cI cJ cO a x19.2 x10.1 x19.1 hq22) w_X4_letterOf 0 3 rfl rfl rfl rfl rfl (Nat.le_of_ble_eq_true rfl) dX4_mixTable_113 ⟨Nat.zero_le _, Nat.zero_le _⟩) rfl ?_
              refine gw_i2l C dX4_mixTable_116 ?_
              refine gw_lt h (fun q23 hq23 h => ?_)
              refine gw_whole (st2 := []) C (run_V (rest := []) C (c_X4_mix l D cI cJ cO a x19.2 q22.toInt64 hq23) w_X4_mix 0 3 rfl rfl rfl rfl rfl (Nat.le_of_ble_eq_true rfl) dX4_mixTable_117 ⟨Nat.zero_le _, Nat.zero_le _⟩) rfl ?_
              refine gw_iinc (v := (x19.1 + (1 : Int32))) C dX4_mixTable_120 [(2, .int (x19.1 + (1 : Int32))), (0, .ref (a 0)), (1, .int x10.1)] 2 rfl rfl (by decide) rfl ?_
              refine gw_goto (tgt := 100) C dX4_mixTable_123 (by decide) ?_
              refine gw_sub [1, 2, 0] rfl ?_
              have h := gw_some h
              exact I19 _ h
  · refine gw_iload_n C dX4_mixTable_2 1 rfl ?_
    refine gw_sipush (v := (160 : Int32)) C dX4_mixTable_3 rfl ?_
    refine gw_icmp_ge (tgt := 54) C dX4_mixTable_6 (by decide) h (fun c2 h => ?_) (fun c2 h => ?_)
    · refine gw_sub [0] rfl ?_
      have h := gw_some h
      exact X1 _ h
    · refine gw_aload_n C dX4_mixTable_9 0 rfl ?_
      refine gw_iload_n C dX4_mixTable_10 1 rfl ?_
      refine gw_bind h (fun q3 hq3 h => ?_)
      refine gw_whole (st2 := [.int q3]) C (run_V (rest := []) C (c_X4_isUsed l D cI cJ cO a x1.2 x1.1 hq3) w_X4_isUsed 0 3 rfl rfl rfl rfl rfl (Nat.le_of_ble_eq_true rfl) dX4_mixTable_11 ⟨Nat.zero_le _, Nat.zero_le _⟩) rfl ?_
      refine gw_if_eq (tgt := 48) C dX4_mixTable_14 (by decide) h (fun c4 h => ?_) (fun c4 h => ?_)
      · refine gw_iinc (v := (x1.1 + (1 : Int32))) C dX4_mixTable_48 [(1, .int (x1.1 + (1 : Int32))), (0, .ref (a 0))] 1 rfl rfl (by decide) rfl ?_
        refine gw_goto (tgt := 2) C dX4_mixTable_51 (by decide) ?_
        refine gw_sub [1, 0] rfl ?_
        have h := gw_some h
        exact I1 _ h
      · refine gw_aload_n C dX4_mixTable_17 0 rfl ?_
        refine gw_iload_n C dX4_mixTable_18 1 rfl ?_
        refine gw_i2l C dX4_mixTable_19 ?_
        refine gw_lt h (fun q5 hq5 h => ?_)
        refine gw_whole (st2 := []) C (run_V (rest := []) C (c_X4_mix l D cI cJ cO a x1.2 x1.1.toInt64 hq5) w_X4_mix 0 3 rfl rfl rfl rfl rfl (Nat.le_of_ble_eq_true rfl) dX4_mixTable_20 ⟨Nat.zero_le _, Nat.zero_le _⟩) rfl ?_
        refine gw_iconst (v := (0 : Int32)) C dX4_mixTable_23 rfl ?_
        refine gw_istore_n C dX4_mixTable_24 [(2, .int (0 : Int32)), (0, .ref (a 0)), (1, .int x1.1)] rfl (by decide) rfl ?_
        refine gw_sub [1, 2, 0] rfl ?_
        refine gw_lpb (x0 := ((0 : Int32), q5)) (Go := fun x6 : Int32 × MS => gw_G p l e (rmOf 4 90) s m args below meth c D A (CtM D below none (wM cI a o) A args s) 3 0 0 (wM cI a x6.2) [(0, .ref (a 0)), (1, .int x1.1), (2, .int x6.1)] 25 []) (GoX := fun v6 : MS => gw_G p l e (rmOf 4 90) s m args below meth c D A (CtM D below none (wM cI a o) A args s) 3 0 0 (wM cI a v6) [(0, .ref (a 0)), (1, .int x1.1)] 48 []) h (fun v6 h => ?_) (fun x6 K6 X6 I6 h => ?_)
        · refine gw_iinc (v := (x1.1 + (1 : Int32))) C dX4_mixTable_48 [(1, .int (x1.1 + (1 : Int32))), (0, .ref (a 0))] 1 rfl rfl (by decide) rfl ?_
          refine gw_goto (tgt := 2) C dX4_mixTable_51 (by decide) ?_
          refine gw_sub [1, 0] rfl ?_
          have h := gw_some h
          exact I1 _ h
        · refine gw_iload_n C dX4_mixTable_25 2 rfl ?_
          refine gw_bipush (v := (6 : Int32)) C dX4_mixTable_26 rfl ?_
          refine gw_icmp_gt (tgt := 48) C dX4_mixTable_28 (by decide) h (fun c7 h => ?_) (fun c7 h => ?_)
          · refine gw_sub [0, 1] rfl ?_
            have h := gw_some h
            exact X6 _ h
          · refine gw_aload_n C dX4_mixTable_31 0 rfl ?_
            refine gw_aload_n C dX4_mixTable_32 0 rfl ?_
            refine gw_iload_n C dX4_mixTable_33 1 rfl ?_
            refine gw_iload_n C dX4_mixTable_34 2 rfl ?_
            refine gw_bind h (fun q8 hq8 h => ?_)
            refine gw_whole (st2 := [.int q8.1, .ref (a 0)]) C (run_V (rest := [.ref (a 0)]) C (c_X4_toldCell l D cI cJ cO a x6.2 x1.1 x6.1 hq8) w_X4_toldCell 0 3 rfl rfl rfl rfl rfl (Nat.le_of_ble_eq_true rfl) dX4_mixTable_35 ⟨Nat.zero_le _, Nat.zero_le _⟩) rfl ?_
            refine gw_i2l C dX4_mixTable_38 ?_
            refine gw_lt h (fun q9 hq9 h => ?_)
            refine gw_whole (st2 := []) C (run_V (rest := []) C (c_X4_mix l D cI cJ cO a q8.2 q8.1.toInt64 hq9) w_X4_mix 0 3 rfl rfl rfl rfl rfl (Nat.le_of_ble_eq_true rfl) dX4_mixTable_39 ⟨Nat.zero_le _, Nat.zero_le _⟩) rfl ?_
            refine gw_iinc (v := (x6.1 + (1 : Int32))) C dX4_mixTable_42 [(2, .int (x6.1 + (1 : Int32))), (0, .ref (a 0)), (1, .int x1.1)] 2 rfl rfl (by decide) rfl ?_
            refine gw_goto (tgt := 25) C dX4_mixTable_45 (by decide) ?_
            refine gw_sub [1, 2, 0] rfl ?_
            have h := gw_some h
            exact I6 _ h
theorem hd_X4_digest : yX4_digest.cls = RX4 ∧ yX4_digest.cls ≠ "java/lang/invoke/MethodHandle" ∧ yX4_digest.cls ≠ "java/lang/invoke/VarHandle" ∧ (parseMethodDescriptor yX4_digest.desc).map (fun d => d.parameters.length) = some 0 := by decide +kernel
set_option maxHeartbeats 4000000 in
set_option maxRecDepth 100000 in
theorem c_X4_digest (l : Launch) (D : va_G) (cI cJ cO : ClassId) (a : Nat → Nat) (t : MS)  {o : Int64 × MS} (h : fM_digest t = some o) : Ct l D (tysA cI cJ cO) yX4_digest wsX4_digest (rmOf 9 226) [.ref (a 0)] (wM cI a t) (some (.long o.1)) (wM cI a o.2) := by
  refine Ct_of (own := RX4) cX4_digest 3 (some .long) (by decide +kernel) rfl rfl (Nat.le_of_ble_eq_true rfl) ?_
  intro p e s m args below meth c A C hnm
  have iX4 : ∀ w ∈ u_ws RX4 TX4 16, w ∈ wsX4_digest := fun w h => List.mem_cons_of_mem _ (List.mem_append_right _ h)
  have f19 : Cond.fieldLink RX4 19 (TX4 5).1 (TX4 5).2.1 (TX4 5).2.2.1 ∈ wsX4_digest := List.mem_of_getElem? (i := 4) rfl
  have f40 : Cond.fieldLink RX4 40 (TX4 0).1 (TX4 0).2.1 (TX4 0).2.2.1 ∈ wsX4_digest := List.mem_of_getElem? (i := 1) rfl
  have f133 : Cond.fieldLink RX4 133 (TX4 6).1 (TX4 6).2.1 (TX4 6).2.2.1 ∈ wsX4_digest := List.mem_of_getElem? (i := 5) rfl
  have f241 : Cond.fieldLink RX4 241 (TX4 15).1 (TX4 15).2.1 (TX4 15).2.2.1 ∈ wsX4_digest := List.mem_of_getElem? (i := 3) rfl
  have k249 : Cond.constantLong RX4 249 (2801 : Int64) ∈ wsX4_digest := List.mem_of_getElem? (i := 2) rfl
  have w_X4_aheadMany := cwV (R := (rmOf 9 226)) (rm := rmOf 3 71) (s := s) (args := args) 0 C.1.2.2.2.2 gX4_digest_X4_aheadMany rfl rfl rfl hd_X4_aheadMany ⟨Nat.le_of_ble_eq_true rfl, Nat.le_of_ble_eq_true rfl⟩
  have w_X4_beginningMany := cwV (R := (rmOf 9 226)) (rm := rmOf 3 71) (s := s) (args := args) 0 C.1.2.2.2.2 gX4_digest_X4_beginningMany rfl rfl rfl hd_X4_beginningMany ⟨Nat.le_of_ble_eq_true rfl, Nat.le_of_ble_eq_true rfl⟩
  have w_X4_bitsOf := va_cwS (R := (rmOf 9 226)) (rm := rmOf 0 0) (s := s) (args := args) 1 C.1.2.2.2.2 gX4_digest_X4_bitsOf rfl rfl rfl hd_X4_bitsOf.2 ⟨Nat.le_of_ble_eq_true rfl, Nat.le_of_ble_eq_true rfl⟩
  have w_X4_counted := cwV (R := (rmOf 9 226)) (rm := rmOf 4 93) (s := s) (args := args) 1 C.1.2.2.2.2 gX4_digest_X4_counted rfl rfl rfl hd_X4_counted ⟨Nat.le_of_ble_eq_true rfl, Nat.le_of_ble_eq_true rfl⟩
  have w_X4_full := cwV (R := (rmOf 9 226)) (rm := rmOf 2 43) (s := s) (args := args) 0 C.1.2.2.2.2 gX4_digest_X4_full rfl rfl rfl hd_X4_full ⟨Nat.le_of_ble_eq_true rfl, Nat.le_of_ble_eq_true rfl⟩
  have w_X4_leafOf := cwV (R := (rmOf 9 226)) (rm := rmOf 2 48) (s := s) (args := args) 2 C.1.2.2.2.2 gX4_digest_X4_leafOf rfl rfl rfl hd_X4_leafOf ⟨Nat.le_of_ble_eq_true rfl, Nat.le_of_ble_eq_true rfl⟩
  have w_X4_longestOne := cwV (R := (rmOf 9 226)) (rm := rmOf 3 71) (s := s) (args := args) 0 C.1.2.2.2.2 gX4_digest_X4_longestOne rfl rfl rfl hd_X4_longestOne ⟨Nat.le_of_ble_eq_true rfl, Nat.le_of_ble_eq_true rfl⟩
  have w_X4_mix := cwV (R := (rmOf 9 226)) (rm := rmOf 0 0) (s := s) (args := args) 1 C.1.2.2.2.2 gX4_digest_X4_mix rfl rfl rfl hd_X4_mix ⟨Nat.le_of_ble_eq_true rfl, Nat.le_of_ble_eq_true rfl⟩
  have w_X4_mixTable := cwV (R := (rmOf 9 226)) (rm := rmOf 4 90) (s := s) (args := args) 0 C.1.2.2.2.2 gX4_digest_X4_mixTable rfl rfl rfl hd_X4_mixTable ⟨Nat.le_of_ble_eq_true rfl, Nat.le_of_ble_eq_true rfl⟩
  have w_X4_toldWord := cwV (R := (rmOf 9 226)) (rm := rmOf 3 71) (s := s) (args := args) 2 C.1.2.2.2.2 gX4_digest_X4_toldWord rfl rfl rfl hd_X4_toldWord ⟨Nat.le_of_ble_eq_true rfl, Nat.le_of_ble_eq_true rfl⟩
  have w_X4_wouldAdd := cwV (R := (rmOf 9 226)) (rm := rmOf 8 200) (s := s) (args := args) 1 C.1.2.2.2.2 gX4_digest_X4_wouldAdd rfl rfl rfl hd_X4_wouldAdd ⟨Nat.le_of_ble_eq_true rfl, Nat.le_of_ble_eq_true rfl⟩
  have w_X4_wouldPack := cwV (R := (rmOf 9 226)) (rm := rmOf 8 203) (s := s) (args := args) 0 C.1.2.2.2.2 gX4_digest_X4_wouldPack rfl rfl rfl hd_X4_wouldPack ⟨Nat.le_of_ble_eq_true rfl, Nat.le_of_ble_eq_true rfl⟩
  have h := gw_top h
  unfold fM_digest at h
  show gw_G p l e (rmOf 9 226) s m args below meth c D A (CtM D below (some (.long o.1)) (wM cI a o.2) A args s) 3 0 0 (wM cI a t) [(0, .ref (a 0))] 0 []
  refine gw_aload_n C dX4_digest_0 0 rfl ?_
  refine gw_iconst (v := (0 : Int32)) C dX4_digest_1 rfl ?_
  refine gw_lt h (fun t1 et1 h => ?_)
  refine gw_put (ws' := wM cI a t1) (ty := .int) C dX4_digest_2 0 3 0 tyX4 tyX4_ok nmX4 rfl rfl iX4 (by decide) f40 rfl (tyX4_ok 0 (by decide)) rfl rfl (Nat.le_of_ble_eq_true rfl) (by subst et1; rfl) ?_
  refine gw_aload_n C dX4_digest_5 0 rfl ?_
  refine gw_ldc2 C dX4_digest_6 k249 ?_
  refine gw_lt h (fun t2 et2 h => ?_)
  refine gw_put (ws' := wM cI a t2) (ty := .long) C dX4_digest_9 0 3 15 tyX4 tyX4_ok nmX4 rfl rfl iX4 (by decide) f241 rfl (tyX4_ok 15 (by decide)) rfl rfl (Nat.le_of_ble_eq_true rfl) (by subst et2; rfl) ?_
  refine gw_iconst (v := (0 : Int32)) C dX4_digest_12 rfl ?_
  refine gw_istore_n C dX4_digest_13 [(1, .int (0 : Int32)), (0, .ref (a 0))] rfl (by decide) rfl ?_
  refine gw_sub [1, 0] rfl ?_
  refine gw_lpb (x0 := ((0 : Int32), t2)) (Go := fun x3 : Int32 × MS => gw_G p l e (rmOf 9 226) s m args below meth c D A (CtM D below (some (.long o.1)) (wM cI a o.2) A args s) 3 0 0 (wM cI a x3.2) [(0, .ref (a 0)), (1, .int x3.1)] 14 []) (GoX := fun v3 : MS => gw_G p l e (rmOf 9 226) s m args below meth c D A (CtM D below (some (.long o.1)) (wM cI a o.2) A args s) 3 0 0 (wM cI a v3) [(0, .ref (a 0))] 36 []) h (fun v3 h => ?_) (fun x3 K3 X3 I3 h => ?_)
  · refine gw_aload_n C dX4_digest_36 0 rfl ?_
    refine gw_bind h (fun q7 hq7 h => ?_)
    refine gw_whole (st2 := []) C (run_V (rest := []) C (c_X4_mixTable l D cI cJ cO a v3 hq7) w_X4_mixTable 0 3 rfl rfl rfl rfl rfl (Nat.le_of_ble_eq_true rfl) dX4_digest_37 ⟨Nat.zero_le _, Nat.zero_le _⟩) rfl ?_
    refine gw_aload_n C dX4_digest_40 0 rfl ?_
    refine gw_aload_n C dX4_digest_41 0 rfl ?_
    refine gw_aload_n C dX4_digest_42 0 rfl ?_
    refine gw_get C dX4_digest_43 0 3 5 rfl rfl iX4 (by decide) f19 rfl ?_
    refine gw_aload_n C dX4_digest_46 0 rfl ?_
    refine gw_get C dX4_digest_47 0 3 6 rfl rfl iX4 (by decide) f133 rfl ?_
    refine gw_bind h (fun q8 hq8 h => ?_)
    refine gw_whole (st2 := [.int q8, .ref (a 0)]) C (run_V (rest := [.ref (a 0)]) C (c_X4_leafOf_4 l D cI cJ cO a q7 (mTy q7) hq8) w_X4_leafOf 0 3 rfl rfl rfl rfl rfl (Nat.le_of_ble_eq_true rfl) dX4_digest_50 ⟨Nat.zero_le _, Nat.zero_le _⟩) rfl ?_
    refine gw_i2l C dX4_digest_53 ?_
    refine gw_lt h (fun q9 hq9 h => ?_)
    refine gw_whole (st2 := []) C (run_V (rest := []) C (c_X4_mix l D cI cJ cO a q7 q8.toInt64 hq9) w_X4_mix 0 3 rfl rfl rfl rfl rfl (Nat.le_of_ble_eq_true rfl) dX4_digest_54 ⟨Nat.zero_le _, Nat.zero_le _⟩) rfl ?_
    refine gw_aload_n C dX4_digest_57 0 rfl ?_
    refine gw_aload_n C dX4_digest_58 0 rfl ?_
    refine gw_bind h (fun q10 hq10 h => ?_)
    refine gw_whole (st2 := [.int q10.1, .ref (a 0)]) C (run_V (rest := [.ref (a 0)]) C (c_X4_longestOne l D cI cJ cO a q9 hq10) w_X4_longestOne 0 3 rfl rfl rfl rfl rfl (Nat.le_of_ble_eq_true rfl) dX4_digest_59 ⟨Nat.zero_le _, Nat.zero_le _⟩) rfl ?_
    refine gw_i2l C dX4_digest_62 ?_
    refine gw_lt h (fun q11 hq11 h => ?_)
    refine gw_whole (st2 := []) C (run_V (rest := []) C (c_X4_mix l D cI cJ cO a q10.2 q10.1.toInt64 hq11) w_X4_mix 0 3 rfl rfl rfl rfl rfl (Nat.le_of_ble_eq_true rfl) dX4_digest_63 ⟨Nat.zero_le _, Nat.zero_le _⟩) rfl ?_
    refine gw_aload_n C dX4_digest_66 0 rfl ?_
    refine gw_aload_n C dX4_digest_67 0 rfl ?_
    refine gw_bind h (fun q12 hq12 h => ?_)
    refine gw_whole (st2 := [.int q12.1, .ref (a 0)]) C (run_V (rest := [.ref (a 0)]) C (c_X4_beginningMany l D cI cJ cO a q11 hq12) w_X4_beginningMany 0 3 rfl rfl rfl rfl rfl (Nat.le_of_ble_eq_true rfl) dX4_digest_68 ⟨Nat.zero_le _, Nat.zero_le _⟩) rfl ?_
    refine gw_i2l C dX4_digest_71 ?_
    refine gw_lt h (fun q13 hq13 h => ?_)
    refine gw_whole (st2 := []) C (run_V (rest := []) C (c_X4_mix l D cI cJ cO a q12.2 q12.1.toInt64 hq13) w_X4_mix 0 3 rfl rfl rfl rfl rfl (Nat.le_of_ble_eq_true rfl) dX4_digest_72 ⟨Nat.zero_le _, Nat.zero_le _⟩) rfl ?_
    refine gw_aload_n C dX4_digest_75 0 rfl ?_
    refine gw_aload_n C dX4_digest_76 0 rfl ?_
    refine gw_bind h (fun q14 hq14 h => ?_)
    refine gw_whole (st2 := [.int q14.1, .ref (a 0)]) C (run_V (rest := [.ref (a 0)]) C (c_X4_aheadMany l D cI cJ cO a q13 hq14) w_X4_aheadMany 0 3 rfl rfl rfl rfl rfl (Nat.le_of_ble_eq_true rfl) dX4_digest_77 ⟨Nat.zero_le _, Nat.zero_le _⟩) rfl ?_
    refine gw_i2l C dX4_digest_80 ?_
    refine gw_lt h (fun q15 hq15 h => ?_)
    refine gw_whole (st2 := []) C (run_V (rest := []) C (c_X4_mix l D cI cJ cO a q14.2 q14.1.toInt64 hq15) w_X4_mix 0 3 rfl rfl rfl rfl rfl (Nat.le_of_ble_eq_true rfl) dX4_digest_81 ⟨Nat.zero_le _, Nat.zero_le _⟩) rfl ?_
    refine gw_iconst (v := (0 : Int32)) C dX4_digest_84 rfl ?_
    refine gw_istore_n C dX4_digest_85 [(1, .int (0 : Int32)), (0, .ref (a 0))] rfl (by decide) rfl ?_
    refine gw_sub [1, 0] rfl ?_
    refine gw_lpb (x0 := ((0 : Int32), q15)) (Go := fun x16 : Int32 × MS => gw_G p l e (rmOf 9 226) s m args below meth c D A (CtM D below (some (.long o.1)) (wM cI a o.2) A args s) 3 0 0 (wM cI a x16.2) [(0, .ref (a 0)), (1, .int x16.1)] 86 []) (GoX := fun v16 : MS => gw_G p l e (rmOf 9 226) s m args below meth c D A (CtM D below (some (.long o.1)) (wM cI a o.2) A args s) 3 0 0 (wM cI a v16) [(0, .ref (a 0))] 122 []) h (fun v16 h => ?_) (fun x16 K16 X16 I16 h => ?_)
    · refine gw_iconst (v := (0 : Int32)) C dX4_digest_122 rfl ?_
      refine gw_istore_n C dX4_digest_123 [(1, .int (0 : Int32)), (0, .ref (a 0))] rfl (by decide) rfl ?_
      refine gw_sub [1, 0] rfl ?_
      refine gw_lpb (x0 := ((0 : Int32), v16)) (Go := fun x22 : Int32 × MS => gw_G p l e (rmOf 9 226) s m args below meth c D A (CtM D below (some (.long o.1)) (wM cI a o.2) A args s) 3 0 0 (wM cI a x22.2) [(0, .ref (a 0)), (1, .int x22.1)] 124 []) (GoX := fun v22 : MS => gw_G p l e (rmOf 9 226) s m args below meth c D A (CtM D below (some (.long o.1)) (wM cI a o.2) A args s) 3 0 0 (wM cI a v22) [(0, .ref (a 0))] 145 []) h (fun v22 h => ?_) (fun x22 K22 X22 I22 h => ?_)
      · refine gw_aload_n C dX4_digest_145 0 rfl ?_
        refine gw_aload_n C dX4_digest_146 0 rfl ?_
        refine gw_bind h (fun q26 hq26 h => ?_)
        refine gw_whole (st2 := [.int q26.1, .ref (a 0)]) C (run_V (rest := [.ref (a 0)]) C (c_X4_wouldPack l D cI cJ cO a v22 hq26) w_X4_wouldPack 0 3 rfl rfl rfl rfl rfl (Nat.le_of_ble_eq_true rfl) dX4_digest_147 ⟨Nat.zero_le _, Nat.zero_le _⟩) rfl ?_
        refine gw_i2l C dX4_digest_150 ?_
        refine gw_lt h (fun q27 hq27 h => ?_)
        refine gw_whole (st2 := []) C (run_V (rest := []) C (c_X4_mix l D cI cJ cO a q26.2 q26.1.toInt64 hq27) w_X4_mix 0 3 rfl rfl rfl rfl rfl (Nat.le_of_ble_eq_true rfl) dX4_digest_151 ⟨Nat.zero_le _, Nat.zero_le _⟩) rfl ?_
        refine gw_aload_n C dX4_digest_154 0 rfl ?_
        refine gw_aload_n C dX4_digest_155 0 rfl ?_
        refine gw_bind h (fun q28 hq28 h => ?_)
        refine gw_whole (st2 := [.double q28, .ref (a 0)]) C (run_V (rest := [.ref (a 0)]) C (c_X4_full l D cI cJ cO a q27 hq28) w_X4_full 0 3 rfl rfl rfl rfl rfl (Nat.le_of_ble_eq_true rfl) dX4_digest_156 ⟨Nat.zero_le _, Nat.zero_le _⟩) rfl ?_
        refine gw_bind h (fun q29 hq29 h => ?_)
        refine gw_none (st2 := [.long q29, .ref (a 0)]) C (run_S (rest := [.ref (a 0)]) C (c_X4_bitsOf l D cI cJ cO q28 hq29) w_X4_bitsOf rfl rfl (Nat.le_of_ble_eq_true rfl) dX4_digest_159 ⟨Nat.zero_le _, Nat.zero_le _⟩) rfl ?_
        refine gw_lt h (fun q30 hq30 h => ?_)
        refine gw_whole (st2 := []) C (run_V (rest := []) C (c_X4_mix l D cI cJ cO a q27 q29 hq30) w_X4_mix 0 3 rfl rfl rfl rfl rfl (Nat.le_of_ble_eq_true rfl) dX4_digest_162 ⟨Nat.zero_le _, Nat.zero_le _⟩) rfl ?_
        refine gw_iconst (v := (0 : Int32)) C dX4_digest_165 rfl ?_
        refine gw_istore_n C dX4_digest_166 [(1, .int (0 : Int32)), (0, .ref (a 0))] rfl (by decide) rfl ?_
        refine gw_sub [1, 0] rfl ?_
        refine gw_lpb (x0 := ((0 : Int32), q30)) (Go := fun x31 : Int32 × MS => gw_G p l e (rmOf 9 226) s m args below meth c D A (CtM D below (some (.long o.1)) (wM cI a o.2) A args s) 3 0 0 (wM cI a x31.2) [(0, .ref (a 0)), (1, .int x31.1)] 167 []) (GoX := fun v31 : MS => gw_G p l e (rmOf 9 226) s m args below meth c D A (CtM D below (some (.long o.1)) (wM cI a o.2) A args s) 3 0 0 (wM cI a v31) [(0, .ref (a 0))] 192 []) h (fun v31 h => ?_) (fun x31 K31 X31 I31 h => ?_)
        · refine gw_aload_n C dX4_digest_192 0 rfl ?_
          refine gw_get C dX4_digest_193 0 3 15 rfl rfl iX4 (by decide) f241 rfl ?_
          have h := gw_some h
          have ho := Option.some.inj h
          subst ho
          exact gw_lret C dX4_digest_196
        · refine gw_iload_n C dX4_digest_167 1 rfl ?_
          refine gw_aload_n C dX4_digest_168 0 rfl ?_
          refine gw_get C dX4_digest_169 0 3 6 rfl rfl iX4 (by decide) f133 rfl ?_
          refine gw_icmp_ge (tgt := 192) C dX4_digest_172 (by decide) h (fun c32 h => ?_) (fun c32 h => ?_)
          · refine gw_sub [0] rfl ?_
            have h := gw_some h
            exact X31 _ h
          · refine gw_aload_n C dX4_digest_175 0 rfl ?_
            refine gw_aload_n C dX4_digest_176 0 rfl ?_
            refine gw_get C dX4_digest_177 0 3 5 rfl rfl iX4 (by decide) f19 rfl ?_
            refine gw_iload_n C dX4_digest_180 1 rfl ?_
            refine gw_chk h (fun b33 h => ?_)
            refine gw_iald C dX4_digest_181 4 0 rfl rfl b33 ?_
            refine gw_i2l C dX4_digest_182 ?_
            refine gw_lt h (fun q34 hq34 h => ?_)
            refine gw_whole (st2 := []) C (run_V (rest := []) C (c_X4_mix l D cI cJ cO a x31.2 ((mBu x31.2 x31.1.toNatClampNeg).toInt64) hq34) w_X4_mix 0 3 rfl rfl rfl rfl rfl (Nat.le_of_ble_eq_true rfl) dX4_digest_183 ⟨Nat.zero_le _, Nat.zero_le _⟩) rfl ?_
            refine gw_iinc (v := (x31.1 + (1 : Int32))) C dX4_digest_186 [(1, .int (x31.1 + (1 : Int32))), (0, .ref (a 0))] 1 rfl rfl (by decide) rfl ?_
            refine gw_goto (tgt := 167) C dX4_digest_189 (by decide) ?_
            refine gw_sub [1, 0] rfl ?_
            have h := gw_some h
            exact I31 _ h
      · refine gw_iload_n C dX4_digest_124 1 rfl ?_
        refine gw_iconst (v := (3 : Int32)) C dX4_digest_125 rfl ?_
        refine gw_icmp_gt (tgt := 145) C dX4_digest_126 (by decide) h (fun c23 h => ?_) (fun c23 h => ?_)
        · refine gw_sub [0] rfl ?_
          have h := gw_some h
          exact X22 _ h
        · refine gw_aload_n C dX4_digest_129 0 rfl ?_
          refine gw_aload_n C dX4_digest_130 0 rfl ?_
          refine gw_iload_n C dX4_digest_131 1 rfl ?_
          refine gw_bind h (fun q24 hq24 h => ?_)
          refine gw_whole (st2 := [.int q24.1, .ref (a 0)]) C (run_V (rest := [.ref (a 0)]) C (c_X4_wouldAdd l D cI cJ cO a x22.2 x22.1 hq24) w_X4_wouldAdd 0 3 rfl rfl rfl rfl rfl (Nat.le_of_ble_eq_true rfl) dX4_digest_132 ⟨Nat.zero_le _, Nat.zero_le _⟩) rfl ?_
          refine gw_i2l C dX4_digest_135 ?_
          refine gw_lt h (fun q25 hq25 h => ?_)
          refine gw_whole (st2 := []) C (run_V (rest := []) C (c_X4_mix l D cI cJ cO a q24.2 q24.1.toInt64 hq25) w_X4_mix 0 3 rfl rfl rfl rfl rfl (Nat.le_of_ble_eq_true rfl) dX4_digest_136 ⟨Nat.zero_le _, Nat.zero_le _⟩) rfl ?_
          refine gw_iinc (v := (x22.1 + (1 : Int32))) C dX4_digest_139 [(1, .int (x22.1 + (1 : Int32))), (0, .ref (a 0))] 1 rfl rfl (by decide) rfl ?_
          refine gw_goto (tgt := 124) C dX4_digest_142 (by decide) ?_
          refine gw_sub [1, 0] rfl ?_
          have h := gw_some h
          exact I22 _ h
    · refine gw_iload_n C dX4_digest_86 1 rfl ?_
      refine gw_iconst (v := (2 : Int32)) C dX4_digest_87 rfl ?_
      refine gw_icmp_gt (tgt := 122) C dX4_digest_88 (by decide) h (fun c17 h => ?_) (fun c17 h => ?_)
      · refine gw_sub [0] rfl ?_
        have h := gw_some h
        exact X16 _ h
      · refine gw_iconst (v := (0 : Int32)) C dX4_digest_91 rfl ?_
        refine gw_istore_n C dX4_digest_92 [(2, .int (0 : Int32)), (0, .ref (a 0)), (1, .int x16.1)] rfl (by decide) rfl ?_
        refine gw_sub [1, 2, 0] rfl ?_
        refine gw_lpb (x0 := ((0 : Int32), x16.2)) (Go := fun x18 : Int32 × MS => gw_G p l e (rmOf 9 226) s m args below meth c D A (CtM D below (some (.long o.1)) (wM cI a o.2) A args s) 3 0 0 (wM cI a x18.2) [(0, .ref (a 0)), (1, .int x16.1), (2, .int x18.1)] 93 []) (GoX := fun v18 : MS => gw_G p l e (rmOf 9 226) s m args below meth c D A (CtM D below (some (.long o.1)) (wM cI a o.2) A args s) 3 0 0 (wM cI a v18) [(0, .ref (a 0)), (1, .int x16.1)] 116 []) h (fun v18 h => ?_) (fun x18 K18 X18 I18 h => ?_)
        · refine gw_iinc (v := (x16.1 + (1 : Int32))) C dX4_digest_116 [(1, .int (x16.1 + (1 : Int32))), (0, .ref (a 0))] 1 rfl rfl (by decide) rfl ?_
          refine gw_goto (tgt := 86) C dX4_digest_119 (by decide) ?_
          refine gw_sub [1, 0] rfl ?_
          have h := gw_some h
          exact I16 _ h
        · refine gw_iload_n C dX4_digest_93 2 rfl ?_
          refine gw_bipush (v := (12 : Int32)) C dX4_digest_94 rfl ?_
          refine gw_icmp_gt (tgt := 116) C dX4_digest_96 (by decide) h (fun c19 h => ?_) (fun c19 h => ?_)
          · refine gw_sub [0, 1] rfl ?_
            have h := gw_some h
            exact X18 _ h
          · refine gw_aload_n C dX4_digest_99 0 rfl ?_
            refine gw_aload_n C dX4_digest_100 0 rfl ?_
            refine gw_iload_n C dX4_digest_101 1 rfl ?_
            refine gw_iload_n C dX4_digest_102 2 rfl ?_
            refine gw_bind h (fun q20 hq20 h => ?_)
            refine gw_whole (st2 := [.int q20.1, .ref (a 0)]) C (run_V (rest := [.ref (a 0)]) C (c_X4_toldWord l D cI cJ cO a x18.2 x16.1 x18.1 hq20) w_X4_toldWord 0 3 rfl rfl rfl rfl rfl (Nat.le_of_ble_eq_true rfl) dX4_digest_103 ⟨Nat.zero_le _, Nat.zero_le _⟩) rfl ?_
            refine gw_i2l C dX4_digest_106 ?_
            refine gw_lt h (fun q21 hq21 h => ?_)
            refine gw_whole (st2 := []) C (run_V (rest := []) C (c_X4_mix l D cI cJ cO a q20.2 q20.1.toInt64 hq21) w_X4_mix 0 3 rfl rfl rfl rfl rfl (Nat.le_of_ble_eq_true rfl) dX4_digest_107 ⟨Nat.zero_le _, Nat.zero_le _⟩) rfl ?_
            refine gw_iinc (v := (x18.1 + (1 : Int32))) C dX4_digest_110 [(2, .int (x18.1 + (1 : Int32))), (0, .ref (a 0)), (1, .int x16.1)] 2 rfl rfl (by decide) rfl ?_
            refine gw_goto (tgt := 93) C dX4_digest_113 (by decide) ?_
            refine gw_sub [1, 2, 0] rfl ?_
            have h := gw_some h
            exact I18 _ h
  · refine gw_iload_n C dX4_digest_14 1 rfl ?_
    refine gw_bipush (v := (9 : Int32)) C dX4_digest_15 rfl ?_
    refine gw_icmp_gt (tgt := 36) C dX4_digest_17 (by decide) h (fun c4 h => ?_) (fun c4 h => ?_)
    · refine gw_sub [0] rfl ?_
      have h := gw_some h
      exact X3 _ h
    · refine gw_aload_n C dX4_digest_20 0 rfl ?_
      refine gw_aload_n C dX4_digest_21 0 rfl ?_
      refine gw_iload_n C dX4_digest_22 1 rfl ?_
      refine gw_bind h (fun q5 hq5 h => ?_)
      refine gw_whole (st2 := [.int q5.1, .ref (a 0)]) C (run_V (rest := [.ref (a 0)]) C (c_X4_counted l D cI cJ cO a x3.2 x3.1 hq5) w_X4_counted 0 3 rfl rfl rfl rfl rfl (Nat.le_of_ble_eq_true rfl) dX4_digest_23 ⟨Nat.zero_le _, Nat.zero_le _⟩) rfl ?_
      refine gw_i2l C dX4_digest_26 ?_
      refine gw_lt h (fun q6 hq6 h => ?_)
      refine gw_whole (st2 := []) C (run_V (rest := []) C (c_X4_mix l D cI cJ cO a q5.2 q5.1.toInt64 hq6) w_X4_mix 0 3 rfl rfl rfl rfl rfl (Nat.le_of_ble_eq_true rfl) dX4_digest_27 ⟨Nat.zero_le _, Nat.zero_le _⟩) rfl ?_
      refine gw_iinc (v := (x3.1 + (1 : Int32))) C dX4_digest_30 [(1, .int (x3.1 + (1 : Int32))), (0, .ref (a 0))] 1 rfl rfl (by decide) rfl ?_
      refine gw_goto (tgt := 14) C dX4_digest_33 (by decide) ?_
      refine gw_sub [1, 0] rfl ?_
      have h := gw_some h
      exact I3 _ h
