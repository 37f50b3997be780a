def fP_add  (t : PS) : Option ((Nat × PS) ⊕ (Int32 × PS)) :=
 (fP_tryToAdd t.1).bind fun q1 =>
 gw_let (q1.2, t.2) fun t2 =>
 if q1.1 = (3 : Int32) then
  some (.inl (1, t2))
 else
  if q1.1 = (1 : Int32) then
   some (.inl (2, t2))
  else
   if q1.1 = (2 : Int32) then
    some (.inl (2, t2))
   else
    (fP_saveState t2).bind fun q6 =>
    gw_let (fT_copyFrom (qT q6.1) (qR q6.1)) fun q7 =>
    gw_let (sQT q6.1 q7, q6.2) fun t8 =>
    (fT_leafOf (qB t8.1) (qT t8.1)).bind fun q9 =>
    some (.inr (q9, t8))
def fP_remove  (t : PS) : Option ((Nat × PS) ⊕ (Int32 × PS)) :=
 if (qL t.1) = 0 then
  some (.inl (1, t))
 else
  (fT_leafOf (qB t.1) (qT t.1)).bind fun q2 =>
  if q2 = (-1 : Int32) then
   some (.inl (2, t))
  else
   (fP_saveState t).bind fun q4 =>
   (fT_freeLeaf q2 (qT q4.1)).bind fun q5 =>
   gw_let (sQT q4.1 q5.2, q4.2) fun t6 =>
   some (.inr (q5.1, t6))
def fP_removeAll  (t : PS) : Option (Int32 × PS) :=
 (fP_saveState t).bind fun q1 =>
 (fT_wordsWith (qB q1.1) (qT q1.1)).bind fun q2 =>
 (fT_wordsAhead (qB q1.1) (qT q1.1)).bind fun q3 =>
 (gw_lp (σ := Int32 × PS) (ω := PS) (fun x4 =>
  if q2 ≤ x4.1 then
   some (.inl x4.2)
  else
   (fT_wordAt q3 (qT x4.2.1)).bind fun q6 =>
   (fT_leafOf q6 (qT x4.2.1)).bind fun q7 =>
   (fT_freeLeaf q7 (qT x4.2.1)).bind fun q8 =>
   gw_let (sQT x4.2.1 q8.2, x4.2.2) fun t9 =>
   some (.inr ((x4.1 + (1 : Int32)), t9))
 ) gw_fl ((0 : Int32), q1)).bind fun v4 =>
 some (q2, v4)
def fP_pack  (t : PS) : Option ((Nat × PS) ⊕ (Int32 × PS)) :=
 (fT_packFrom (qR t.1) (qT t.1)).bind fun q1 =>
 gw_let (sQR t.1 q1.2, t.2) fun t2 =>
 if q1.1 = (-1 : Int32) then
  some (.inl (2, t2))
 else
  (fT_usedCells (qT t2.1)).bind fun q4 =>
  gw_let (q4 - q1.1) fun v5 =>
  (fP_saveState t2).bind fun q6 =>
  gw_let (fT_copyFrom (qT q6.1) (qR q6.1)) fun q7 =>
  gw_let (sQT q6.1 q7, q6.2) fun t8 =>
  some (.inr ((v5 + (1000 : Int32)), t8))
theorem hd_X3_add : yX3_add.cls = RX3 ∧ yX3_add.cls ≠ "java/lang/invoke/MethodHandle" ∧ yX3_add.cls ≠ "java/lang/invoke/VarHandle" ∧ (parseMethodDescriptor yX3_add.desc).map (fun d => d.parameters.length) = some 0 := by decide +kernel
set_option maxHeartbeats 4000000 in
set_option maxRecDepth 100000 in
theorem c_X3_add (l : Launch) (D : va_G) (cI cJ cO : ClassId) (aP : Nat) (bT bR : Nat → Nat) (aS : Nat) (t : PS)  {o : Int32 × PS} (h : fP_add t = some (.inr o)) : Ct l D (tysA cI cJ cO) yX3_add wsX3_add (rmOf 6 161) [.ref aP] (wP cI cJ cO aP bT bR aS t) (some (.int o.1)) (wP cI cJ cO aP bT bR aS o.2) := by
  refine Ct_of (own := RX3) cX3_add 2 (some .int) (by decide +kernel) rfl rfl (Nat.le_of_ble_eq_true rfl) ?_
  intro p e s m args below meth c A C hnm
  have iX3 : ∀ w ∈ u_ws RX3 TX3 6, w ∈ wsX3_add := fun w h => List.mem_cons_of_mem _ (List.mem_append_left _ (List.mem_append_left _ (List.mem_append_left _ (List.mem_append_left _ (List.mem_append_right _ h)))))
  have f12 : Cond.fieldLink RX3 12 (TX3 0).1 (TX3 0).2.1 (TX3 0).2.2.1 ∈ wsX3_add := List.mem_of_getElem? (i := 5) rfl
  have f16 : Cond.fieldLink RX3 16 (TX3 1).1 (TX3 1).2.1 (TX3 1).2.2.1 ∈ wsX3_add := List.mem_of_getElem? (i := 6) rfl
  have f27 : Cond.fieldLink RX3 27 (TX3 4).1 (TX3 4).2.1 (TX3 4).2.2.1 ∈ wsX3_add := List.mem_of_getElem? (i := 7) rfl
  have w_X1_copyFrom := cwV (R := (rmOf 6 161)) (rm := rmOf 3 60) (s := s) (args := args) 1 C.1.2.2.2.2 gX3_add_X1_copyFrom rfl rfl rfl hd_X1_copyFrom ⟨Nat.le_of_ble_eq_true rfl, Nat.le_of_ble_eq_true rfl⟩
  have w_X1_leafOf := cwV (R := (rmOf 6 161)) (rm := rmOf 2 43) (s := s) (args := args) 1 C.1.2.2.2.2 gX3_add_X1_leafOf rfl rfl rfl hd_X1_leafOf ⟨Nat.le_of_ble_eq_true rfl, Nat.le_of_ble_eq_true rfl⟩
  have w_X3_saveState := cwV (R := (rmOf 6 161)) (rm := rmOf 4 140) (s := s) (args := args) 0 C.1.2.2.2.2 gX3_add_X3_saveState rfl rfl rfl hd_X3_saveState ⟨Nat.le_of_ble_eq_true rfl, Nat.le_of_ble_eq_true rfl⟩
  have w_X3_tryToAdd := cwV (R := (rmOf 6 161)) (rm := rmOf 5 135) (s := s) (args := args) 0 C.1.2.2.2.2 gX3_add_X3_tryToAdd rfl rfl rfl hd_X3_tryToAdd ⟨Nat.le_of_ble_eq_true rfl, Nat.le_of_ble_eq_true rfl⟩
  have h := gw_top h
  unfold fP_add at h
  show gw_G p l e (rmOf 6 161) s m args below meth c D A (CtM D below (some (.int o.1)) (wP cI cJ cO aP bT bR aS o.2) A args s) 2 0 0 (wP cI cJ cO aP bT bR aS t) [(0, .ref aP)] 0 []
  refine gw_aload_n C dX3_add_0 0 rfl ?_
  refine gw_bind h (fun q1 hq1 h => ?_)
  refine gw_lt h (fun t2 et2 h => ?_)
  refine gP_Q (t := t) (st2 := [.int q1.1]) (ws' := wP cI cJ cO aP bT bR aS t2) C (run_V (rest := []) C (c_X3_tryToAdd l D cI cJ cO aP bT bR aS t.1 hq1) w_X3_tryToAdd 0 2 rfl rfl rfl rfl rfl (Nat.le_of_ble_eq_true rfl) dX3_add_1 ⟨Nat.zero_le _, Nat.zero_le _⟩) (by subst et2; rfl) rfl ?_
  refine gw_istore_n C dX3_add_4 [(1, .int q1.1), (0, .ref aP)] rfl (by decide) rfl ?_
  refine gw_iload_n C dX3_add_5 0 rfl ?_
  refine gw_iconst (v := (3 : Int32)) C dX3_add_6 rfl ?_
  refine gw_icmp_ne (tgt := 20) C dX3_add_7 (by decide) h (fun c3 h => ?_) (fun c3 h => ?_)
  · have h := gw_some h
    cases h
  · refine gw_iload_n C dX3_add_20 0 rfl ?_
    refine gw_iconst (v := (1 : Int32)) C dX3_add_21 rfl ?_
    refine gw_icmp_ne (tgt := 35) C dX3_add_22 (by decide) h (fun c4 h => ?_) (fun c4 h => ?_)
    · have h := gw_some h
      cases h
    · refine gw_iload_n C dX3_add_35 0 rfl ?_
      refine gw_iconst (v := (2 : Int32)) C dX3_add_36 rfl ?_
      refine gw_icmp_ne (tgt := 50) C dX3_add_37 (by decide) h (fun c5 h => ?_) (fun c5 h => ?_)
      · have h := gw_some h
        cases h
      · refine gw_aload_n C dX3_add_50 1 rfl ?_
        refine gw_bind h (fun q6 hq6 h => ?_)
        refine gw_whole (st2 := []) C (run_V (rest := []) C (c_X3_saveState l D cI cJ cO aP bT bR aS t2 hq6) w_X3_saveState 0 2 rfl rfl rfl rfl rfl (Nat.le_of_ble_eq_true rfl) dX3_add_51 ⟨Nat.zero_le _, Nat.zero_le _⟩) rfl ?_
        refine gw_aload_n C dX3_add_54 1 rfl ?_
        refine gw_get C dX3_add_55 0 2 0 rfl rfl iX3 (by decide) f12 rfl ?_
        refine gw_aload_n C dX3_add_58 1 rfl ?_
        refine gw_get C dX3_add_59 0 2 1 rfl rfl iX3 (by decide) f16 rfl ?_
        refine gw_lt h (fun q7 hq7 h => ?_)
        refine gw_lt h (fun t8 et8 h => ?_)
        refine gP_TR (t := q6) (st2 := []) (ws' := wP cI cJ cO aP bT bR aS t8) C (run_V (rest := []) C (c_X1_copyFrom l D cI cJ cO bT bR (qT q6.1) (qR q6.1) hq7) w_X1_copyFrom 0 1 rfl rfl rfl rfl rfl (Nat.le_of_ble_eq_true rfl) dX3_add_62 ⟨Nat.zero_le _, Nat.zero_le _⟩) (by subst et8; rfl) rfl ?_
        refine gw_aload_n C dX3_add_65 1 rfl ?_
        refine gw_get C dX3_add_66 0 2 0 rfl rfl iX3 (by decide) f12 rfl ?_
        refine gw_aload_n C dX3_add_69 1 rfl ?_
        refine gw_get C dX3_add_70 0 2 4 rfl rfl iX3 (by decide) f27 rfl ?_
        refine gw_bind h (fun q9 hq9 h => ?_)
        refine gP_T (t := t8) (st2 := [.int q9]) (ws' := wP cI cJ cO aP bT bR aS t8) C (run_V (rest := []) C (c_X1_leafOf l D cI cJ cO bT (qT t8.1) (qB t8.1) hq9) w_X1_leafOf 0 1 rfl rfl rfl rfl rfl (Nat.le_of_ble_eq_true rfl) dX3_add_73 ⟨Nat.zero_le _, Nat.zero_le _⟩) rfl rfl ?_
        have h := gw_some h
        have ho := Sum.inr.inj (Option.some.inj h)
        subst ho
        exact gw_iret C dX3_add_76
theorem hd_X3_remove : yX3_remove.cls = RX3 ∧ yX3_remove.cls ≠ "java/lang/invoke/MethodHandle" ∧ yX3_remove.cls ≠ "java/lang/invoke/VarHandle" ∧ (parseMethodDescriptor yX3_remove.desc).map (fun d => d.parameters.length) = some 0 := by decide +kernel
set_option maxHeartbeats 4000000 in
set_option maxRecDepth 100000 in
theorem c_X3_remove (l : Launch) (D : va_G) (cI cJ cO : ClassId) (aP : Nat) (bT bR : Nat → Nat) (aS : Nat) (t : PS)  {o : Int32 × PS} (h : fP_remove t = some (.inr o)) : Ct l D (tysA cI cJ cO) yX3_remove wsX3_remove (rmOf 5 161) [.ref aP] (wP cI cJ cO aP bT bR aS t) (some (.int o.1)) (wP cI cJ cO aP bT bR aS o.2) := by
  refine Ct_of (own := RX3) cX3_remove 2 (some .int) (by decide +kernel) rfl rfl (Nat.le_of_ble_eq_true rfl) ?_
  intro p e s m args below meth c A C hnm
  have iX3 : ∀ w ∈ u_ws RX3 TX3 6, w ∈ wsX3_remove := fun w h => List.mem_cons_of_mem _ (List.mem_append_left _ (List.mem_append_left _ (List.mem_append_left _ (List.mem_append_left _ (List.mem_append_right _ h)))))
  have f12 : Cond.fieldLink RX3 12 (TX3 0).1 (TX3 0).2.1 (TX3 0).2.2.1 ∈ wsX3_remove := List.mem_of_getElem? (i := 6) rfl
  have f27 : Cond.fieldLink RX3 27 (TX3 4).1 (TX3 4).2.1 (TX3 4).2.2.1 ∈ wsX3_remove := List.mem_of_getElem? (i := 7) rfl
  have f31 : Cond.fieldLink RX3 31 (TX3 5).1 (TX3 5).2.1 (TX3 5).2.2.1 ∈ wsX3_remove := List.mem_of_getElem? (i := 5) rfl
  have w_X1_freeLeaf := cwV (R := (rmOf 5 161)) (rm := rmOf 2 46) (s := s) (args := args) 1 C.1.2.2.2.2 gX3_remove_X1_freeLeaf rfl rfl rfl hd_X1_freeLeaf ⟨Nat.le_of_ble_eq_true rfl, Nat.le_of_ble_eq_true rfl⟩
  have w_X1_leafOf := cwV (R := (rmOf 5 161)) (rm := rmOf 2 43) (s := s) (args := args) 1 C.1.2.2.2.2 gX3_remove_X1_leafOf rfl rfl rfl hd_X1_leafOf ⟨Nat.le_of_ble_eq_true rfl, Nat.le_of_ble_eq_true rfl⟩
  have w_X3_saveState := cwV (R := (rmOf 5 161)) (rm := rmOf 4 140) (s := s) (args := args) 0 C.1.2.2.2.2 gX3_remove_X3_saveState rfl rfl rfl hd_X3_saveState ⟨Nat.le_of_ble_eq_true rfl, Nat.le_of_ble_eq_true rfl⟩
  have h := gw_top h
  unfold fP_remove at h
  show gw_G p l e (rmOf 5 161) s m args below meth c D A (CtM D below (some (.int o.1)) (wP cI cJ cO aP bT bR aS o.2) A args s) 2 0 0 (wP cI cJ cO aP bT bR aS t) [(0, .ref aP)] 0 []
  refine gw_aload_n C dX3_remove_0 0 rfl ?_
  refine gw_get C dX3_remove_1 0 2 5 rfl rfl iX3 (by decide) f31 rfl ?_
  refine gw_if_ne (tgt := 17) C dX3_remove_4 (by decide) h (fun c1 h => ?_) (fun c1 h => ?_)
  · have h := gw_some h
    cases h
  · refine gw_aload_n C dX3_remove_17 0 rfl ?_
    refine gw_get C dX3_remove_18 0 2 0 rfl rfl iX3 (by decide) f12 rfl ?_
    refine gw_aload_n C dX3_remove_21 0 rfl ?_
    refine gw_get C dX3_remove_22 0 2 4 rfl rfl iX3 (by decide) f27 rfl ?_
    refine gw_bind h (fun q2 hq2 h => ?_)
    refine gP_T (t := t) (st2 := [.int q2]) (ws' := wP cI cJ cO aP bT bR aS t) C (run_V (rest := []) C (c_X1_leafOf l D cI cJ cO bT (qT t.1) (qB t.1) hq2) w_X1_leafOf 0 1 rfl rfl rfl rfl rfl (Nat.le_of_ble_eq_true rfl) dX3_remove_25 ⟨Nat.zero_le _, Nat.zero_le _⟩) rfl rfl ?_
    refine gw_istore_n C dX3_remove_28 [(1, .int q2), (0, .ref aP)] rfl (by decide) rfl ?_
    refine gw_iload_n C dX3_remove_29 0 rfl ?_
    refine gw_iconst (v := (-1 : Int32)) C dX3_remove_30 rfl ?_
    refine gw_icmp_ne (tgt := 44) C dX3_remove_31 (by decide) h (fun c3 h => ?_) (fun c3 h => ?_)
    · have h := gw_some h
      cases h
    · refine gw_aload_n C dX3_remove_44 1 rfl ?_
      refine gw_bind h (fun q4 hq4 h => ?_)
      refine gw_whole (st2 := []) C (run_V (rest := []) C (c_X3_saveState l D cI cJ cO aP bT bR aS t hq4) w_X3_saveState 0 2 rfl rfl rfl rfl rfl (Nat.le_of_ble_eq_true rfl) dX3_remove_45 ⟨Nat.zero_le _, Nat.zero_le _⟩) rfl ?_
      refine gw_aload_n C dX3_remove_48 1 rfl ?_
      refine gw_get C dX3_remove_49 0 2 0 rfl rfl iX3 (by decide) f12 rfl ?_
      refine gw_iload_n C dX3_remove_52 0 rfl ?_
      refine gw_bind h (fun q5 hq5 h => ?_)
      refine gw_lt h (fun t6 et6 h => ?_)
      refine gP_T (t := q4) (st2 := [.int q5.1]) (ws' := wP cI cJ cO aP bT bR aS t6) C (run_V (rest := []) C (c_X1_freeLeaf l D cI cJ cO bT (qT q4.1) q2 hq5) w_X1_freeLeaf 0 1 rfl rfl rfl rfl rfl (Nat.le_of_ble_eq_true rfl) dX3_remove_53 ⟨Nat.zero_le _, Nat.zero_le _⟩) (by subst et6; rfl) rfl ?_
      have h := gw_some h
      have ho := Sum.inr.inj (Option.some.inj h)
      subst ho
      exact gw_iret C dX3_remove_56
theorem hd_X3_removeAll : yX3_removeAll.cls = RX3 ∧ yX3_removeAll.cls ≠ "java/lang/invoke/MethodHandle" ∧ yX3_removeAll.cls ≠ "java/lang/invoke/VarHandle" ∧ (parseMethodDescriptor yX3_removeAll.desc).map (fun d => d.parameters.length) = some 0 := by decide +kernel
set_option maxHeartbeats 4000000 in
set_option maxRecDepth 100000 in
theorem c_X3_removeAll (l : Launch) (D : va_G) (cI cJ cO : ClassId) (aP : Nat) (bT bR : Nat → Nat) (aS : Nat) (t : PS)  {o : Int32 × PS} (h : fP_removeAll t = some o) : Ct l D (tysA cI cJ cO) yX3_removeAll wsX3_removeAll (rmOf 5 161) [.ref aP] (wP cI cJ cO aP bT bR aS t) (some (.int o.1)) (wP cI cJ cO aP bT bR aS o.2) := by
  refine Ct_of (own := RX3) cX3_removeAll 4 (some .int) (by decide +kernel) rfl rfl (Nat.le_of_ble_eq_true rfl) ?_
  intro p e s m args below meth c A C hnm
  have iX3 : ∀ w ∈ u_ws RX3 TX3 6, w ∈ wsX3_removeAll := fun w h => List.mem_cons_of_mem _ (List.mem_append_left _ (List.mem_append_left _ (List.mem_append_right _ h)))
  have f12 : Cond.fieldLink RX3 12 (TX3 0).1 (TX3 0).2.1 (TX3 0).2.2.1 ∈ wsX3_removeAll := List.mem_of_getElem? (i := 1) rfl
  have f27 : Cond.fieldLink RX3 27 (TX3 4).1 (TX3 4).2.1 (TX3 4).2.2.1 ∈ wsX3_removeAll := List.mem_of_getElem? (i := 2) rfl
  have w_X1_freeLeaf := cwV (R := (rmOf 5 161)) (rm := rmOf 2 46) (s := s) (args := args) 1 C.1.2.2.2.2 gX3_removeAll_X1_freeLeaf rfl rfl rfl hd_X1_freeLeaf ⟨Nat.le_of_ble_eq_true rfl, Nat.le_of_ble_eq_true rfl⟩
  have w_X1_leafOf := cwV (R := (rmOf 5 161)) (rm := rmOf 2 43) (s := s) (args := args) 1 C.1.2.2.2.2 gX3_removeAll_X1_leafOf rfl rfl rfl hd_X1_leafOf ⟨Nat.le_of_ble_eq_true rfl, Nat.le_of_ble_eq_true rfl⟩
  have w_X1_wordAt := cwV (R := (rmOf 5 161)) (rm := rmOf 3 69) (s := s) (args := args) 1 C.1.2.2.2.2 gX3_removeAll_X1_wordAt rfl rfl rfl hd_X1_wordAt ⟨Nat.le_of_ble_eq_true rfl, Nat.le_of_ble_eq_true rfl⟩
  have w_X1_wordsAhead := cwV (R := (rmOf 5 161)) (rm := rmOf 3 69) (s := s) (args := args) 1 C.1.2.2.2.2 gX3_removeAll_X1_wordsAhead rfl rfl rfl hd_X1_wordsAhead ⟨Nat.le_of_ble_eq_true rfl, Nat.le_of_ble_eq_true rfl⟩
  have w_X1_wordsWith := cwV (R := (rmOf 5 161)) (rm := rmOf 4 89) (s := s) (args := args) 1 C.1.2.2.2.2 gX3_removeAll_X1_wordsWith rfl rfl rfl hd_X1_wordsWith ⟨Nat.le_of_ble_eq_true rfl, Nat.le_of_ble_eq_true rfl⟩
  have w_X3_saveState := cwV (R := (rmOf 5 161)) (rm := rmOf 4 140) (s := s) (args := args) 0 C.1.2.2.2.2 gX3_removeAll_X3_saveState rfl rfl rfl hd_X3_saveState ⟨Nat.le_of_ble_eq_true rfl, Nat.le_of_ble_eq_true rfl⟩
  have h := gw_top h
  unfold fP_removeAll at h
  show gw_G p l e (rmOf 5 161) s m args below meth c D A (CtM D below (some (.int o.1)) (wP cI cJ cO aP bT bR aS o.2) A args s) 4 0 0 (wP cI cJ cO aP bT bR aS t) [(0, .ref aP)] 0 []
  refine gw_aload_n C dX3_removeAll_0 0 rfl ?_
  refine gw_bind h (fun q1 hq1 h => ?_)
  refine gw_whole (st2 := []) C (run_V (rest := []) C (c_X3_saveState l D cI cJ cO aP bT bR aS t hq1) w_X3_saveState 0 2 rfl rfl rfl rfl rfl (Nat.le_of_ble_eq_true rfl) dX3_removeAll_1 ⟨Nat.zero_le _, Nat.zero_le _⟩) rfl ?_
  refine gw_aload_n C dX3_removeAll_4 0 rfl ?_
  refine gw_get C dX3_removeAll_5 0 2 0 rfl rfl iX3 (by decide) f12 rfl ?_
  refine gw_aload_n C dX3_removeAll_8 0 rfl ?_
  refine gw_get C dX3_removeAll_9 0 2 4 rfl rfl iX3 (by decide) f27 rfl ?_
  refine gw_bind h (fun q2 hq2 h => ?_)
  refine gP_T (t := q1) (st2 := [.int q2]) (ws' := wP cI cJ cO aP bT bR aS q1) C (run_V (rest := []) C (c_X1_wordsWith l D cI cJ cO bT (qT q1.1) (qB q1.1) hq2) w_X1_wordsWith 0 1 rfl rfl rfl rfl rfl (Nat.le_of_ble_eq_true rfl) dX3_removeAll_12 ⟨Nat.zero_le _, Nat.zero_le _⟩) rfl rfl ?_
  refine gw_istore_n C dX3_removeAll_15 [(1, .int q2), (0, .ref aP)] rfl (by decide) rfl ?_
  refine gw_aload_n C dX3_removeAll_16 1 rfl ?_
  refine gw_get C dX3_removeAll_17 0 2 0 rfl rfl iX3 (by decide) f12 rfl ?_
  refine gw_aload_n C dX3_removeAll_20 1 rfl ?_
  refine gw_get C dX3_removeAll_21 0 2 4 rfl rfl iX3 (by decide) f27 rfl ?_
  refine gw_bind h (fun q3 hq3 h => ?_)
  refine gP_T (t := q1) (st2 := [.int q3]) (ws' := wP cI cJ cO aP bT bR aS q1) C (run_V (rest := []) C (c_X1_wordsAhead l D cI cJ cO bT (qT q1.1) (qB q1.1) hq3) w_X1_wordsAhead 0 1 rfl rfl rfl rfl rfl (Nat.le_of_ble_eq_true rfl) dX3_removeAll_24 ⟨Nat.zero_le _, Nat.zero_le _⟩) rfl rfl ?_
  refine gw_istore_n C dX3_removeAll_27 [(2, .int q3), (1, .int q2), (0, .ref aP)] rfl (by decide) rfl ?_
  refine gw_iconst (v := (0 : Int32)) C dX3_removeAll_28 rfl ?_
  refine gw_istore_n C dX3_removeAll_29 [(3, .int (0 : Int32)), (2, .int q3), (1, .int q2), (0, .ref aP)] rfl (by decide) rfl ?_
  refine gw_sub [3, 2, 1, 0] rfl ?_
  refine gw_lpb (x0 := ((0 : Int32), q1)) (Go := fun x4 : Int32 × PS => gw_G p l e (rmOf 5 161) s m args below meth c D A (CtM D below (some (.int o.1)) (wP cI cJ cO aP bT bR aS o.2) A args s) 4 0 0 (wP cI cJ cO aP bT bR aS x4.2) [(0, .ref aP), (1, .int q2), (2, .int q3), (3, .int x4.1)] 30 []) (GoX := fun v4 : PS => gw_G p l e (rmOf 5 161) s m args below meth c D A (CtM D below (some (.int o.1)) (wP cI cJ cO aP bT bR aS o.2) A args s) 4 0 0 (wP cI cJ cO aP bT bR aS v4) [(1, .int q2)] 64 []) h (fun v4 h => ?_) (fun x4 K4 X4 I4 h => ?_)
  · refine gw_iload_n C dX3_removeAll_64 0 rfl ?_
    have h := gw_some h
    have ho := Option.some.inj h
    subst ho
    exact gw_iret C dX3_removeAll_65
  · refine gw_iload_n C dX3_removeAll_30 3 rfl ?_
    refine gw_iload_n C dX3_removeAll_31 1 rfl ?_
    refine gw_icmp_ge (tgt := 64) C dX3_removeAll_32 (by decide) h (fun c5 h => ?_) (fun c5 h => ?_)
    · refine gw_sub [1] rfl ?_
      have h := gw_some h
      exact X4 _ h
    · refine gw_aload_n C dX3_removeAll_35 0 rfl ?_
      refine gw_get C dX3_removeAll_36 0 2 0 rfl rfl iX3 (by decide) f12 rfl ?_
      refine gw_aload_n C dX3_removeAll_39 0 rfl ?_
      refine gw_get C dX3_removeAll_40 0 2 0 rfl rfl iX3 (by decide) f12 rfl ?_
      refine gw_aload_n C dX3_removeAll_43 0 rfl ?_
      refine gw_get C dX3_removeAll_44 0 2 0 rfl rfl iX3 (by decide) f12 rfl ?_
      refine gw_iload_n C dX3_removeAll_47 2 rfl ?_
      refine gw_bind h (fun q6 hq6 h => ?_)
      refine gP_T (t := x4.2) (st2 := [.long q6, .ref (bT 0), .ref (bT 0)]) (ws' := wP cI cJ cO aP bT bR aS x4.2) C (run_V (rest := [.ref (bT 0), .ref (bT 0)]) C (c_X1_wordAt l D cI cJ cO bT (qT x4.2.1) q3 hq6) w_X1_wordAt 0 1 rfl rfl rfl rfl rfl (Nat.le_of_ble_eq_true rfl) dX3_removeAll_48 ⟨Nat.zero_le _, Nat.zero_le _⟩) rfl rfl ?_
      refine gw_bind h (fun q7 hq7 h => ?_)
      refine gP_T (t := x4.2) (st2 := [.int q7, .ref (bT 0)]) (ws' := wP cI cJ cO aP bT bR aS x4.2) C (run_V (rest := [.ref (bT 0)]) C (c_X1_leafOf l D cI cJ cO bT (qT x4.2.1) q6 hq7) w_X1_leafOf 0 1 rfl rfl rfl rfl rfl (Nat.le_of_ble_eq_true rfl) dX3_removeAll_51 ⟨Nat.zero_le _, Nat.zero_le _⟩) rfl rfl ?_
      refine gw_bind h (fun q8 hq8 h => ?_)
      refine gw_lt h (fun t9 et9 h => ?_)
      refine gP_T (t := x4.2) (st2 := [.int q8.1]) (ws' := wP cI cJ cO aP bT bR aS t9) C (run_V (rest := []) C (c_X1_freeLeaf l D cI cJ cO bT (qT x4.2.1) q7 hq8) w_X1_freeLeaf 0 1 rfl rfl rfl rfl rfl (Nat.le_of_ble_eq_true rfl) dX3_removeAll_54 ⟨Nat.zero_le _, Nat.zero_le _⟩) (by subst et9; rfl) rfl ?_
      refine gw_pop C dX3_removeAll_57 rfl ?_
      refine gw_iinc (v := (x4.1 + (1 : Int32))) C dX3_removeAll_58 [(3, .int (x4.1 + (1 : Int32))), (0, .ref aP), (1, .int q2), (2, .int q3)] 3 rfl rfl (by decide) rfl ?_
      refine gw_goto (tgt := 30) C dX3_removeAll_61 (by decide) ?_
      refine gw_sub [1, 2, 3, 0] rfl ?_
      have h := gw_some h
      exact I4 _ h
theorem hd_X3_pack : yX3_pack.cls = RX3 ∧ yX3_pack.cls ≠ "java/lang/invoke/MethodHandle" ∧ yX3_pack.cls ≠ "java/lang/invoke/VarHandle" ∧ (parseMethodDescriptor yX3_pack.desc).map (fun d => d.parameters.length) = some 0 := by decide +kernel
set_option maxHeartbeats 4000000 in
set_option maxRecDepth 100000 in
theorem c_X3_pack (l : Launch) (D : va_G) (cI cJ cO : ClassId) (aP : Nat) (bT bR : Nat → Nat) (aS : Nat) (t : PS)  {o : Int32 × PS} (h : fP_pack t = some (.inr o)) : Ct l D (tysA cI cJ cO) yX3_pack wsX3_pack (rmOf 6 161) [.ref aP] (wP cI cJ cO aP bT bR aS t) (some (.int o.1)) (wP cI cJ cO aP bT bR aS o.2) := by
  refine Ct_of (own := RX3) cX3_pack 3 (some .int) (by decide +kernel) rfl rfl (Nat.le_of_ble_eq_true rfl) ?_
  intro p e s m args below meth c A C hnm
  have iX3 : ∀ w ∈ u_ws RX3 TX3 6, w ∈ wsX3_pack := fun w h => List.mem_cons_of_mem _ (List.mem_append_left _ (List.mem_append_left _ (List.mem_append_left _ (List.mem_append_right _ h))))
  have f12 : Cond.fieldLink RX3 12 (TX3 0).1 (TX3 0).2.1 (TX3 0).2.2.1 ∈ wsX3_pack := List.mem_of_getElem? (i := 4) rfl
  have f16 : Cond.fieldLink RX3 16 (TX3 1).1 (TX3 1).2.1 (TX3 1).2.2.1 ∈ wsX3_pack := List.mem_of_getElem? (i := 3) rfl
  have w_X1_copyFrom := cwV (R := (rmOf 6 161)) (rm := rmOf 3 60) (s := s) (args := args) 1 C.1.2.2.2.2 gX3_pack_X1_copyFrom rfl rfl rfl hd_X1_copyFrom ⟨Nat.le_of_ble_eq_true rfl, Nat.le_of_ble_eq_true rfl⟩
  have w_X1_packFrom := cwV (R := (rmOf 6 161)) (rm := rmOf 5 135) (s := s) (args := args) 1 C.1.2.2.2.2 gX3_pack_X1_packFrom rfl rfl rfl hd_X1_packFrom ⟨Nat.le_of_ble_eq_true rfl, Nat.le_of_ble_eq_true rfl⟩
  have w_X1_usedCells := cwV (R := (rmOf 6 161)) (rm := rmOf 0 0) (s := s) (args := args) 0 C.1.2.2.2.2 gX3_pack_X1_usedCells rfl rfl rfl hd_X1_usedCells ⟨Nat.le_of_ble_eq_true rfl, Nat.le_of_ble_eq_true rfl⟩
  have w_X3_saveState := cwV (R := (rmOf 6 161)) (rm := rmOf 4 140) (s := s) (args := args) 0 C.1.2.2.2.2 gX3_pack_X3_saveState rfl rfl rfl hd_X3_saveState ⟨Nat.le_of_ble_eq_true rfl, Nat.le_of_ble_eq_true rfl⟩
  have h := gw_top h
  unfold fP_pack at h
  show gw_G p l e (rmOf 6 161) s m args below meth c D A (CtM D below (some (.int o.1)) (wP cI cJ cO aP bT bR aS o.2) A args s) 3 0 0 (wP cI cJ cO aP bT bR aS t) [(0, .ref aP)] 0 []
  refine gw_aload_n C dX3_pack_0 0 rfl ?_
  refine gw_get C dX3_pack_1 0 2 1 rfl rfl iX3 (by decide) f16 rfl ?_
  refine gw_aload_n C dX3_pack_4 0 rfl ?_
  refine gw_get C dX3_pack_5 0 2 0 rfl rfl iX3 (by decide) f12 rfl ?_
  refine gw_bind h (fun q1 hq1 h => ?_)
  refine gw_lt h (fun t2 et2 h => ?_)
  refine gP_RT (t := t) (st2 := [.int q1.1]) (ws' := wP cI cJ cO aP bT bR aS t2) C (run_V (rest := []) C (c_X1_packFrom l D cI cJ cO bR bT (qR t.1) (qT t.1) hq1) w_X1_packFrom 0 1 rfl rfl rfl rfl rfl (Nat.le_of_ble_eq_true rfl) dX3_pack_8 ⟨Nat.zero_le _, Nat.zero_le _⟩) (by subst et2; rfl) rfl ?_
  refine gw_istore_n C dX3_pack_11 [(1, .int q1.1), (0, .ref aP)] rfl (by decide) rfl ?_
  refine gw_iload_n C dX3_pack_12 0 rfl ?_
  refine gw_iconst (v := (-1 : Int32)) C dX3_pack_13 rfl ?_
  refine gw_icmp_ne (tgt := 27) C dX3_pack_14 (by decide) h (fun c3 h => ?_) (fun c3 h => ?_)
  · have h := gw_some h
    cases h
  · refine gw_aload_n C dX3_pack_27 1 rfl ?_
    refine gw_get C dX3_pack_28 0 2 0 rfl rfl iX3 (by decide) f12 rfl ?_
    refine gw_bind h (fun q4 hq4 h => ?_)
    refine gP_T (t := t2) (st2 := [.int q4]) (ws' := wP cI cJ cO aP bT bR aS t2) C (run_V (rest := []) C (c_X1_usedCells l D cI cJ cO bT (qT t2.1) hq4) w_X1_usedCells 0 1 rfl rfl rfl rfl rfl (Nat.le_of_ble_eq_true rfl) dX3_pack_31 ⟨Nat.zero_le _, Nat.zero_le _⟩) rfl rfl ?_
    refine gw_iload_n C dX3_pack_34 0 rfl ?_
    refine gw_isub C dX3_pack_35 ?_
    refine gw_lt h (fun v5 ev5 h => ?_)
    rw [ev5]
    refine gw_istore_n C dX3_pack_36 [(2, .int v5), (1, .int q1.1), (0, .ref aP)] rfl (by decide) rfl ?_
    refine gw_aload_n C dX3_pack_37 2 rfl ?_
    refine gw_bind h (fun q6 hq6 h => ?_)
    refine gw_whole (st2 := []) C (run_V (rest := []) C (c_X3_saveState l D cI cJ cO aP bT bR aS t2 hq6) w_X3_saveState 0 2 rfl rfl rfl rfl rfl (Nat.le_of_ble_eq_true rfl) dX3_pack_38 ⟨Nat.zero_le _, Nat.zero_le _⟩) rfl ?_
    refine gw_aload_n C dX3_pack_41 2 rfl ?_
    refine gw_get C dX3_pack_42 0 2 0 rfl rfl iX3 (by decide) f12 rfl ?_
    refine gw_aload_n C dX3_pack_45 2 rfl ?_
    refine gw_get C dX3_pack_46 0 2 1 rfl rfl iX3 (by decide) f16 rfl ?_
    refine gw_lt h (fun q7 hq7 h => ?_)
    refine gw_lt h (fun t8 et8 h => ?_)
    refine gP_TR (t := q6) (st2 := []) (ws' := wP cI cJ cO aP bT bR aS t8) C (run_V (rest := []) C (c_X1_copyFrom l D cI cJ cO bT bR (qT q6.1) (qR q6.1) hq7) w_X1_copyFrom 0 1 rfl rfl rfl rfl rfl (Nat.le_of_ble_eq_true rfl) dX3_pack_49 ⟨Nat.zero_le _, Nat.zero_le _⟩) (by subst et8; rfl) rfl ?_
    refine gw_iload_n C dX3_pack_52 0 rfl ?_
    refine gw_sipush (v := (1000 : Int32)) C dX3_pack_53 rfl ?_
    refine gw_iadd C dX3_pack_56 ?_
    have h := gw_some h
    have ho := Sum.inr.inj (Option.some.inj h)
    subst ho
    exact gw_iret C dX3_pack_57
set_option maxHeartbeats 4000000 in
set_option maxRecDepth 100000 in
theorem c_X3_add_T (l : Launch) (D : va_G) (cI cJ cO : ClassId) (aP : Nat) (bT bR : Nat → Nat) (aS : Nat) (t : PS)  {o : Nat × PS} (h : fP_add t = some (.inl o)) : CtT l D (tysA cI cJ cO) yX3_add wsX3_add (rmOfX 6 161) [.ref aP] (wP cI cJ cO aP bT bR aS t) (gw_xn o.1) (wP cI cJ cO aP bT bR aS o.2) := by
  refine CtT_of (own := RX3) cX3_add 2 (some .int) (by decide +kernel) rfl rfl (Nat.le_of_ble_eq_true rfl) ?_
  intro p e s m args below meth c A C XF hnm
  have iX3 : ∀ w ∈ u_ws RX3 TX3 6, w ∈ wsX3_add := fun w h => List.mem_cons_of_mem _ (List.mem_append_left _ (List.mem_append_left _ (List.mem_append_left _ (List.mem_append_left _ (List.mem_append_right _ h)))))
  have f12 : Cond.fieldLink RX3 12 (TX3 0).1 (TX3 0).2.1 (TX3 0).2.2.1 ∈ wsX3_add := List.mem_of_getElem? (i := 5) rfl
  have f16 : Cond.fieldLink RX3 16 (TX3 1).1 (TX3 1).2.1 (TX3 1).2.2.1 ∈ wsX3_add := List.mem_of_getElem? (i := 6) rfl
  have f27 : Cond.fieldLink RX3 27 (TX3 4).1 (TX3 4).2.1 (TX3 4).2.2.1 ∈ wsX3_add := List.mem_of_getElem? (i := 7) rfl
  have th1a : Cond.classLink RX3 34 (gw_xn 1) ∈ wsX3_add := List.mem_of_getElem? (i := 1) rfl
  have th1b : Cond.initialized (gw_xn 1) ∈ wsX3_add := List.mem_of_getElem? (i := 2) rfl
  have th1c : ∀ w ∈ (vx_atS RX3 38 (gw_xn 1) gw_ns).filter goodWord, w ∈ wsX3_add := fun w h => List.mem_cons_of_mem _ (List.mem_append_left _ (List.mem_append_right _ h))
  have sx52 := gw_str (tx := "the buffer is empty") XF 52 (List.mem_of_getElem? (i := 2) rfl)
  have th2a : Cond.classLink RX3 41 (gw_xn 2) ∈ wsX3_add := List.mem_of_getElem? (i := 3) rfl
  have th2b : Cond.initialized (gw_xn 2) ∈ wsX3_add := List.mem_of_getElem? (i := 4) rfl
  have th2c : ∀ w ∈ (vx_atS RX3 45 (gw_xn 2) gw_ns).filter goodWord, w ∈ wsX3_add := fun w h => List.mem_cons_of_mem _ (List.mem_append_right _ h)
  have sx66 := gw_str (tx := "the word is there already") XF 66 (List.mem_of_getElem? (i := 3) rfl)
  have sx68 := gw_str (tx := "the word is refused") XF 68 (List.mem_of_getElem? (i := 4) rfl)
  have w_X1_copyFrom := cwV (R := (rmOfX 6 161)) (rm := rmOf 3 60) (s := s) (args := args) 1 C.1.2.2.2.2 gX3_add_X1_copyFrom rfl rfl rfl hd_X1_copyFrom ⟨Nat.le_of_ble_eq_true rfl, Nat.le_of_ble_eq_true rfl⟩
  have w_X1_leafOf := cwV (R := (rmOfX 6 161)) (rm := rmOf 2 43) (s := s) (args := args) 1 C.1.2.2.2.2 gX3_add_X1_leafOf rfl rfl rfl hd_X1_leafOf ⟨Nat.le_of_ble_eq_true rfl, Nat.le_of_ble_eq_true rfl⟩
  have w_X3_saveState := cwV (R := (rmOfX 6 161)) (rm := rmOf 4 140) (s := s) (args := args) 0 C.1.2.2.2.2 gX3_add_X3_saveState rfl rfl rfl hd_X3_saveState ⟨Nat.le_of_ble_eq_true rfl, Nat.le_of_ble_eq_true rfl⟩
  have w_X3_tryToAdd := cwV (R := (rmOfX 6 161)) (rm := rmOf 5 135) (s := s) (args := args) 0 C.1.2.2.2.2 gX3_add_X3_tryToAdd rfl rfl rfl hd_X3_tryToAdd ⟨Nat.le_of_ble_eq_true rfl, Nat.le_of_ble_eq_true rfl⟩
  have h := gw_top h
  unfold fP_add at h
  show gw_G p l e (rmOfX 6 161) s m args below meth c D A (CtMT D below (gw_xn o.1) (wP cI cJ cO aP bT bR aS o.2) A args s) 2 0 0 (wP cI cJ cO aP bT bR aS t) [(0, .ref aP)] 0 []
  refine gw_aload_n C dX3_add_0 0 rfl ?_
  refine gw_bind h (fun q1 hq1 h => ?_)
  refine gw_lt h (fun t2 et2 h => ?_)
  refine gP_Q (t := t) (st2 := [.int q1.1]) (ws' := wP cI cJ cO aP bT bR aS t2) C (run_V (rest := []) C (c_X3_tryToAdd l D cI cJ cO aP bT bR aS t.1 hq1) w_X3_tryToAdd 0 2 rfl rfl rfl rfl rfl (Nat.le_of_ble_eq_true rfl) dX3_add_1 ⟨Nat.zero_le _, Nat.zero_le _⟩) (by subst et2; rfl) rfl ?_
  refine gw_istore_n C dX3_add_4 [(1, .int q1.1), (0, .ref aP)] rfl (by decide) rfl ?_
  refine gw_iload_n C dX3_add_5 0 rfl ?_
  refine gw_iconst (v := (3 : Int32)) C dX3_add_6 rfl ?_
  refine gw_icmp_ne (tgt := 20) C dX3_add_7 (by decide) h (fun c3 h => ?_) (fun c3 h => ?_)
  · have h := gw_some h
    have ho := Sum.inl.inj (Option.some.inj h)
    subst ho
    exact gw_throw (E := gw_xn 1) C XF dX3_add_10 dX3_add_13 dX3_add_14 dX3_add_16 dX3_add_19 (by decide) th1a th1b (sx52) th1c xW_1
  · refine gw_iload_n C dX3_add_20 0 rfl ?_
    refine gw_iconst (v := (1 : Int32)) C dX3_add_21 rfl ?_
    refine gw_icmp_ne (tgt := 35) C dX3_add_22 (by decide) h (fun c4 h => ?_) (fun c4 h => ?_)
    · have h := gw_some h
      have ho := Sum.inl.inj (Option.some.inj h)
      subst ho
      exact gw_throw (E := gw_xn 2) C XF dX3_add_25 dX3_add_28 dX3_add_29 dX3_add_31 dX3_add_34 (by decide) th2a th2b (sx66) th2c xW_2
    · refine gw_iload_n C dX3_add_35 0 rfl ?_
      refine gw_iconst (v := (2 : Int32)) C dX3_add_36 rfl ?_
      refine gw_icmp_ne (tgt := 50) C dX3_add_37 (by decide) h (fun c5 h => ?_) (fun c5 h => ?_)
      · have h := gw_some h
        have ho := Sum.inl.inj (Option.some.inj h)
        subst ho
        exact gw_throw (E := gw_xn 2) C XF dX3_add_40 dX3_add_43 dX3_add_44 dX3_add_46 dX3_add_49 (by decide) th2a th2b (sx68) th2c xW_2
      · refine gw_aload_n C dX3_add_50 1 rfl ?_
        refine gw_bind h (fun q6 hq6 h => ?_)
        refine gw_whole (st2 := []) C (run_V (rest := []) C (c_X3_saveState l D cI cJ cO aP bT bR aS t2 hq6) w_X3_saveState 0 2 rfl rfl rfl rfl rfl (Nat.le_of_ble_eq_true rfl) dX3_add_51 ⟨Nat.zero_le _, Nat.zero_le _⟩) rfl ?_
        refine gw_aload_n C dX3_add_54 1 rfl ?_
        refine gw_get C dX3_add_55 0 2 0 rfl rfl iX3 (by decide) f12 rfl ?_
        refine gw_aload_n C dX3_add_58 1 rfl ?_
        refine gw_get C dX3_add_59 0 2 1 rfl rfl iX3 (by decide) f16 rfl ?_
        refine gw_lt h (fun q7 hq7 h => ?_)
        refine gw_lt h (fun t8 et8 h => ?_)
        refine gP_TR (t := q6) (st2 := []) (ws' := wP cI cJ cO aP bT bR aS t8) C (run_V (rest := []) C (c_X1_copyFrom l D cI cJ cO bT bR (qT q6.1) (qR q6.1) hq7) w_X1_copyFrom 0 1 rfl rfl rfl rfl rfl (Nat.le_of_ble_eq_true rfl) dX3_add_62 ⟨Nat.zero_le _, Nat.zero_le _⟩) (by subst et8; rfl) rfl ?_
        refine gw_aload_n C dX3_add_65 1 rfl ?_
        refine gw_get C dX3_add_66 0 2 0 rfl rfl iX3 (by decide) f12 rfl ?_
        refine gw_aload_n C dX3_add_69 1 rfl ?_
        refine gw_get C dX3_add_70 0 2 4 rfl rfl iX3 (by decide) f27 rfl ?_
        refine gw_bind h (fun q9 hq9 h => ?_)
        refine gP_T (t := t8) (st2 := [.int q9]) (ws' := wP cI cJ cO aP bT bR aS t8) C (run_V (rest := []) C (c_X1_leafOf l D cI cJ cO bT (qT t8.1) (qB t8.1) hq9) w_X1_leafOf 0 1 rfl rfl rfl rfl rfl (Nat.le_of_ble_eq_true rfl) dX3_add_73 ⟨Nat.zero_le _, Nat.zero_le _⟩) rfl rfl ?_
        have h := gw_some h
        cases h
set_option maxHeartbeats 4000000 in
set_option maxRecDepth 100000 in
theorem c_X3_remove_T (l : Launch) (D : va_G) (cI cJ cO : ClassId) (aP : Nat) (bT bR : Nat → Nat) (aS : Nat) (t : PS)  {o : Nat × PS} (h : fP_remove t = some (.inl o)) : CtT l D (tysA cI cJ cO) yX3_remove wsX3_remove (rmOfX 6 161) [.ref aP] (wP cI cJ cO aP bT bR aS t) (gw_xn o.1) (wP cI cJ cO aP bT bR aS o.2) := by
  refine CtT_of (own := RX3) cX3_remove 2 (some .int) (by decide +kernel) rfl rfl (Nat.le_of_ble_eq_true rfl) ?_
  intro p e s m args below meth c A C XF hnm
  have iX3 : ∀ w ∈ u_ws RX3 TX3 6, w ∈ wsX3_remove := fun w h => List.mem_cons_of_mem _ (List.mem_append_left _ (List.mem_append_left _ (List.mem_append_left _ (List.mem_append_left _ (List.mem_append_right _ h)))))
  have f12 : Cond.fieldLink RX3 12 (TX3 0).1 (TX3 0).2.1 (TX3 0).2.2.1 ∈ wsX3_remove := List.mem_of_getElem? (i := 6) rfl
  have f27 : Cond.fieldLink RX3 27 (TX3 4).1 (TX3 4).2.1 (TX3 4).2.2.1 ∈ wsX3_remove := List.mem_of_getElem? (i := 7) rfl
  have f31 : Cond.fieldLink RX3 31 (TX3 5).1 (TX3 5).2.1 (TX3 5).2.2.1 ∈ wsX3_remove := List.mem_of_getElem? (i := 5) rfl
  have th1a : Cond.classLink RX3 34 (gw_xn 1) ∈ wsX3_remove := List.mem_of_getElem? (i := 1) rfl
  have th1b : Cond.initialized (gw_xn 1) ∈ wsX3_remove := List.mem_of_getElem? (i := 2) rfl
  have th1c : ∀ w ∈ (vx_atS RX3 38 (gw_xn 1) gw_ns).filter goodWord, w ∈ wsX3_remove := fun w h => List.mem_cons_of_mem _ (List.mem_append_left _ (List.mem_append_right _ h))
  have sx52 := gw_str (tx := "the buffer is empty") XF 52 (List.mem_of_getElem? (i := 2) rfl)
  have th2a : Cond.classLink RX3 41 (gw_xn 2) ∈ wsX3_remove := List.mem_of_getElem? (i := 3) rfl
  have th2b : Cond.initialized (gw_xn 2) ∈ wsX3_remove := List.mem_of_getElem? (i := 4) rfl
  have th2c : ∀ w ∈ (vx_atS RX3 45 (gw_xn 2) gw_ns).filter goodWord, w ∈ wsX3_remove := fun w h => List.mem_cons_of_mem _ (List.mem_append_right _ h)
  have sx81 := gw_str (tx := "the word is not there") XF 81 (List.mem_of_getElem? (i := 5) rfl)
  have w_X1_freeLeaf := cwV (R := (rmOfX 6 161)) (rm := rmOf 2 46) (s := s) (args := args) 1 C.1.2.2.2.2 gX3_remove_X1_freeLeaf rfl rfl rfl hd_X1_freeLeaf ⟨Nat.le_of_ble_eq_true rfl, Nat.le_of_ble_eq_true rfl⟩
  have w_X1_leafOf := cwV (R := (rmOfX 6 161)) (rm := rmOf 2 43) (s := s) (args := args) 1 C.1.2.2.2.2 gX3_remove_X1_leafOf rfl rfl rfl hd_X1_leafOf ⟨Nat.le_of_ble_eq_true rfl, Nat.le_of_ble_eq_true rfl⟩
  have w_X3_saveState := cwV (R := (rmOfX 6 161)) (rm := rmOf 4 140) (s := s) (args := args) 0 C.1.2.2.2.2 gX3_remove_X3_saveState rfl rfl rfl hd_X3_saveState ⟨Nat.le_of_ble_eq_true rfl, Nat.le_of_ble_eq_true rfl⟩
  have h := gw_top h
  unfold fP_remove at h
  show gw_G p l e (rmOfX 6 161) s m args below meth c D A (CtMT D below (gw_xn o.1) (wP cI cJ cO aP bT bR aS o.2) A args s) 2 0 0 (wP cI cJ cO aP bT bR aS t) [(0, .ref aP)] 0 []
  refine gw_aload_n C dX3_remove_0 0 rfl ?_
  refine gw_get C dX3_remove_1 0 2 5 rfl rfl iX3 (by decide) f31 rfl ?_
  refine gw_if_ne (tgt := 17) C dX3_remove_4 (by decide) h (fun c1 h => ?_) (fun c1 h => ?_)
  · have h := gw_some h
    have ho := Sum.inl.inj (Option.some.inj h)
    subst ho
    exact gw_throw (E := gw_xn 1) C XF dX3_remove_7 dX3_remove_10 dX3_remove_11 dX3_remove_13 dX3_remove_16 (by decide) th1a th1b (sx52) th1c xW_1
  · refine gw_aload_n C dX3_remove_17 0 rfl ?_
    refine gw_get C dX3_remove_18 0 2 0 rfl rfl iX3 (by decide) f12 rfl ?_
    refine gw_aload_n C dX3_remove_21 0 rfl ?_
    refine gw_get C dX3_remove_22 0 2 4 rfl rfl iX3 (by decide) f27 rfl ?_
    refine gw_bind h (fun q2 hq2 h => ?_)
    refine gP_T (t := t) (st2 := [.int q2]) (ws' := wP cI cJ cO aP bT bR aS t) C (run_V (rest := []) C (c_X1_leafOf l D cI cJ cO bT (qT t.1) (qB t.1) hq2) w_X1_leafOf 0 1 rfl rfl rfl rfl rfl (Nat.le_of_ble_eq_true rfl) dX3_remove_25 ⟨Nat.zero_le _, Nat.zero_le _⟩) rfl rfl ?_
    refine gw_istore_n C dX3_remove_28 [(1, .int q2), (0, .ref aP)] rfl (by decide) rfl ?_
    refine gw_iload_n C dX3_remove_29 0 rfl ?_
    refine gw_iconst (v := (-1 : Int32)) C dX3_remove_30 rfl ?_
    refine gw_icmp_ne (tgt := 44) C dX3_remove_31 (by decide) h (fun c3 h => ?_) (fun c3 h => ?_)
    · have h := gw_some h
      have ho := Sum.inl.inj (Option.some.inj h)
      subst ho
      exact gw_throw (E := gw_xn 2) C XF dX3_remove_34 dX3_remove_37 dX3_remove_38 dX3_remove_40 dX3_remove_43 (by decide) th2a th2b (sx81) th2c xW_2
    · refine gw_aload_n C dX3_remove_44 1 rfl ?_
      refine gw_bind h (fun q4 hq4 h => ?_)
      refine gw_whole (st2 := []) C (run_V (rest := []) C (c_X3_saveState l D cI cJ cO aP bT bR aS t hq4) w_X3_saveState 0 2 rfl rfl rfl rfl rfl (Nat.le_of_ble_eq_true rfl) dX3_remove_45 ⟨Nat.zero_le _, Nat.zero_le _⟩) rfl ?_
      refine gw_aload_n C dX3_remove_48 1 rfl ?_
      refine gw_get C dX3_remove_49 0 2 0 rfl rfl iX3 (by decide) f12 rfl ?_
      refine gw_iload_n C dX3_remove_52 0 rfl ?_
      refine gw_bind h (fun q5 hq5 h => ?_)
      refine gw_lt h (fun t6 et6 h => ?_)
      refine gP_T (t := q4) (st2 := [.int q5.1]) (ws' := wP cI cJ cO aP bT bR aS t6) C (run_V (rest := []) C (c_X1_freeLeaf l D cI cJ cO bT (qT q4.1) q2 hq5) w_X1_freeLeaf 0 1 rfl rfl rfl rfl rfl (Nat.le_of_ble_eq_true rfl) dX3_remove_53 ⟨Nat.zero_le _, Nat.zero_le _⟩) (by subst et6; rfl) rfl ?_
      have h := gw_some h
      cases h
set_option maxHeartbeats 4000000 in
set_option maxRecDepth 100000 in
theorem c_X3_pack_T (l : Launch) (D : va_G) (cI cJ cO : ClassId) (aP : Nat) (bT bR : Nat → Nat) (aS : Nat) (t : PS)  {o : Nat × PS} (h : fP_pack t = some (.inl o)) : CtT l D (tysA cI cJ cO) yX3_pack wsX3_pack (rmOfX 6 161) [.ref aP] (wP cI cJ cO aP bT bR aS t) (gw_xn o.1) (wP cI cJ cO aP bT bR aS o.2) := by
  refine CtT_of (own := RX3) cX3_pack 3 (some .int) (by decide +kernel) rfl rfl (Nat.le_of_ble_eq_true rfl) ?_
  intro p e s m args below meth c A C XF hnm
  have iX3 : ∀ w ∈ u_ws RX3 TX3 6, w ∈ wsX3_pack := fun w h => List.mem_cons_of_mem _ (List.mem_append_left _ (List.mem_append_left _ (List.mem_append_left _ (List.mem_append_right _ h))))
  have f12 : Cond.fieldLink RX3 12 (TX3 0).1 (TX3 0).2.1 (TX3 0).2.2.1 ∈ wsX3_pack := List.mem_of_getElem? (i := 4) rfl
  have f16 : Cond.fieldLink RX3 16 (TX3 1).1 (TX3 1).2.1 (TX3 1).2.2.1 ∈ wsX3_pack := List.mem_of_getElem? (i := 3) rfl
  have th2a : Cond.classLink RX3 41 (gw_xn 2) ∈ wsX3_pack := List.mem_of_getElem? (i := 1) rfl
  have th2b : Cond.initialized (gw_xn 2) ∈ wsX3_pack := List.mem_of_getElem? (i := 2) rfl
  have th2c : ∀ w ∈ (vx_atS RX3 45 (gw_xn 2) gw_ns).filter goodWord, w ∈ wsX3_pack := fun w h => List.mem_cons_of_mem _ (List.mem_append_right _ h)
  have sx101 := gw_str (tx := "a word would be refused") XF 101 (List.mem_of_getElem? (i := 6) rfl)
  have w_X1_copyFrom := cwV (R := (rmOfX 6 161)) (rm := rmOf 3 60) (s := s) (args := args) 1 C.1.2.2.2.2 gX3_pack_X1_copyFrom rfl rfl rfl hd_X1_copyFrom ⟨Nat.le_of_ble_eq_true rfl, Nat.le_of_ble_eq_true rfl⟩
  have w_X1_packFrom := cwV (R := (rmOfX 6 161)) (rm := rmOf 5 135) (s := s) (args := args) 1 C.1.2.2.2.2 gX3_pack_X1_packFrom rfl rfl rfl hd_X1_packFrom ⟨Nat.le_of_ble_eq_true rfl, Nat.le_of_ble_eq_true rfl⟩
  have w_X1_usedCells := cwV (R := (rmOfX 6 161)) (rm := rmOf 0 0) (s := s) (args := args) 0 C.1.2.2.2.2 gX3_pack_X1_usedCells rfl rfl rfl hd_X1_usedCells ⟨Nat.le_of_ble_eq_true rfl, Nat.le_of_ble_eq_true rfl⟩
  have w_X3_saveState := cwV (R := (rmOfX 6 161)) (rm := rmOf 4 140) (s := s) (args := args) 0 C.1.2.2.2.2 gX3_pack_X3_saveState rfl rfl rfl hd_X3_saveState ⟨Nat.le_of_ble_eq_true rfl, Nat.le_of_ble_eq_true rfl⟩
  have h := gw_top h
  unfold fP_pack at h
  show gw_G p l e (rmOfX 6 161) s m args below meth c D A (CtMT D below (gw_xn o.1) (wP cI cJ cO aP bT bR aS o.2) A args s) 3 0 0 (wP cI cJ cO aP bT bR aS t) [(0, .ref aP)] 0 []
  refine gw_aload_n C dX3_pack_0 0 rfl ?_
  refine gw_get C dX3_pack_1 0 2 1 rfl rfl iX3 (by decide) f16 rfl ?_
  refine gw_aload_n C dX3_pack_4 0 rfl ?_
  refine gw_get C dX3_pack_5 0 2 0 rfl rfl iX3 (by decide) f12 rfl ?_
  refine gw_bind h (fun q1 hq1 h => ?_)
  refine gw_lt h (fun t2 et2 h => ?_)
  refine gP_RT (t := t) (st2 := [.int q1.1]) (ws' := wP cI cJ cO aP bT bR aS t2) C (run_V (rest := []) C (c_X1_packFrom l D cI cJ cO bR bT (qR t.1) (qT t.1) hq1) w_X1_packFrom 0 1 rfl rfl rfl rfl rfl (Nat.le_of_ble_eq_true rfl) dX3_pack_8 ⟨Nat.zero_le _, Nat.zero_le _⟩) (by subst et2; rfl) rfl ?_
  refine gw_istore_n C dX3_pack_11 [(1, .int q1.1), (0, .ref aP)] rfl (by decide) rfl ?_
  refine gw_iload_n C dX3_pack_12 0 rfl ?_
  refine gw_iconst (v := (-1 : Int32)) C dX3_pack_13 rfl ?_
  refine gw_icmp_ne (tgt := 27) C dX3_pack_14 (by decide) h (fun c3 h => ?_) (fun c3 h => ?_)
  · have h := gw_some h
    have ho := Sum.inl.inj (Option.some.inj h)
    subst ho
    exact gw_throw (E := gw_xn 2) C XF dX3_pack_17 dX3_pack_20 dX3_pack_21 dX3_pack_23 dX3_pack_26 (by decide) th2a th2b (sx101) th2c xW_2
  · refine gw_aload_n C dX3_pack_27 1 rfl ?_
    refine gw_get C dX3_pack_28 0 2 0 rfl rfl iX3 (by decide) f12 rfl ?_
    refine gw_bind h (fun q4 hq4 h => ?_)
    refine gP_T (t := t2) (st2 := [.int q4]) (ws' := wP cI cJ cO aP bT bR aS t2) C (run_V (rest := []) C (c_X1_usedCells l D cI cJ cO bT (qT t2.1) hq4) w_X1_usedCells 0 1 rfl rfl rfl rfl rfl (Nat.le_of_ble_eq_true rfl) dX3_pack_31 ⟨Nat.zero_le _, Nat.zero_le _⟩) rfl rfl ?_
    refine gw_iload_n C dX3_pack_34 0 rfl ?_
    refine gw_isub C dX3_pack_35 ?_
    refine gw_lt h (fun v5 ev5 h => ?_)
    rw [ev5]
    refine gw_istore_n C dX3_pack_36 [(2, .int v5), (1, .int q1.1), (0, .ref aP)] rfl (by decide) rfl ?_
    refine gw_aload_n C dX3_pack_37 2 rfl ?_
    refine gw_bind h (fun q6 hq6 h => ?_)
    refine gw_whole (st2 := []) C (run_V (rest := []) C (c_X3_saveState l D cI cJ cO aP bT bR aS t2 hq6) w_X3_saveState 0 2 rfl rfl rfl rfl rfl (Nat.le_of_ble_eq_true rfl) dX3_pack_38 ⟨Nat.zero_le _, Nat.zero_le _⟩) rfl ?_
    refine gw_aload_n C dX3_pack_41 2 rfl ?_
    refine gw_get C dX3_pack_42 0 2 0 rfl rfl iX3 (by decide) f12 rfl ?_
    refine gw_aload_n C dX3_pack_45 2 rfl ?_
    refine gw_get C dX3_pack_46 0 2 1 rfl rfl iX3 (by decide) f16 rfl ?_
    refine gw_lt h (fun q7 hq7 h => ?_)
    refine gw_lt h (fun t8 et8 h => ?_)
    refine gP_TR (t := q6) (st2 := []) (ws' := wP cI cJ cO aP bT bR aS t8) C (run_V (rest := []) C (c_X1_copyFrom l D cI cJ cO bT bR (qT q6.1) (qR q6.1) hq7) w_X1_copyFrom 0 1 rfl rfl rfl rfl rfl (Nat.le_of_ble_eq_true rfl) dX3_pack_49 ⟨Nat.zero_le _, Nat.zero_le _⟩) (by subst et8; rfl) rfl ?_
    refine gw_iload_n C dX3_pack_52 0 rfl ?_
    refine gw_sipush (v := (1000 : Int32)) C dX3_pack_53 rfl ?_
    refine gw_iadd C dX3_pack_56 ?_
    have h := gw_some h
    cases h
