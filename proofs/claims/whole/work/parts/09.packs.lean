def fE_clear  (t : ES) : ES :=
 gw_let (sEU t (fun _ => (0 : Int32))) fun t1 =>
 gw_let (sEX t1 (fun _ => (0 : Int64))) fun t2 =>
 t2
def fT_clear  (t : TS) : Option TS :=
 (gw_lp (σ := Int32 × TS) (ω := TS) (fun x1 =>
  if (160 : Int32) ≤ x1.1 then
   some (.inl x1.2)
  else
   gw_let (fT_clearCell x1.1 x1.2) fun q3 =>
   some (.inr ((x1.1 + (1 : Int32)), q3))
 ) gw_fl ((0 : Int32), t)).bind fun v1 =>
 gw_let (sTK v1 (J_put 160 (tK v1) (0 : Int32) (1 : Int32))) fun t4 =>
 gw_let (fE_clear (tN t4)) fun q5 =>
 gw_let (sTN t4 q5) fun t6 =>
 gw_let (sTM t6 (0 : Int32)) fun t7 =>
 some t7
def fT_copyFrom  (t u : TS) : TS :=
 gw_let (sTK t (tK u)) fun t1 =>
 gw_let (sTP t1 (tP u)) fun t2 =>
 gw_let (sTB t2 (tB u)) fun t3 =>
 gw_let (sTO t3 (tO u)) fun t4 =>
 gw_let (sTE t4 (tE u)) fun t5 =>
 gw_let (sTC t5 (tC u)) fun t6 =>
 gw_let (sTW t6 (tW u)) fun t7 =>
 gw_let (sTN t7 (tN u)) fun t8 =>
 gw_let (sTM t8 (tM u)) fun t9 =>
 t9
def fT_packFrom  (t u : TS) : Option (Int32 × TS) :=
 (fT_clear t).bind fun q1 =>
 gw_let (sTM q1 (tM u)) fun t2 =>
 gw_let (fT_words u) fun v3 =>
 gw_lp (σ := Int32 × TS) (ω := (Int32 × TS)) (fun x4 =>
  if v3 ≤ x4.1 then
   (fT_usedCells x4.2).bind fun q6 =>
   some (.inl (q6, x4.2))
  else
   (fT_wordAt x4.1 u).bind fun q7 =>
   (fT_insert q7 x4.2).bind fun q8 =>
   if q8.1 = (-1 : Int32) then
    some (.inl ((-1 : Int32), q8.2))
   else
    some (.inr ((x4.1 + (1 : Int32)), q8.2))
 ) gw_fl ((0 : Int32), t2)
theorem hd_X0_clear : yX0_clear.cls = RX0 ∧ yX0_clear.cls ≠ "java/lang/invoke/MethodHandle" ∧ yX0_clear.cls ≠ "java/lang/invoke/VarHandle" ∧ (parseMethodDescriptor yX0_clear.desc).map (fun d => d.parameters.length) = some 0 := by decide +kernel
set_option maxHeartbeats 4000000 in
set_option maxRecDepth 100000 in
theorem c_X0_clear (l : Launch) (D : va_G) (cI cJ cO : ClassId) (e0 e1 e2 : Nat) (t : ES)  {o : ES} (h : fE_clear t = o) : Ct l D (tysA cI cJ cO) yX0_clear wsX0_clear (rmOf 1 24) [.ref e0] (wE cI cJ e0 e1 e2 t) none (wE cI cJ e0 e1 e2 o) := by
  refine Ct_of (own := RX0) cX0_clear 1 none (by decide +kernel) rfl rfl (Nat.le_of_ble_eq_true rfl) ?_
  intro p e s m args below meth c A C hnm
  have iX0 : ∀ w ∈ u_ws RX0 TX0 2, w ∈ wsX0_clear := fun w h => List.mem_cons_of_mem _ (List.mem_append_right _ h)
  have f9 : Cond.fieldLink RX0 9 (TX0 0).1 (TX0 0).2.1 (TX0 0).2.2.1 ∈ wsX0_clear := List.mem_of_getElem? (i := 1) rfl
  have f15 : Cond.fieldLink RX0 15 (TX0 1).1 (TX0 1).2.1 (TX0 1).2.2.1 ∈ wsX0_clear := List.mem_of_getElem? (i := 2) rfl
  have w_J7_fill_53178 := va_cwS (R := (rmOf 1 24)) (rm := rmOf 0 0) (s := s) (args := args) 2 C.1.2.2.2.2 gX0_clear_J7_fill_53178 rfl rfl rfl hd_J7_fill_53178.2 ⟨Nat.le_of_ble_eq_true rfl, Nat.le_of_ble_eq_true rfl⟩
  have w_J7_fill_d0a16 := va_cwS (R := (rmOf 1 24)) (rm := rmOf 0 0) (s := s) (args := args) 2 C.1.2.2.2.2 gX0_clear_J7_fill_d0a16 rfl rfl rfl hd_J7_fill_d0a16.2 ⟨Nat.le_of_ble_eq_true rfl, Nat.le_of_ble_eq_true rfl⟩
  have h : Rt o (fE_clear t) := h
  unfold fE_clear at h
  show gw_G p l e (rmOf 1 24) s m args below meth c D A (CtM D below none (wE cI cJ e0 e1 e2 o) A args s) 1 0 0 (wE cI cJ e0 e1 e2 t) [(0, .ref e0)] 0 []
  refine gw_aload_n C dX0_clear_0 0 rfl ?_
  refine gw_get C dX0_clear_1 0 0 0 rfl rfl iX0 (by decide) f9 rfl ?_
  refine gw_iconst (v := (0 : Int32)) C dX0_clear_4 rfl ?_
  refine gw_lt h (fun t1 et1 h => ?_)
  refine gw_one (st2 := []) (ws' := wE cI cJ e0 e1 e2 t1) C 1 rfl (run_S (rest := []) C (c_J7_fill_53178 l D cI cJ cO e1 40 (eU t) (0 : Int32) (by decide)) w_J7_fill_53178 rfl rfl (Nat.le_of_ble_eq_true rfl) dX0_clear_5 ⟨Nat.zero_le _, Nat.zero_le _⟩) (by subst et1; rfl) rfl ?_
  refine gw_aload_n C dX0_clear_8 0 rfl ?_
  refine gw_get C dX0_clear_9 0 0 1 rfl rfl iX0 (by decide) f15 rfl ?_
  refine gw_lconst (v := (0 : Int64)) C dX0_clear_12 rfl ?_
  refine gw_lt h (fun t2 et2 h => ?_)
  refine gw_one (st2 := []) (ws' := wE cI cJ e0 e1 e2 t2) C 2 rfl (run_S (rest := []) C (c_J7_fill_d0a16 l D cI cJ cO e2 40 (eX t1) (0 : Int64) (by decide)) w_J7_fill_d0a16 rfl rfl (Nat.le_of_ble_eq_true rfl) dX0_clear_13 ⟨Nat.zero_le _, Nat.zero_le _⟩) (by subst et2; rfl) rfl ?_
  have ho : _ = o := h
  subst ho
  exact gw_vret C dX0_clear_16
theorem hd_X1_clear : yX1_clear.cls = RX1 ∧ yX1_clear.cls ≠ "java/lang/invoke/MethodHandle" ∧ yX1_clear.cls ≠ "java/lang/invoke/VarHandle" ∧ (parseMethodDescriptor yX1_clear.desc).map (fun d => d.parameters.length) = some 0 := by decide +kernel
set_option maxHeartbeats 4000000 in
set_option maxRecDepth 100000 in
theorem c_X1_clear (l : Launch) (D : va_G) (cI cJ cO : ClassId) (b : Nat → Nat) (t : TS)  {o : TS} (h : fT_clear t = some o) : Ct l D (tysA cI cJ cO) yX1_clear wsX1_clear (rmOf 2 44) [.ref (b 0)] (wT cI cJ b t) none (wT cI cJ b o) := by
  refine Ct_of (own := RX1) cX1_clear 2 none (by decide +kernel) rfl rfl (Nat.le_of_ble_eq_true rfl) ?_
  intro p e s m args below meth c A C hnm
  have iX1 : ∀ w ∈ u_ws RX1 TX1 9, w ∈ wsX1_clear := fun w h => List.mem_cons_of_mem _ (List.mem_append_left _ (List.mem_append_right _ h))
  have f12 : Cond.fieldLink RX1 12 (TX1 0).1 (TX1 0).2.1 (TX1 0).2.2.1 ∈ wsX1_clear := List.mem_of_getElem? (i := 2) rfl
  have f18 : Cond.fieldLink RX1 18 (TX1 1).1 (TX1 1).2.1 (TX1 1).2.2.1 ∈ wsX1_clear := List.mem_of_getElem? (i := 1) rfl
  have f40 : Cond.fieldLink RX1 40 (TX1 8).1 (TX1 8).2.1 (TX1 8).2.2.1 ∈ wsX1_clear := List.mem_of_getElem? (i := 3) rfl
  have w_X0_clear := cwV (R := (rmOf 2 44)) (rm := rmOf 1 24) (s := s) (args := args) 0 C.1.2.2.2.2 gX1_clear_X0_clear rfl rfl rfl hd_X0_clear ⟨Nat.le_of_ble_eq_true rfl, Nat.le_of_ble_eq_true rfl⟩
  have w_X1_clearCell := cwV (R := (rmOf 2 44)) (rm := rmOf 1 22) (s := s) (args := args) 1 C.1.2.2.2.2 gX1_clear_X1_clearCell rfl rfl rfl hd_X1_clearCell ⟨Nat.le_of_ble_eq_true rfl, Nat.le_of_ble_eq_true rfl⟩
  have n_X3_put := gw_cn (R := (rmOf 2 44)) (rm := rmOf 0 0) (index := 50) (n := 3) C gX1_clear_X3_put_n50 rfl rfl rfl (by simp [nestW]) (List.mem_of_getElem? (i := 16) rfl) (List.mem_of_getElem? (i := 15) rfl) hd_X3_put.2 ⟨Nat.le_of_ble_eq_true rfl, Nat.le_of_ble_eq_true rfl⟩
  have h := gw_top h
  unfold fT_clear at h
  show gw_G p l e (rmOf 2 44) s m args below meth c D A (CtM D below none (wT cI cJ b o) A args s) 2 0 0 (wT cI cJ b t) [(0, .ref (b 0))] 0 []
  refine gw_iconst (v := (0 : Int32)) C dX1_clear_0 rfl ?_
  refine gw_istore_n C dX1_clear_1 [(1, .int (0 : Int32)), (0, .ref (b 0))] rfl (by decide) rfl ?_
  refine gw_sub [1, 0] rfl ?_
  refine gw_lpb (x0 := ((0 : Int32), t)) (Go := fun x1 : Int32 × TS => gw_G p l e (rmOf 2 44) s m args below meth c D A (CtM D below none (wT cI cJ b o) A args s) 2 0 0 (wT cI cJ b x1.2) [(0, .ref (b 0)), (1, .int x1.1)] 2 []) (GoX := fun v1 : TS => gw_G p l e (rmOf 2 44) s m args below meth c D A (CtM D below none (wT cI cJ b o) A args s) 2 0 0 (wT cI cJ b v1) [(0, .ref (b 0))] 20 []) h (fun v1 h => ?_) (fun x1 K1 X1 I1 h => ?_)
  · refine gw_aload_n C dX1_clear_20 0 rfl ?_
    refine gw_get C dX1_clear_21 0 1 1 rfl rfl iX1 (by decide) f18 rfl ?_
    refine gw_iconst (v := (0 : Int32)) C dX1_clear_24 rfl ?_
    refine gw_iconst (v := (1 : Int32)) C dX1_clear_25 rfl ?_
    refine gw_lt h (fun t4 et4 h => ?_)
    refine gw_one (st2 := []) (ws' := wT cI cJ b t4) C 1 rfl (run_SN (rest := []) C (c_X3_put l D cI cJ cO (b 1) 160 (tK v1) (0 : Int32) (1 : Int32) (by decide)) n_X3_put rfl rfl (Nat.le_of_ble_eq_true rfl) dX1_clear_26 ⟨Nat.zero_le _, Nat.zero_le _⟩) (by subst et4; rfl) rfl ?_
    refine gw_aload_n C dX1_clear_29 0 rfl ?_
    refine gw_get C dX1_clear_30 0 1 0 rfl rfl iX1 (by decide) f12 rfl ?_
    refine gw_lt h (fun q5 hq5 h => ?_)
    refine gw_lt h (fun t6 et6 h => ?_)
    refine gw_sub_call (st2 := []) (ws' := wT cI cJ b t6) C [8, 9, 10] [0, 1, 2, 3, 4, 5, 6, 7] [0, 1, 2, 3, 4, 5, 6, 7, 8, 9, 10] rfl rfl rfl rfl (by decide) (by subst et6; rfl) rfl (run_V (rest := []) C (c_X0_clear l D cI cJ cO (b 8) (b 9) (b 10) (tN t4) hq5) w_X0_clear 0 0 rfl rfl rfl rfl rfl (Nat.le_of_ble_eq_true rfl) dX1_clear_33 ⟨Nat.zero_le _, Nat.zero_le _⟩) rfl ?_
    refine gw_aload_n C dX1_clear_36 0 rfl ?_
    refine gw_iconst (v := (0 : Int32)) C dX1_clear_37 rfl ?_
    refine gw_lt h (fun t7 et7 h => ?_)
    refine gw_put (ws' := wT cI cJ b t7) (ty := .int) C dX1_clear_38 0 1 8 tyX1 tyX1_ok nmX1 rfl rfl iX1 (by decide) f40 rfl (tyX1_ok 8 (by decide)) rfl rfl (Nat.le_of_ble_eq_true rfl) (by subst et7; rfl) ?_
    have h := gw_some h
    have ho := Option.some.inj h
    subst ho
    exact gw_vret C dX1_clear_41
  · refine gw_iload_n C dX1_clear_2 1 rfl ?_
    refine gw_sipush (v := (160 : Int32)) C dX1_clear_3 rfl ?_
    refine gw_icmp_ge (tgt := 20) C dX1_clear_6 (by decide) h (fun c2 h => ?_) (fun c2 h => ?_)
    · refine gw_sub [0] rfl ?_
      have h := gw_some h
      exact X1 _ h
    · refine gw_aload_n C dX1_clear_9 0 rfl ?_
      refine gw_iload_n C dX1_clear_10 1 rfl ?_
      refine gw_lt h (fun q3 hq3 h => ?_)
      refine gw_whole (st2 := []) C (run_V (rest := []) C (c_X1_clearCell l D cI cJ cO b x1.2 x1.1 hq3) w_X1_clearCell 0 1 rfl rfl rfl rfl rfl (Nat.le_of_ble_eq_true rfl) dX1_clear_11 ⟨Nat.zero_le _, Nat.zero_le _⟩) rfl ?_
      refine gw_iinc (v := (x1.1 + (1 : Int32))) C dX1_clear_14 [(1, .int (x1.1 + (1 : Int32))), (0, .ref (b 0))] 1 rfl rfl (by decide) rfl ?_
      refine gw_goto (tgt := 2) C dX1_clear_17 (by decide) ?_
      refine gw_sub [1, 0] rfl ?_
      have h := gw_some h
      exact I1 _ h
theorem hd_X1_copyFrom : yX1_copyFrom.cls = RX1 ∧ yX1_copyFrom.cls ≠ "java/lang/invoke/MethodHandle" ∧ yX1_copyFrom.cls ≠ "java/lang/invoke/VarHandle" ∧ (parseMethodDescriptor yX1_copyFrom.desc).map (fun d => d.parameters.length) = some 1 := by decide +kernel
set_option maxHeartbeats 4000000 in
set_option maxRecDepth 100000 in
theorem c_X1_copyFrom (l : Launch) (D : va_G) (cI cJ cO : ClassId) (b d : Nat → Nat) (t u : TS)  {o : TS} (h : fT_copyFrom t u = o) : Ct l D (tysA cI cJ cO) yX1_copyFrom wsX1_copyFrom (rmOf 3 60) [.ref (b 0), .ref (d 0)] (wT cI cJ b t ++ wT cI cJ d u) none (wT cI cJ b o ++ wT cI cJ d u) := by
  refine Ct_of (own := RX1) cX1_copyFrom 2 none (by decide +kernel) rfl rfl (Nat.le_of_ble_eq_true rfl) ?_
  intro p e s m args below meth c A C hnm
  have iX1 : ∀ w ∈ u_ws RX1 TX1 9, w ∈ wsX1_copyFrom := fun w h => List.mem_cons_of_mem _ (List.mem_append_left _ (List.mem_append_right _ h))
  have f12 : Cond.fieldLink RX1 12 (TX1 0).1 (TX1 0).2.1 (TX1 0).2.2.1 ∈ wsX1_copyFrom := List.mem_of_getElem? (i := 8) rfl
  have f18 : Cond.fieldLink RX1 18 (TX1 1).1 (TX1 1).2.1 (TX1 1).2.2.1 ∈ wsX1_copyFrom := List.mem_of_getElem? (i := 1) rfl
  have f22 : Cond.fieldLink RX1 22 (TX1 2).1 (TX1 2).2.1 (TX1 2).2.2.1 ∈ wsX1_copyFrom := List.mem_of_getElem? (i := 2) rfl
  have f25 : Cond.fieldLink RX1 25 (TX1 3).1 (TX1 3).2.1 (TX1 3).2.2.1 ∈ wsX1_copyFrom := List.mem_of_getElem? (i := 3) rfl
  have f28 : Cond.fieldLink RX1 28 (TX1 4).1 (TX1 4).2.1 (TX1 4).2.2.1 ∈ wsX1_copyFrom := List.mem_of_getElem? (i := 4) rfl
  have f31 : Cond.fieldLink RX1 31 (TX1 5).1 (TX1 5).2.1 (TX1 5).2.2.1 ∈ wsX1_copyFrom := List.mem_of_getElem? (i := 5) rfl
  have f34 : Cond.fieldLink RX1 34 (TX1 6).1 (TX1 6).2.1 (TX1 6).2.2.1 ∈ wsX1_copyFrom := List.mem_of_getElem? (i := 6) rfl
  have f37 : Cond.fieldLink RX1 37 (TX1 7).1 (TX1 7).2.1 (TX1 7).2.2.1 ∈ wsX1_copyFrom := List.mem_of_getElem? (i := 7) rfl
  have f40 : Cond.fieldLink RX1 40 (TX1 8).1 (TX1 8).2.1 (TX1 8).2.2.1 ∈ wsX1_copyFrom := List.mem_of_getElem? (i := 9) rfl
  have w_X0_copyFrom := cwV (R := (rmOf 3 60)) (rm := rmOf 2 39) (s := s) (args := args) 1 C.1.2.2.2.2 gX1_copyFrom_X0_copyFrom rfl rfl rfl hd_X0_copyFrom ⟨Nat.le_of_ble_eq_true rfl, Nat.le_of_ble_eq_true rfl⟩
  have n_X3_copyRow := gw_cn (R := (rmOf 3 60)) (rm := rmOf 1 18) (index := 61) (n := 2) C gX1_copyFrom_X3_copyRow_n61 rfl rfl rfl (by simp [nestW]) (List.mem_of_getElem? (i := 11) rfl) (List.mem_of_getElem? (i := 10) rfl) hd_X3_copyRow.2 ⟨Nat.le_of_ble_eq_true rfl, Nat.le_of_ble_eq_true rfl⟩
  have h : Rt o (fT_copyFrom t u) := h
  unfold fT_copyFrom at h
  show gw_G p l e (rmOf 3 60) s m args below meth c D A (CtM D below none (wT cI cJ b o ++ wT cI cJ d u) A args s) 2 0 0 (wT cI cJ b t ++ wT cI cJ d u) [(0, .ref (b 0)), (1, .ref (d 0))] 0 []
  refine gw_aload_n C dX1_copyFrom_0 1 rfl ?_
  refine gw_get C dX1_copyFrom_1 11 1 1 rfl rfl iX1 (by decide) f18 rfl ?_
  refine gw_aload_n C dX1_copyFrom_4 0 rfl ?_
  refine gw_get C dX1_copyFrom_5 0 1 1 rfl rfl iX1 (by decide) f18 rfl ?_
  refine gw_lt h (fun t1 et1 h => ?_)
  refine gw_sub_call (st2 := []) (ws' := wT cI cJ b t1 ++ wT cI cJ d u) C [12, 1] [0, 2, 3, 4, 5, 6, 7, 8, 9, 10, 11, 13, 14, 15, 16, 17, 18, 19, 20, 21] [0, 21, 1, 2, 3, 4, 5, 6, 7, 8, 9, 10, 20, 11, 12, 13, 14, 15, 16, 17, 18, 19] rfl rfl rfl rfl (by decide) (by subst et1; rfl) rfl (run_SN (rest := []) C (c_X3_copyRow l D cI cJ cO (d 1) (b 1) 160 (tK u) (tK t) (by decide)) n_X3_copyRow rfl rfl (Nat.le_of_ble_eq_true rfl) dX1_copyFrom_8 ⟨Nat.zero_le _, Nat.zero_le _⟩) rfl ?_
  refine gw_aload_n C dX1_copyFrom_11 1 rfl ?_
  refine gw_get C dX1_copyFrom_12 11 1 2 rfl rfl iX1 (by decide) f22 rfl ?_
  refine gw_aload_n C dX1_copyFrom_15 0 rfl ?_
  refine gw_get C dX1_copyFrom_16 0 1 2 rfl rfl iX1 (by decide) f22 rfl ?_
  refine gw_lt h (fun t2 et2 h => ?_)
  refine gw_sub_call (st2 := []) (ws' := wT cI cJ b t2 ++ wT cI cJ d u) C [13, 2] [0, 1, 3, 4, 5, 6, 7, 8, 9, 10, 11, 12, 14, 15, 16, 17, 18, 19, 20, 21] [0, 1, 21, 2, 3, 4, 5, 6, 7, 8, 9, 10, 11, 20, 12, 13, 14, 15, 16, 17, 18, 19] rfl rfl rfl rfl (by decide) (by subst et2; rfl) rfl (run_SN (rest := []) C (c_X3_copyRow l D cI cJ cO (d 2) (b 2) 160 (tP u) (tP t1) (by decide)) n_X3_copyRow rfl rfl (Nat.le_of_ble_eq_true rfl) dX1_copyFrom_19 ⟨Nat.zero_le _, Nat.zero_le _⟩) rfl ?_
  refine gw_aload_n C dX1_copyFrom_22 1 rfl ?_
  refine gw_get C dX1_copyFrom_23 11 1 3 rfl rfl iX1 (by decide) f25 rfl ?_
  refine gw_aload_n C dX1_copyFrom_26 0 rfl ?_
  refine gw_get C dX1_copyFrom_27 0 1 3 rfl rfl iX1 (by decide) f25 rfl ?_
  refine gw_lt h (fun t3 et3 h => ?_)
  refine gw_sub_call (st2 := []) (ws' := wT cI cJ b t3 ++ wT cI cJ d u) C [14, 3] [0, 1, 2, 4, 5, 6, 7, 8, 9, 10, 11, 12, 13, 15, 16, 17, 18, 19, 20, 21] [0, 1, 2, 21, 3, 4, 5, 6, 7, 8, 9, 10, 11, 12, 20, 13, 14, 15, 16, 17, 18, 19] rfl rfl rfl rfl (by decide) (by subst et3; rfl) rfl (run_SN (rest := []) C (c_X3_copyRow l D cI cJ cO (d 3) (b 3) 160 (tB u) (tB t2) (by decide)) n_X3_copyRow rfl rfl (Nat.le_of_ble_eq_true rfl) dX1_copyFrom_30 ⟨Nat.zero_le _, Nat.zero_le _⟩) rfl ?_
  refine gw_aload_n C dX1_copyFrom_33 1 rfl ?_
  refine gw_get C dX1_copyFrom_34 11 1 4 rfl rfl iX1 (by decide) f28 rfl ?_
  refine gw_aload_n C dX1_copyFrom_37 0 rfl ?_
  refine gw_get C dX1_copyFrom_38 0 1 4 rfl rfl iX1 (by decide) f28 rfl ?_
  refine gw_lt h (fun t4 et4 h => ?_)
  refine gw_sub_call (st2 := []) (ws' := wT cI cJ b t4 ++ wT cI cJ d u) C [15, 4] [0, 1, 2, 3, 5, 6, 7, 8, 9, 10, 11, 12, 13, 14, 16, 17, 18, 19, 20, 21] [0, 1, 2, 3, 21, 4, 5, 6, 7, 8, 9, 10, 11, 12, 13, 20, 14, 15, 16, 17, 18, 19] rfl rfl rfl rfl (by decide) (by subst et4; rfl) rfl (run_SN (rest := []) C (c_X3_copyRow l D cI cJ cO (d 4) (b 4) 160 (tO u) (tO t3) (by decide)) n_X3_copyRow rfl rfl (Nat.le_of_ble_eq_true rfl) dX1_copyFrom_41 ⟨Nat.zero_le _, Nat.zero_le _⟩) rfl ?_
  refine gw_aload_n C dX1_copyFrom_44 1 rfl ?_
  refine gw_get C dX1_copyFrom_45 11 1 5 rfl rfl iX1 (by decide) f31 rfl ?_
  refine gw_aload_n C dX1_copyFrom_48 0 rfl ?_
  refine gw_get C dX1_copyFrom_49 0 1 5 rfl rfl iX1 (by decide) f31 rfl ?_
  refine gw_lt h (fun t5 et5 h => ?_)
  refine gw_sub_call (st2 := []) (ws' := wT cI cJ b t5 ++ wT cI cJ d u) C [16, 5] [0, 1, 2, 3, 4, 6, 7, 8, 9, 10, 11, 12, 13, 14, 15, 17, 18, 19, 20, 21] [0, 1, 2, 3, 4, 21, 5, 6, 7, 8, 9, 10, 11, 12, 13, 14, 20, 15, 16, 17, 18, 19] rfl rfl rfl rfl (by decide) (by subst et5; rfl) rfl (run_SN (rest := []) C (c_X3_copyRow l D cI cJ cO (d 5) (b 5) 160 (tE u) (tE t4) (by decide)) n_X3_copyRow rfl rfl (Nat.le_of_ble_eq_true rfl) dX1_copyFrom_52 ⟨Nat.zero_le _, Nat.zero_le _⟩) rfl ?_
  refine gw_aload_n C dX1_copyFrom_55 1 rfl ?_
  refine gw_get C dX1_copyFrom_56 11 1 6 rfl rfl iX1 (by decide) f34 rfl ?_
  refine gw_aload_n C dX1_copyFrom_59 0 rfl ?_
  refine gw_get C dX1_copyFrom_60 0 1 6 rfl rfl iX1 (by decide) f34 rfl ?_
  refine gw_lt h (fun t6 et6 h => ?_)
  refine gw_sub_call (st2 := []) (ws' := wT cI cJ b t6 ++ wT cI cJ d u) C [17, 6] [0, 1, 2, 3, 4, 5, 7, 8, 9, 10, 11, 12, 13, 14, 15, 16, 18, 19, 20, 21] [0, 1, 2, 3, 4, 5, 21, 6, 7, 8, 9, 10, 11, 12, 13, 14, 15, 20, 16, 17, 18, 19] rfl rfl rfl rfl (by decide) (by subst et6; rfl) rfl (run_SN (rest := []) C (c_X3_copyRow l D cI cJ cO (d 6) (b 6) 160 (tC u) (tC t5) (by decide)) n_X3_copyRow rfl rfl (Nat.le_of_ble_eq_true rfl) dX1_copyFrom_63 ⟨Nat.zero_le _, Nat.zero_le _⟩) rfl ?_
  refine gw_aload_n C dX1_copyFrom_66 1 rfl ?_
  refine gw_get C dX1_copyFrom_67 11 1 7 rfl rfl iX1 (by decide) f37 rfl ?_
  refine gw_aload_n C dX1_copyFrom_70 0 rfl ?_
  refine gw_get C dX1_copyFrom_71 0 1 7 rfl rfl iX1 (by decide) f37 rfl ?_
  refine gw_lt h (fun t7 et7 h => ?_)
  refine gw_sub_call (st2 := []) (ws' := wT cI cJ b t7 ++ wT cI cJ d u) C [18, 7] [0, 1, 2, 3, 4, 5, 6, 8, 9, 10, 11, 12, 13, 14, 15, 16, 17, 19, 20, 21] [0, 1, 2, 3, 4, 5, 6, 21, 7, 8, 9, 10, 11, 12, 13, 14, 15, 16, 20, 17, 18, 19] rfl rfl rfl rfl (by decide) (by subst et7; rfl) rfl (run_SN (rest := []) C (c_X3_copyRow l D cI cJ cO (d 7) (b 7) 160 (tW u) (tW t6) (by decide)) n_X3_copyRow rfl rfl (Nat.le_of_ble_eq_true rfl) dX1_copyFrom_74 ⟨Nat.zero_le _, Nat.zero_le _⟩) rfl ?_
  refine gw_aload_n C dX1_copyFrom_77 0 rfl ?_
  refine gw_get C dX1_copyFrom_78 0 1 0 rfl rfl iX1 (by decide) f12 rfl ?_
  refine gw_aload_n C dX1_copyFrom_81 1 rfl ?_
  refine gw_get C dX1_copyFrom_82 11 1 0 rfl rfl iX1 (by decide) f12 rfl ?_
  refine gw_lt h (fun t8 et8 h => ?_)
  refine gw_sub_call (st2 := []) (ws' := wT cI cJ b t8 ++ wT cI cJ d u) C [8, 9, 10, 19, 20, 21] [0, 1, 2, 3, 4, 5, 6, 7, 11, 12, 13, 14, 15, 16, 17, 18] [0, 1, 2, 3, 4, 5, 6, 7, 16, 17, 18, 8, 9, 10, 11, 12, 13, 14, 15, 19, 20, 21] rfl rfl rfl rfl (by decide) (by subst et8; rfl) rfl (run_V (rest := []) C (c_X0_copyFrom l D cI cJ cO (b 8) (b 9) (b 10) (d 8) (d 9) (d 10) (tN t7) (tN u)) w_X0_copyFrom 0 0 rfl rfl rfl rfl rfl (Nat.le_of_ble_eq_true rfl) dX1_copyFrom_85 ⟨Nat.zero_le _, Nat.zero_le _⟩) rfl ?_
  refine gw_aload_n C dX1_copyFrom_88 0 rfl ?_
  refine gw_aload_n C dX1_copyFrom_89 1 rfl ?_
  refine gw_get C dX1_copyFrom_90 11 1 8 rfl rfl iX1 (by decide) f40 rfl ?_
  refine gw_lt h (fun t9 et9 h => ?_)
  refine gw_put (ws' := wT cI cJ b t9 ++ wT cI cJ d u) (ty := .int) C dX1_copyFrom_93 0 1 8 tyX1 tyX1_ok nmX1 rfl rfl iX1 (by decide) f40 rfl (tyX1_ok 8 (by decide)) rfl rfl (Nat.le_of_ble_eq_true rfl) (by subst et9; rfl) ?_
  have ho : _ = o := h
  subst ho
  exact gw_vret C dX1_copyFrom_96
theorem hd_X1_packFrom : yX1_packFrom.cls = RX1 ∧ yX1_packFrom.cls ≠ "java/lang/invoke/MethodHandle" ∧ yX1_packFrom.cls ≠ "java/lang/invoke/VarHandle" ∧ (parseMethodDescriptor yX1_packFrom.desc).map (fun d => d.parameters.length) = some 1 := by decide +kernel
set_option maxHeartbeats 4000000 in
set_option maxRecDepth 100000 in
theorem c_X1_packFrom (l : Launch) (D : va_G) (cI cJ cO : ClassId) (b d : Nat → Nat) (t u : TS)  {o : Int32 × TS} (h : fT_packFrom t u = some o) : Ct l D (tysA cI cJ cO) yX1_packFrom wsX1_packFrom (rmOf 5 135) [.ref (b 0), .ref (d 0)] (wT cI cJ b t ++ wT cI cJ d u) (some (.int o.1)) (wT cI cJ b o.2 ++ wT cI cJ d u) := by
  refine Ct_of (own := RX1) cX1_packFrom 4 (some .int) (by decide +kernel) rfl rfl (Nat.le_of_ble_eq_true rfl) ?_
  intro p e s m args below meth c A C hnm
  have iX1 : ∀ w ∈ u_ws RX1 TX1 9, w ∈ wsX1_packFrom := fun w h => List.mem_cons_of_mem _ (List.mem_append_left _ (List.mem_append_right _ h))
  have f40 : Cond.fieldLink RX1 40 (TX1 8).1 (TX1 8).2.1 (TX1 8).2.2.1 ∈ wsX1_packFrom := List.mem_of_getElem? (i := 1) rfl
  have w_X1_clear := cwV (R := (rmOf 5 135)) (rm := rmOf 2 44) (s := s) (args := args) 0 C.1.2.2.2.2 gX1_packFrom_X1_clear rfl rfl rfl hd_X1_clear ⟨Nat.le_of_ble_eq_true rfl, Nat.le_of_ble_eq_true rfl⟩
  have w_X1_insert := cwV (R := (rmOf 5 135)) (rm := rmOf 4 107) (s := s) (args := args) 1 C.1.2.2.2.2 gX1_packFrom_X1_insert rfl rfl rfl hd_X1_insert ⟨Nat.le_of_ble_eq_true rfl, Nat.le_of_ble_eq_true rfl⟩
  have w_X1_usedCells := cwV (R := (rmOf 5 135)) (rm := rmOf 0 0) (s := s) (args := args) 0 C.1.2.2.2.2 gX1_packFrom_X1_usedCells rfl rfl rfl hd_X1_usedCells ⟨Nat.le_of_ble_eq_true rfl, Nat.le_of_ble_eq_true rfl⟩
  have w_X1_wordAt := cwV (R := (rmOf 5 135)) (rm := rmOf 3 69) (s := s) (args := args) 1 C.1.2.2.2.2 gX1_packFrom_X1_wordAt rfl rfl rfl hd_X1_wordAt ⟨Nat.le_of_ble_eq_true rfl, Nat.le_of_ble_eq_true rfl⟩
  have w_X1_words := cwV (R := (rmOf 5 135)) (rm := rmOf 1 21) (s := s) (args := args) 0 C.1.2.2.2.2 gX1_packFrom_X1_words rfl rfl rfl hd_X1_words ⟨Nat.le_of_ble_eq_true rfl, Nat.le_of_ble_eq_true rfl⟩
  have h := gw_top h
  unfold fT_packFrom at h
  show gw_G p l e (rmOf 5 135) s m args below meth c D A (CtM D below (some (.int o.1)) (wT cI cJ b o.2 ++ wT cI cJ d u) A args s) 4 0 0 (wT cI cJ b t ++ wT cI cJ d u) [(0, .ref (b 0)), (1, .ref (d 0))] 0 []
  refine gw_aload_n C dX1_packFrom_0 0 rfl ?_
  refine gw_bind h (fun q1 hq1 h => ?_)
  refine gw_sub_call (st2 := []) (ws' := wT cI cJ b q1 ++ wT cI cJ d u) C [0, 1, 2, 3, 4, 5, 6, 7, 8, 9, 10] [11, 12, 13, 14, 15, 16, 17, 18, 19, 20, 21] [11, 12, 13, 14, 15, 16, 17, 18, 19, 20, 21, 0, 1, 2, 3, 4, 5, 6, 7, 8, 9, 10] rfl rfl rfl rfl (by decide) rfl rfl (run_V (rest := []) C (c_X1_clear l D cI cJ cO b t hq1) w_X1_clear 0 1 rfl rfl rfl rfl rfl (Nat.le_of_ble_eq_true rfl) dX1_packFrom_1 ⟨Nat.zero_le _, Nat.zero_le _⟩) rfl ?_
  refine gw_aload_n C dX1_packFrom_4 0 rfl ?_
  refine gw_aload_n C dX1_packFrom_5 1 rfl ?_
  refine gw_get C dX1_packFrom_6 11 1 8 rfl rfl iX1 (by decide) f40 rfl ?_
  refine gw_lt h (fun t2 et2 h => ?_)
  refine gw_put (ws' := wT cI cJ b t2 ++ wT cI cJ d u) (ty := .int) C dX1_packFrom_9 0 1 8 tyX1 tyX1_ok nmX1 rfl rfl iX1 (by decide) f40 rfl (tyX1_ok 8 (by decide)) rfl rfl (Nat.le_of_ble_eq_true rfl) (by subst et2; rfl) ?_
  refine gw_aload_n C dX1_packFrom_12 1 rfl ?_
  refine gw_sub_call (st2 := [.int (fT_words u)]) (ws' := wT cI cJ b t2 ++ wT cI cJ d u) C [11, 12, 13, 14, 15, 16, 17, 18, 19, 20, 21] [0, 1, 2, 3, 4, 5, 6, 7, 8, 9, 10] [0, 1, 2, 3, 4, 5, 6, 7, 8, 9, 10, 11, 12, 13, 14, 15, 16, 17, 18, 19, 20, 21] rfl rfl rfl rfl (by decide) rfl rfl (run_V (rest := []) C (c_X1_words l D cI cJ cO d u rfl) w_X1_words 0 1 rfl rfl rfl rfl rfl (Nat.le_of_ble_eq_true rfl) dX1_packFrom_13 ⟨Nat.zero_le _, Nat.zero_le _⟩) rfl ?_
  refine gw_lt h (fun v3 ev3 h => ?_)
  rw [ev3]
  refine gw_istore_n C dX1_packFrom_16 [(2, .int v3), (0, .ref (b 0)), (1, .ref (d 0))] rfl (by decide) rfl ?_
  refine gw_iconst (v := (0 : Int32)) C dX1_packFrom_17 rfl ?_
  refine gw_istore_n C dX1_packFrom_18 [(3, .int (0 : Int32)), (2, .int v3), (0, .ref (b 0)), (1, .ref (d 0))] rfl (by decide) rfl ?_
  refine gw_sub [2, 3, 1, 0] rfl ?_
  refine gw_lpt (x0 := ((0 : Int32), t2)) (Go := fun x4 : Int32 × TS => gw_G p l e (rmOf 5 135) s m args below meth c D A (CtM D below (some (.int o.1)) (wT cI cJ b o.2 ++ wT cI cJ d u) A args s) 4 0 0 (wT cI cJ b x4.2 ++ wT cI cJ d u) [(0, .ref (b 0)), (1, .ref (d 0)), (2, .int v3), (3, .int x4.1)] 19 []) h (fun x4 K4 X4 I4 h => ?_)
  refine gw_iload_n C dX1_packFrom_19 3 rfl ?_
  refine gw_iload_n C dX1_packFrom_20 2 rfl ?_
  refine gw_icmp_ge (tgt := 45) C dX1_packFrom_21 (by decide) h (fun c5 h => ?_) (fun c5 h => ?_)
  · refine gw_aload_n C dX1_packFrom_45 0 rfl ?_
    refine gw_bind h (fun q6 hq6 h => ?_)
    refine gw_sub_call (st2 := [.int q6]) (ws' := wT cI cJ b x4.2 ++ wT cI cJ d u) C [0, 1, 2, 3, 4, 5, 6, 7, 8, 9, 10] [11, 12, 13, 14, 15, 16, 17, 18, 19, 20, 21] [11, 12, 13, 14, 15, 16, 17, 18, 19, 20, 21, 0, 1, 2, 3, 4, 5, 6, 7, 8, 9, 10] rfl rfl rfl rfl (by decide) rfl rfl (run_V (rest := []) C (c_X1_usedCells l D cI cJ cO b x4.2 hq6) w_X1_usedCells 0 1 rfl rfl rfl rfl rfl (Nat.le_of_ble_eq_true rfl) dX1_packFrom_46 ⟨Nat.zero_le _, Nat.zero_le _⟩) rfl ?_
    have h := gw_some h
    have h := X4 _ h
    have ho := Option.some.inj h
    subst ho
    exact gw_iret C dX1_packFrom_49
  · refine gw_aload_n C dX1_packFrom_24 0 rfl ?_
    refine gw_aload_n C dX1_packFrom_25 1 rfl ?_
    refine gw_iload_n C dX1_packFrom_26 3 rfl ?_
    refine gw_bind h (fun q7 hq7 h => ?_)
    refine gw_sub_call (st2 := [.long q7, .ref (b 0)]) (ws' := wT cI cJ b x4.2 ++ wT cI cJ d u) C [11, 12, 13, 14, 15, 16, 17, 18, 19, 20, 21] [0, 1, 2, 3, 4, 5, 6, 7, 8, 9, 10] [0, 1, 2, 3, 4, 5, 6, 7, 8, 9, 10, 11, 12, 13, 14, 15, 16, 17, 18, 19, 20, 21] rfl rfl rfl rfl (by decide) rfl rfl (run_V (rest := [.ref (b 0)]) C (c_X1_wordAt l D cI cJ cO d u x4.1 hq7) w_X1_wordAt 0 1 rfl rfl rfl rfl rfl (Nat.le_of_ble_eq_true rfl) dX1_packFrom_27 ⟨Nat.zero_le _, Nat.zero_le _⟩) rfl ?_
    refine gw_bind h (fun q8 hq8 h => ?_)
    refine gw_sub_call (st2 := [.int q8.1]) (ws' := wT cI cJ b q8.2 ++ wT cI cJ d u) C [0, 1, 2, 3, 4, 5, 6, 7, 8, 9, 10] [11, 12, 13, 14, 15, 16, 17, 18, 19, 20, 21] [11, 12, 13, 14, 15, 16, 17, 18, 19, 20, 21, 0, 1, 2, 3, 4, 5, 6, 7, 8, 9, 10] rfl rfl rfl rfl (by decide) rfl rfl (run_V (rest := []) C (c_X1_insert l D cI cJ cO b x4.2 q7 hq8) w_X1_insert 0 1 rfl rfl rfl rfl rfl (Nat.le_of_ble_eq_true rfl) dX1_packFrom_30 ⟨Nat.zero_le _, Nat.zero_le _⟩) rfl ?_
    refine gw_iconst (v := (-1 : Int32)) C dX1_packFrom_33 rfl ?_
    refine gw_icmp_ne (tgt := 39) C dX1_packFrom_34 (by decide) h (fun c9 h => ?_) (fun c9 h => ?_)
    · refine gw_iconst (v := (-1 : Int32)) C dX1_packFrom_37 rfl ?_
      have h := gw_some h
      have h := X4 _ h
      have ho := Option.some.inj h
      subst ho
      exact gw_iret C dX1_packFrom_38
    · refine gw_iinc (v := (x4.1 + (1 : Int32))) C dX1_packFrom_39 [(3, .int (x4.1 + (1 : Int32))), (0, .ref (b 0)), (1, .ref (d 0)), (2, .int v3)] 3 rfl rfl (by decide) rfl ?_
      refine gw_goto (tgt := 19) C dX1_packFrom_42 (by decide) ?_
      refine gw_sub [1, 2, 3, 0] rfl ?_
      have h := gw_some h
      exact I4 _ h
