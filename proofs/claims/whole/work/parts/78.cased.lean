/-! the law's cases: the class's call and the model's side by side -/
set_option maxHeartbeats 4000000 in
set_option maxRecDepth 100000 in
theorem case_clearBuffer {p : Program} {l : Launch} {e : Env} {s : State} {m : MethodId} {args : Array Value} {below : List Frame} {meth : Method} {c : Code} {D : va_G} {A : Nat → Prop} {Q : State → Prop} {cells slots : Nat} {cI cJ cO : ClassId} {rt : Option FieldType} (C : Cx p s m args meth c cL_law 9 wsL_law RL D (tysA cI cJ cO) A rt) (hcs : cells ≤ room_1.cells ∧ slots ≤ room_1.slots)
    {b : Nat} {aP aS ao : Nat} {bT bR a : Nat → Nat} {g : Nat → Int64} {q : PS} {mm : MS} {i : Int32} (hR : Rl q mm)
    (k : ∀ (q' : PS) (mm' : MS), Rl q' mm' → gw_G p l e room_1 s m args below meth c D A Q 9 cells slots (wL cI cJ cO ao g aP bT bR aS q' a mm') (lvI b aP (a 0) ao i) 942 []) :
    gw_G p l e room_1 s m args below meth c D A Q 9 cells slots (wL cI cJ cO ao g aP bT bR aS q a mm) (lvI b aP (a 0) ao i) 192 [] := by
  obtain ⟨bb, mm1, t1, hm, hf, hT, hRl⟩ := s_clearBuffer hR
  have w_x := cwV (R := room_1) (rm := rmOf 0 0) (s := s) (args := args) 0 C.1.2.2.2.2 gL_law_X3_clearBuffer rfl rfl rfl hd_X3_clearBuffer ⟨Nat.le_of_ble_eq_true rfl, Nat.le_of_ble_eq_true rfl⟩
  have w_m := cwV (R := room_1) (rm := rmOf 0 0) (s := s) (args := args) 0 C.1.2.2.2.2 gL_law_X4_clearBuffer rfl rfl rfl hd_X4_clearBuffer ⟨Nat.le_of_ble_eq_true rfl, Nat.le_of_ble_eq_true rfl⟩
  refine gw_aload_n C dL_law_192 1 rfl ?_
  refine gw_part (v := [(ao, .inl (cJ, 1, .inr (.inl g)))] ++ (wV cI cJ cO aS q.2 ++ wM cI a mm)) (ws' := wL cI cJ cO ao g aP bT bR aS (t1, q.2) a mm) (st2 := [.int bb]) C (run_V (rest := []) C (c_X3_clearBuffer l D cI cJ cO aP bT bR aS q.1 hf) w_x 0 2 rfl rfl rfl rfl rfl (Nat.le_of_ble_eq_true rfl) dL_law_193 hcs) wL_Q (wL_Q (cI := cI) (cJ := cJ) (cO := cO) (ao := ao) (aP := aP) (aS := aS) (g := g) (bT := bT) (bR := bR) (a := a) (q := (t1, q.2)) (mm := mm)).symm rfl ?_
  refine gw_aload_n C dL_law_196 2 rfl ?_
  refine gw_part (v := [(ao, .inl (cJ, 1, .inr (.inl g)))] ++ wP cI cJ cO aP bT bR aS (t1, q.2)) (ws' := wL cI cJ cO ao g aP bT bR aS (t1, q.2) a mm1) (st2 := [.int bb, .int bb]) C (run_V (rest := [.int bb]) C (c_X4_clearBuffer l D cI cJ cO a mm hm) w_m 0 3 rfl rfl rfl rfl rfl (Nat.le_of_ble_eq_true rfl) dL_law_197 hcs) (wL_M (cI := cI) (cJ := cJ) (cO := cO) (ao := ao) (aP := aP) (aS := aS) (g := g) (bT := bT) (bR := bR) (a := a) (q := (t1, q.2)) (mm := mm)) (wL_M (cI := cI) (cJ := cJ) (cO := cO) (ao := ao) (aP := aP) (aS := aS) (g := g) (bT := bT) (bR := bR) (a := a) (q := (t1, q.2)) (mm := mm1)).symm rfl ?_
  exact gw_icmp_eq (Φ := fun _ : Unit => True) (X := ()) (Y := ()) (tgt := 942) C dL_law_200 (by decide) trivial (fun _ _ => k (t1, q.2) mm1 hRl) (fun c1 _ => absurd rfl c1)
set_option maxHeartbeats 4000000 in
set_option maxRecDepth 100000 in
theorem case_removeAll {p : Program} {l : Launch} {e : Env} {s : State} {m : MethodId} {args : Array Value} {below : List Frame} {meth : Method} {c : Code} {D : va_G} {A : Nat → Prop} {Q : State → Prop} {cells slots : Nat} {cI cJ cO : ClassId} {rt : Option FieldType} (C : Cx p s m args meth c cL_law 9 wsL_law RL D (tysA cI cJ cO) A rt) (hcs : cells ≤ room_1.cells ∧ slots ≤ room_1.slots)
    {b : Nat} {aP aS ao : Nat} {bT bR a : Nat → Nat} {g : Nat → Int64} {q : PS} {mm : MS} {i : Int32} (hR : Rl q mm)
    (k : ∀ (q' : PS) (mm' : MS), Rl q' mm' → gw_G p l e room_1 s m args below meth c D A Q 9 cells slots (wL cI cJ cO ao g aP bT bR aS q' a mm') (lvI b aP (a 0) ao i) 942 []) :
    gw_G p l e room_1 s m args below meth c D A Q 9 cells slots (wL cI cJ cO ao g aP bT bR aS q a mm) (lvI b aP (a 0) ao i) 337 [] := by
  obtain ⟨bb, mm1, t1, hm, hf, hT, hRl⟩ := s_removeAll hR
  have w_x := cwV (R := room_1) (rm := rmOf 5 161) (s := s) (args := args) 0 C.1.2.2.2.2 gL_law_X3_removeAll rfl rfl rfl hd_X3_removeAll ⟨Nat.le_of_ble_eq_true rfl, Nat.le_of_ble_eq_true rfl⟩
  have w_m := cwV (R := room_1) (rm := rmOf 4 92) (s := s) (args := args) 0 C.1.2.2.2.2 gL_law_X4_removeAll rfl rfl rfl hd_X4_removeAll ⟨Nat.le_of_ble_eq_true rfl, Nat.le_of_ble_eq_true rfl⟩
  refine gw_aload_n C dL_law_337 1 rfl ?_
  refine gw_part (v := [(ao, .inl (cJ, 1, .inr (.inl g)))] ++ wM cI a mm) (ws' := wL cI cJ cO ao g aP bT bR aS t1 a mm) (st2 := [.int bb]) C (run_V (rest := []) C (c_X3_removeAll l D cI cJ cO aP bT bR aS q hf) w_x 0 2 rfl rfl rfl rfl rfl (Nat.le_of_ble_eq_true rfl) dL_law_338 hcs) wL_P (wL_P (cI := cI) (cJ := cJ) (cO := cO) (ao := ao) (aP := aP) (aS := aS) (g := g) (bT := bT) (bR := bR) (a := a) (q := t1) (mm := mm)).symm rfl ?_
  refine gw_aload_n C dL_law_341 2 rfl ?_
  refine gw_part (v := [(ao, .inl (cJ, 1, .inr (.inl g)))] ++ wP cI cJ cO aP bT bR aS t1) (ws' := wL cI cJ cO ao g aP bT bR aS t1 a mm1) (st2 := [.int bb, .int bb]) C (run_V (rest := [.int bb]) C (c_X4_removeAll l D cI cJ cO a mm hm) w_m 0 3 rfl rfl rfl rfl rfl (Nat.le_of_ble_eq_true rfl) dL_law_342 hcs) (wL_M (cI := cI) (cJ := cJ) (cO := cO) (ao := ao) (aP := aP) (aS := aS) (g := g) (bT := bT) (bR := bR) (a := a) (q := t1) (mm := mm)) (wL_M (cI := cI) (cJ := cJ) (cO := cO) (ao := ao) (aP := aP) (aS := aS) (g := g) (bT := bT) (bR := bR) (a := a) (q := t1) (mm := mm1)).symm rfl ?_
  exact gw_icmp_eq (Φ := fun _ : Unit => True) (X := ()) (Y := ()) (tgt := 942) C dL_law_345 (by decide) trivial (fun _ _ => k t1 mm1 hRl) (fun c1 _ => absurd rfl c1)
set_option maxHeartbeats 4000000 in
set_option maxRecDepth 100000 in
theorem case_find {p : Program} {l : Launch} {e : Env} {s : State} {m : MethodId} {args : Array Value} {below : List Frame} {meth : Method} {c : Code} {D : va_G} {A : Nat → Prop} {Q : State → Prop} {cells slots : Nat} {cI cJ cO : ClassId} {rt : Option FieldType} (C : Cx p s m args meth c cL_law 9 wsL_law RL D (tysA cI cJ cO) A rt) (hcs : cells ≤ room_1.cells ∧ slots ≤ room_1.slots)
    {b : Nat} {aP aS ao : Nat} {bT bR a : Nat → Nat} {g : Nat → Int64} {q : PS} {mm : MS} {i : Int32} (hR : Rl q mm)
    (k : ∀ (q' : PS) (mm' : MS), Rl q' mm' → gw_G p l e room_1 s m args below meth c D A Q 9 cells slots (wL cI cJ cO ao g aP bT bR aS q' a mm') (lvI b aP (a 0) ao i) 942 []) :
    gw_G p l e room_1 s m args below meth c D A Q 9 cells slots (wL cI cJ cO ao g aP bT bR aS q a mm) (lvI b aP (a 0) ao i) 698 [] := by
  obtain ⟨bb, mm1, hm, hf, hT, hRl⟩ := s_find hR
  have w_x := cwV (R := room_1) (rm := rmOf 3 69) (s := s) (args := args) 0 C.1.2.2.2.2 gL_law_X3_find rfl rfl rfl hd_X3_find ⟨Nat.le_of_ble_eq_true rfl, Nat.le_of_ble_eq_true rfl⟩
  have w_m := cwV (R := room_1) (rm := rmOf 3 72) (s := s) (args := args) 0 C.1.2.2.2.2 gL_law_X4_find rfl rfl rfl hd_X4_find ⟨Nat.le_of_ble_eq_true rfl, Nat.le_of_ble_eq_true rfl⟩
  refine gw_aload_n C dL_law_698 1 rfl ?_
  refine gw_part (v := [(ao, .inl (cJ, 1, .inr (.inl g)))] ++ (wV cI cJ cO aS q.2 ++ wM cI a mm)) (ws' := wL cI cJ cO ao g aP bT bR aS q a mm) (st2 := [.int bb]) C (run_V (rest := []) C (c_X3_find l D cI cJ cO aP bT bR aS q.1 hf) w_x 0 2 rfl rfl rfl rfl rfl (Nat.le_of_ble_eq_true rfl) dL_law_699 hcs) wL_Q (wL_Q (cI := cI) (cJ := cJ) (cO := cO) (ao := ao) (aP := aP) (aS := aS) (g := g) (bT := bT) (bR := bR) (a := a) (q := q) (mm := mm)).symm rfl ?_
  refine gw_aload_n C dL_law_702 2 rfl ?_
  refine gw_part (v := [(ao, .inl (cJ, 1, .inr (.inl g)))] ++ wP cI cJ cO aP bT bR aS q) (ws' := wL cI cJ cO ao g aP bT bR aS q a mm1) (st2 := [.int bb, .int bb]) C (run_V (rest := [.int bb]) C (c_X4_find l D cI cJ cO a mm hm) w_m 0 3 rfl rfl rfl rfl rfl (Nat.le_of_ble_eq_true rfl) dL_law_703 hcs) (wL_M (cI := cI) (cJ := cJ) (cO := cO) (ao := ao) (aP := aP) (aS := aS) (g := g) (bT := bT) (bR := bR) (a := a) (q := q) (mm := mm)) (wL_M (cI := cI) (cJ := cJ) (cO := cO) (ao := ao) (aP := aP) (aS := aS) (g := g) (bT := bT) (bR := bR) (a := a) (q := q) (mm := mm1)).symm rfl ?_
  exact gw_icmp_eq (Φ := fun _ : Unit => True) (X := ()) (Y := ()) (tgt := 942) C dL_law_706 (by decide) trivial (fun _ _ => k q mm1 hRl) (fun c1 _ => absurd rfl c1)
set_option maxHeartbeats 4000000 in
set_option maxRecDepth 100000 in
theorem case_longest {p : Program} {l : Launch} {e : Env} {s : State} {m : MethodId} {args : Array Value} {below : List Frame} {meth : Method} {c : Code} {D : va_G} {A : Nat → Prop} {Q : State → Prop} {cells slots : Nat} {cI cJ cO : ClassId} {rt : Option FieldType} (C : Cx p s m args meth c cL_law 9 wsL_law RL D (tysA cI cJ cO) A rt) (hcs : cells ≤ room_1.cells ∧ slots ≤ room_1.slots)
    {b : Nat} {aP aS ao : Nat} {bT bR a : Nat → Nat} {g : Nat → Int64} {q : PS} {mm : MS} {i : Int32} (hR : Rl q mm)
    (k : ∀ (q' : PS) (mm' : MS), Rl q' mm' → gw_G p l e room_1 s m args below meth c D A Q 9 cells slots (wL cI cJ cO ao g aP bT bR aS q' a mm') (lvI b aP (a 0) ao i) 942 []) :
    gw_G p l e room_1 s m args below meth c D A Q 9 cells slots (wL cI cJ cO ao g aP bT bR aS q a mm) (lvI b aP (a 0) ao i) 711 [] := by
  obtain ⟨bb, mm1, hm, hf, hT, hRl⟩ := s_longest hR
  have w_x := cwV (R := room_1) (rm := rmOf 5 116) (s := s) (args := args) 0 C.1.2.2.2.2 gL_law_X3_longest rfl rfl rfl hd_X3_longest ⟨Nat.le_of_ble_eq_true rfl, Nat.le_of_ble_eq_true rfl⟩
  have w_m := cwV (R := room_1) (rm := rmOf 4 93) (s := s) (args := args) 0 C.1.2.2.2.2 gL_law_X4_longest rfl rfl rfl hd_X4_longest ⟨Nat.le_of_ble_eq_true rfl, Nat.le_of_ble_eq_true rfl⟩
  refine gw_aload_n C dL_law_711 1 rfl ?_
  refine gw_part (v := [(ao, .inl (cJ, 1, .inr (.inl g)))] ++ (wV cI cJ cO aS q.2 ++ wM cI a mm)) (ws' := wL cI cJ cO ao g aP bT bR aS q a mm) (st2 := [.int bb]) C (run_V (rest := []) C (c_X3_longest l D cI cJ cO aP bT bR aS q.1 hf) w_x 0 2 rfl rfl rfl rfl rfl (Nat.le_of_ble_eq_true rfl) dL_law_712 hcs) wL_Q (wL_Q (cI := cI) (cJ := cJ) (cO := cO) (ao := ao) (aP := aP) (aS := aS) (g := g) (bT := bT) (bR := bR) (a := a) (q := q) (mm := mm)).symm rfl ?_
  refine gw_aload_n C dL_law_715 2 rfl ?_
  refine gw_part (v := [(ao, .inl (cJ, 1, .inr (.inl g)))] ++ wP cI cJ cO aP bT bR aS q) (ws' := wL cI cJ cO ao g aP bT bR aS q a mm1) (st2 := [.int bb, .int bb]) C (run_V (rest := [.int bb]) C (c_X4_longest l D cI cJ cO a mm hm) w_m 0 3 rfl rfl rfl rfl rfl (Nat.le_of_ble_eq_true rfl) dL_law_716 hcs) (wL_M (cI := cI) (cJ := cJ) (cO := cO) (ao := ao) (aP := aP) (aS := aS) (g := g) (bT := bT) (bR := bR) (a := a) (q := q) (mm := mm)) (wL_M (cI := cI) (cJ := cJ) (cO := cO) (ao := ao) (aP := aP) (aS := aS) (g := g) (bT := bT) (bR := bR) (a := a) (q := q) (mm := mm1)).symm rfl ?_
  exact gw_icmp_eq (Φ := fun _ : Unit => True) (X := ()) (Y := ()) (tgt := 942) C dL_law_719 (by decide) trivial (fun _ _ => k q mm1 hRl) (fun c1 _ => absurd rfl c1)
set_option maxHeartbeats 4000000 in
set_option maxRecDepth 100000 in
theorem case_beginning {p : Program} {l : Launch} {e : Env} {s : State} {m : MethodId} {args : Array Value} {below : List Frame} {meth : Method} {c : Code} {D : va_G} {A : Nat → Prop} {Q : State → Prop} {cells slots : Nat} {cI cJ cO : ClassId} {rt : Option FieldType} (C : Cx p s m args meth c cL_law 9 wsL_law RL D (tysA cI cJ cO) A rt) (hcs : cells ≤ room_1.cells ∧ slots ≤ room_1.slots)
    {b : Nat} {aP aS ao : Nat} {bT bR a : Nat → Nat} {g : Nat → Int64} {q : PS} {mm : MS} {i : Int32} (hR : Rl q mm)
    (k : ∀ (q' : PS) (mm' : MS), Rl q' mm' → gw_G p l e room_1 s m args below meth c D A Q 9 cells slots (wL cI cJ cO ao g aP bT bR aS q' a mm') (lvI b aP (a 0) ao i) 942 []) :
    gw_G p l e room_1 s m args below meth c D A Q 9 cells slots (wL cI cJ cO ao g aP bT bR aS q a mm) (lvI b aP (a 0) ao i) 724 [] := by
  obtain ⟨bb, mm1, hm, hf, hT, hRl⟩ := s_beginning hR
  have w_x := cwV (R := room_1) (rm := rmOf 5 115) (s := s) (args := args) 0 C.1.2.2.2.2 gL_law_X3_beginning rfl rfl rfl hd_X3_beginning ⟨Nat.le_of_ble_eq_true rfl, Nat.le_of_ble_eq_true rfl⟩
  have w_m := cwV (R := room_1) (rm := rmOf 4 93) (s := s) (args := args) 0 C.1.2.2.2.2 gL_law_X4_beginning rfl rfl rfl hd_X4_beginning ⟨Nat.le_of_ble_eq_true rfl, Nat.le_of_ble_eq_true rfl⟩
  refine gw_aload_n C dL_law_724 1 rfl ?_
  refine gw_part (v := [(ao, .inl (cJ, 1, .inr (.inl g)))] ++ (wV cI cJ cO aS q.2 ++ wM cI a mm)) (ws' := wL cI cJ cO ao g aP bT bR aS q a mm) (st2 := [.int bb]) C (run_V (rest := []) C (c_X3_beginning l D cI cJ cO aP bT bR aS q.1 hf) w_x 0 2 rfl rfl rfl rfl rfl (Nat.le_of_ble_eq_true rfl) dL_law_725 hcs) wL_Q (wL_Q (cI := cI) (cJ := cJ) (cO := cO) (ao := ao) (aP := aP) (aS := aS) (g := g) (bT := bT) (bR := bR) (a := a) (q := q) (mm := mm)).symm rfl ?_
  refine gw_aload_n C dL_law_728 2 rfl ?_
  refine gw_part (v := [(ao, .inl (cJ, 1, .inr (.inl g)))] ++ wP cI cJ cO aP bT bR aS q) (ws' := wL cI cJ cO ao g aP bT bR aS q a mm1) (st2 := [.int bb, .int bb]) C (run_V (rest := [.int bb]) C (c_X4_beginning l D cI cJ cO a mm hm) w_m 0 3 rfl rfl rfl rfl rfl (Nat.le_of_ble_eq_true rfl) dL_law_729 hcs) (wL_M (cI := cI) (cJ := cJ) (cO := cO) (ao := ao) (aP := aP) (aS := aS) (g := g) (bT := bT) (bR := bR) (a := a) (q := q) (mm := mm)) (wL_M (cI := cI) (cJ := cJ) (cO := cO) (ao := ao) (aP := aP) (aS := aS) (g := g) (bT := bT) (bR := bR) (a := a) (q := q) (mm := mm1)).symm rfl ?_
  exact gw_icmp_eq (Φ := fun _ : Unit => True) (X := ()) (Y := ()) (tgt := 942) C dL_law_732 (by decide) trivial (fun _ _ => k q mm1 hRl) (fun c1 _ => absurd rfl c1)
set_option maxHeartbeats 4000000 in
set_option maxRecDepth 100000 in
theorem case_ahead {p : Program} {l : Launch} {e : Env} {s : State} {m : MethodId} {args : Array Value} {below : List Frame} {meth : Method} {c : Code} {D : va_G} {A : Nat → Prop} {Q : State → Prop} {cells slots : Nat} {cI cJ cO : ClassId} {rt : Option FieldType} (C : Cx p s m args meth c cL_law 9 wsL_law RL D (tysA cI cJ cO) A rt) (hcs : cells ≤ room_1.cells ∧ slots ≤ room_1.slots)
    {b : Nat} {aP aS ao : Nat} {bT bR a : Nat → Nat} {g : Nat → Int64} {q : PS} {mm : MS} {i : Int32} (hR : Rl q mm)
    (k : ∀ (q' : PS) (mm' : MS), Rl q' mm' → gw_G p l e room_1 s m args below meth c D A Q 9 cells slots (wL cI cJ cO ao g aP bT bR aS q' a mm') (lvI b aP (a 0) ao i) 942 []) :
    gw_G p l e room_1 s m args below meth c D A Q 9 cells slots (wL cI cJ cO ao g aP bT bR aS q a mm) (lvI b aP (a 0) ao i) 737 [] := by
  obtain ⟨bb, mm1, hm, hf, hT, hRl⟩ := s_ahead hR
  have w_x := cwV (R := room_1) (rm := rmOf 4 96) (s := s) (args := args) 0 C.1.2.2.2.2 gL_law_X3_ahead rfl rfl rfl hd_X3_ahead ⟨Nat.le_of_ble_eq_true rfl, Nat.le_of_ble_eq_true rfl⟩
  have w_m := cwV (R := room_1) (rm := rmOf 4 95) (s := s) (args := args) 0 C.1.2.2.2.2 gL_law_X4_ahead rfl rfl rfl hd_X4_ahead ⟨Nat.le_of_ble_eq_true rfl, Nat.le_of_ble_eq_true rfl⟩
  refine gw_aload_n C dL_law_737 1 rfl ?_
  refine gw_part (v := [(ao, .inl (cJ, 1, .inr (.inl g)))] ++ (wV cI cJ cO aS q.2 ++ wM cI a mm)) (ws' := wL cI cJ cO ao g aP bT bR aS q a mm) (st2 := [.int bb]) C (run_V (rest := []) C (c_X3_ahead l D cI cJ cO aP bT bR aS q.1 hf) w_x 0 2 rfl rfl rfl rfl rfl (Nat.le_of_ble_eq_true rfl) dL_law_738 hcs) wL_Q (wL_Q (cI := cI) (cJ := cJ) (cO := cO) (ao := ao) (aP := aP) (aS := aS) (g := g) (bT := bT) (bR := bR) (a := a) (q := q) (mm := mm)).symm rfl ?_
  refine gw_aload_n C dL_law_741 2 rfl ?_
  refine gw_part (v := [(ao, .inl (cJ, 1, .inr (.inl g)))] ++ wP cI cJ cO aP bT bR aS q) (ws' := wL cI cJ cO ao g aP bT bR aS q a mm1) (st2 := [.int bb, .int bb]) C (run_V (rest := [.int bb]) C (c_X4_ahead l D cI cJ cO a mm hm) w_m 0 3 rfl rfl rfl rfl rfl (Nat.le_of_ble_eq_true rfl) dL_law_742 hcs) (wL_M (cI := cI) (cJ := cJ) (cO := cO) (ao := ao) (aP := aP) (aS := aS) (g := g) (bT := bT) (bR := bR) (a := a) (q := q) (mm := mm)) (wL_M (cI := cI) (cJ := cJ) (cO := cO) (ao := ao) (aP := aP) (aS := aS) (g := g) (bT := bT) (bR := bR) (a := a) (q := q) (mm := mm1)).symm rfl ?_
  exact gw_icmp_eq (Φ := fun _ : Unit => True) (X := ()) (Y := ()) (tgt := 942) C dL_law_745 (by decide) trivial (fun _ _ => k q mm1 hRl) (fun c1 _ => absurd rfl c1)
set_option maxHeartbeats 4000000 in
set_option maxRecDepth 100000 in
theorem case_ifPacked {p : Program} {l : Launch} {e : Env} {s : State} {m : MethodId} {args : Array Value} {below : List Frame} {meth : Method} {c : Code} {D : va_G} {A : Nat → Prop} {Q : State → Prop} {cells slots : Nat} {cI cJ cO : ClassId} {rt : Option FieldType} (C : Cx p s m args meth c cL_law 9 wsL_law RL D (tysA cI cJ cO) A rt) (hcs : cells ≤ room_1.cells ∧ slots ≤ room_1.slots)
    {b : Nat} {aP aS ao : Nat} {bT bR a : Nat → Nat} {g : Nat → Int64} {q : PS} {mm : MS} {i : Int32} (hR : Rl q mm)
    (k : ∀ (q' : PS) (mm' : MS), Rl q' mm' → gw_G p l e room_1 s m args below meth c D A Q 9 cells slots (wL cI cJ cO ao g aP bT bR aS q' a mm') (lvI b aP (a 0) ao i) 942 []) :
    gw_G p l e room_1 s m args below meth c D A Q 9 cells slots (wL cI cJ cO ao g aP bT bR aS q a mm) (lvI b aP (a 0) ao i) 874 [] := by
  obtain ⟨bb, mm1, t1, hm, hf, hT, hRl⟩ := s_ifPacked hR
  have w_x := cwV (R := room_1) (rm := rmOf 6 158) (s := s) (args := args) 0 C.1.2.2.2.2 gL_law_X3_ifPacked rfl rfl rfl hd_X3_ifPacked ⟨Nat.le_of_ble_eq_true rfl, Nat.le_of_ble_eq_true rfl⟩
  have w_m := cwV (R := room_1) (rm := rmOf 9 224) (s := s) (args := args) 0 C.1.2.2.2.2 gL_law_X4_ifPacked rfl rfl rfl hd_X4_ifPacked ⟨Nat.le_of_ble_eq_true rfl, Nat.le_of_ble_eq_true rfl⟩
  refine gw_aload_n C dL_law_874 1 rfl ?_
  refine gw_part (v := [(ao, .inl (cJ, 1, .inr (.inl g)))] ++ (wV cI cJ cO aS q.2 ++ wM cI a mm)) (ws' := wL cI cJ cO ao g aP bT bR aS (t1, q.2) a mm) (st2 := [.int bb]) C (run_V (rest := []) C (c_X3_ifPacked l D cI cJ cO aP bT bR aS q.1 hf) w_x 0 2 rfl rfl rfl rfl rfl (Nat.le_of_ble_eq_true rfl) dL_law_875 hcs) wL_Q (wL_Q (cI := cI) (cJ := cJ) (cO := cO) (ao := ao) (aP := aP) (aS := aS) (g := g) (bT := bT) (bR := bR) (a := a) (q := (t1, q.2)) (mm := mm)).symm rfl ?_
  refine gw_aload_n C dL_law_878 2 rfl ?_
  refine gw_part (v := [(ao, .inl (cJ, 1, .inr (.inl g)))] ++ wP cI cJ cO aP bT bR aS (t1, q.2)) (ws' := wL cI cJ cO ao g aP bT bR aS (t1, q.2) a mm1) (st2 := [.int bb, .int bb]) C (run_V (rest := [.int bb]) C (c_X4_ifPacked l D cI cJ cO a mm hm) w_m 0 3 rfl rfl rfl rfl rfl (Nat.le_of_ble_eq_true rfl) dL_law_879 hcs) (wL_M (cI := cI) (cJ := cJ) (cO := cO) (ao := ao) (aP := aP) (aS := aS) (g := g) (bT := bT) (bR := bR) (a := a) (q := (t1, q.2)) (mm := mm)) (wL_M (cI := cI) (cJ := cJ) (cO := cO) (ao := ao) (aP := aP) (aS := aS) (g := g) (bT := bT) (bR := bR) (a := a) (q := (t1, q.2)) (mm := mm1)).symm rfl ?_
  exact gw_icmp_eq (Φ := fun _ : Unit => True) (X := ()) (Y := ()) (tgt := 942) C dL_law_882 (by decide) trivial (fun _ _ => k (t1, q.2) mm1 hRl) (fun c1 _ => absurd rfl c1)
set_option maxHeartbeats 4000000 in
set_option maxRecDepth 100000 in
theorem case_fullness {p : Program} {l : Launch} {e : Env} {s : State} {m : MethodId} {args : Array Value} {below : List Frame} {meth : Method} {c : Code} {D : va_G} {A : Nat → Prop} {Q : State → Prop} {cells slots : Nat} {cI cJ cO : ClassId} {rt : Option FieldType} (C : Cx p s m args meth c cL_law 9 wsL_law RL D (tysA cI cJ cO) A rt) (hcs : cells ≤ room_1.cells ∧ slots ≤ room_1.slots)
    {b : Nat} {aP aS ao : Nat} {bT bR a : Nat → Nat} {g : Nat → Int64} {q : PS} {mm : MS} {i : Int32} (hR : Rl q mm)
    (k : ∀ (q' : PS) (mm' : MS), Rl q' mm' → gw_G p l e room_1 s m args below meth c D A Q 9 cells slots (wL cI cJ cO ao g aP bT bR aS q' a mm') (lvI b aP (a 0) ao i) 942 []) :
    gw_G p l e room_1 s m args below meth c D A Q 9 cells slots (wL cI cJ cO ao g aP bT bR aS q a mm) (lvI b aP (a 0) ao i) 887 [] := by
  obtain ⟨bb, mm1, hnn, hm, hf, hT, hRl⟩ := s_fullness hR
  have w_x := cwV (R := room_1) (rm := rmOf 1 22) (s := s) (args := args) 0 C.1.2.2.2.2 gL_law_X3_fullness rfl rfl rfl hd_X3_fullness ⟨Nat.le_of_ble_eq_true rfl, Nat.le_of_ble_eq_true rfl⟩
  have w_m := cwV (R := room_1) (rm := rmOf 3 63) (s := s) (args := args) 0 C.1.2.2.2.2 gL_law_X4_fullness rfl rfl rfl hd_X4_fullness ⟨Nat.le_of_ble_eq_true rfl, Nat.le_of_ble_eq_true rfl⟩
  refine gw_aload_n C dL_law_887 1 rfl ?_
  refine gw_part (v := [(ao, .inl (cJ, 1, .inr (.inl g)))] ++ (wV cI cJ cO aS q.2 ++ wM cI a mm)) (ws' := wL cI cJ cO ao g aP bT bR aS q a mm) (st2 := [.double bb]) C (run_V (rest := []) C (c_X3_fullness l D cI cJ cO aP bT bR aS q.1 hf) w_x 0 2 rfl rfl rfl rfl rfl (Nat.le_of_ble_eq_true rfl) dL_law_888 hcs) wL_Q (wL_Q (cI := cI) (cJ := cJ) (cO := cO) (ao := ao) (aP := aP) (aS := aS) (g := g) (bT := bT) (bR := bR) (a := a) (q := q) (mm := mm)).symm rfl ?_
  refine gw_dstore (lv' := [(5, .double bb), (0, .ref b), (1, .ref aP), (2, .ref (a 0)), (3, .ref ao), (4, .int i)]) C dL_law_891 (by decide) rfl ?_
  refine gw_aload_n C dL_law_893 3 rfl ?_
  refine gw_part (v := [(ao, .inl (cJ, 1, .inr (.inl g)))] ++ wP cI cJ cO aP bT bR aS q) (ws' := wL cI cJ cO ao g aP bT bR aS q a mm1) (st2 := [.double bb]) C (run_V (rest := []) C (c_X4_fullness l D cI cJ cO a mm hm) w_m 0 3 rfl rfl rfl rfl rfl (Nat.le_of_ble_eq_true rfl) dL_law_894 hcs) (wL_M (cI := cI) (cJ := cJ) (cO := cO) (ao := ao) (aP := aP) (aS := aS) (g := g) (bT := bT) (bR := bR) (a := a) (q := q) (mm := mm)) (wL_M (cI := cI) (cJ := cJ) (cO := cO) (ao := ao) (aP := aP) (aS := aS) (g := g) (bT := bT) (bR := bR) (a := a) (q := q) (mm := mm1)).symm rfl ?_
  refine gw_dstore (lv' := [(7, .double bb), (5, .double bb), (0, .ref b), (1, .ref aP), (2, .ref (a 0)), (3, .ref ao), (4, .int i)]) C dL_law_897 (by decide) rfl ?_
  have fin : gw_G p l e room_1 s m args below meth c D A Q 9 cells slots (wL cI cJ cO ao g aP bT bR aS q a mm1) [(7, .double bb), (5, .double bb), (0, .ref b), (1, .ref aP), (2, .ref (a 0)), (3, .ref ao), (4, .int i)] 925 [] :=
    gw_goto (tgt := 942) C dL_law_925 (by decide) (gw_sub [2, 3, 4, 5, 6] rfl (k q mm1 hRl))
  refine gw_dload C dL_law_899 1 rfl ?_
  refine gw_dload C dL_law_901 0 rfl ?_
  refine gw_dcmp C dL_law_903 ?_
  generalize hv : Op.cmpValue (FP.dcmp bb bb) .l = v
  refine gw_if_eq (Φ := fun _ : Unit => True) (X := ()) (Y := ()) (tgt := 925) C dL_law_904 (by decide) trivial (fun _ _ => fin) (fun c1 _ => ?_)
  refine gw_dload C dL_law_907 1 rfl ?_
  refine gw_dload C dL_law_909 1 rfl ?_
  refine gw_dcmp C dL_law_911 ?_
  rw [hv]
  refine gw_if_eq (Φ := fun _ : Unit => True) (X := ()) (Y := ()) (tgt := 923) C dL_law_912 (by decide) trivial (fun c2 _ => absurd c2 c1) (fun _ _ => ?_)
  refine gw_dload C dL_law_915 0 rfl ?_
  refine gw_dload C dL_law_917 0 rfl ?_
  refine gw_dcmp C dL_law_919 ?_
  rw [hv]
  exact gw_if_ne (Φ := fun _ : Unit => True) (X := ()) (Y := ()) (tgt := 925) C dL_law_920 (by decide) trivial (fun c2 _ => absurd c2 c1) (fun _ _ => fin)
set_option maxHeartbeats 4000000 in
set_option maxRecDepth 100000 in
theorem case_digest {p : Program} {l : Launch} {e : Env} {s : State} {m : MethodId} {args : Array Value} {below : List Frame} {meth : Method} {c : Code} {D : va_G} {A : Nat → Prop} {Q : State → Prop} {cells slots : Nat} {cI cJ cO : ClassId} {rt : Option FieldType} (C : Cx p s m args meth c cL_law 9 wsL_law RL D (tysA cI cJ cO) A rt) (hcs : cells ≤ room_1.cells ∧ slots ≤ room_1.slots)
    {b : Nat} {aP aS ao : Nat} {bT bR a : Nat → Nat} {g : Nat → Int64} {q : PS} {mm : MS} {i : Int32} (hR : Rl q mm)
    (k : ∀ (q' : PS) (mm' : MS), Rl q' mm' → gw_G p l e room_1 s m args below meth c D A Q 9 cells slots (wL cI cJ cO ao g aP bT bR aS q' a mm') (lvI b aP (a 0) ao i) 942 []) :
    gw_G p l e room_1 s m args below meth c D A Q 9 cells slots (wL cI cJ cO ao g aP bT bR aS q a mm) (lvI b aP (a 0) ao i) 928 [] := by
  obtain ⟨bb, mm1, t1, hm, hf, hT, hRl⟩ := s_digest hR
  have w_x := cwV (R := room_1) (rm := rmOf 6 158) (s := s) (args := args) 0 C.1.2.2.2.2 gL_law_X3_digest rfl rfl rfl hd_X3_digest ⟨Nat.le_of_ble_eq_true rfl, Nat.le_of_ble_eq_true rfl⟩
  have w_m := cwV (R := room_1) (rm := rmOf 9 226) (s := s) (args := args) 0 C.1.2.2.2.2 gL_law_X4_digest rfl rfl rfl hd_X4_digest ⟨Nat.le_of_ble_eq_true rfl, Nat.le_of_ble_eq_true rfl⟩
  refine gw_aload_n C dL_law_928 1 rfl ?_
  refine gw_part (v := [(ao, .inl (cJ, 1, .inr (.inl g)))] ++ (wV cI cJ cO aS q.2 ++ wM cI a mm)) (ws' := wL cI cJ cO ao g aP bT bR aS (t1, q.2) a mm) (st2 := [.long bb]) C (run_V (rest := []) C (c_X3_digest l D cI cJ cO aP bT bR aS q.1 hf) w_x 0 2 rfl rfl rfl rfl rfl (Nat.le_of_ble_eq_true rfl) dL_law_929 hcs) wL_Q (wL_Q (cI := cI) (cJ := cJ) (cO := cO) (ao := ao) (aP := aP) (aS := aS) (g := g) (bT := bT) (bR := bR) (a := a) (q := (t1, q.2)) (mm := mm)).symm rfl ?_
  refine gw_aload_n C dL_law_932 2 rfl ?_
  refine gw_part (v := [(ao, .inl (cJ, 1, .inr (.inl g)))] ++ wP cI cJ cO aP bT bR aS (t1, q.2)) (ws' := wL cI cJ cO ao g aP bT bR aS (t1, q.2) a mm1) (st2 := [.long bb, .long bb]) C (run_V (rest := [.long bb]) C (c_X4_digest l D cI cJ cO a mm hm) w_m 0 3 rfl rfl rfl rfl rfl (Nat.le_of_ble_eq_true rfl) dL_law_933 hcs) (wL_M (cI := cI) (cJ := cJ) (cO := cO) (ao := ao) (aP := aP) (aS := aS) (g := g) (bT := bT) (bR := bR) (a := a) (q := (t1, q.2)) (mm := mm)) (wL_M (cI := cI) (cJ := cJ) (cO := cO) (ao := ao) (aP := aP) (aS := aS) (g := g) (bT := bT) (bR := bR) (a := a) (q := (t1, q.2)) (mm := mm1)).symm rfl ?_
  exact gw_lcmp_eq (Φ := fun _ : Unit => True) (X := ()) (Y := ()) (tgt := 942) C dL_law_936 dL_law_937 (by decide) trivial (fun _ _ => k (t1, q.2) mm1 hRl) (fun c1 _ => absurd rfl c1)
