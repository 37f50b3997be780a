set_option maxHeartbeats 4000000 in
set_option maxRecDepth 100000 in
theorem case_cell {p : Program} {l : Launch} {e : Env} {s : State} {m : MethodId} {args : Array Value} {below : List Frame} {meth : Method} {c : Code} {D : va_G} {A : Nat → Prop} {Q : State → Prop} {cells slots : Nat} {cI cJ cO : ClassId} {rt : Option FieldType} (C : Cx p s m args meth c cL_law 9 wsL_law RL D (tysA cI cJ cO) A rt) (htr : l.stackTraces = false) (XF : Xf0 s A) (XH : xfH s) (hcs : cells + 1 ≤ room_1.cells ∧ slots + 6 ≤ room_1.slots)
    {b L : Nat} {xs : Nat → Int32} (hX : va_X b L xs s s.heap) (hbl : b < s.heap.size) (hbA : ¬ A b) {aP aS ao : Nat} {bT bR a : Nat → Nat} {g : Nat → Int64} {q : PS} {mm : MS} {i : Int32} (hi1 : vp_in (i + nI 1) L) (hi2 : vp_in (i + nI 2) L) (hR : Rl q mm)
    (k : ∀ (g' : Nat → Int64) (q' : PS) (mm' : MS) (kk bb : Int32), Rl q' mm' → gw_G p l e room_1 s m args below meth c D A Q 9 (cells + 1) (slots + 6) (wL cI cJ cO ao g' aP bT bR aS q' a mm') (lvT b aP (a 0) ao i kk bb) 942 []) :
    gw_G p l e room_1 s m args below meth c D A Q 9 cells slots (wL cI cJ cO ao g aP bT bR aS q a mm) (lvI b aP (a 0) ao i) 438 [] := by
  obtain ⟨bb, mm1, hm, hRl, hc⟩ := s_cell hR (xs (i + nI 1).toNatClampNeg) (xs (i + nI 2).toNatClampNeg)
  have w_m := cwV (R := room_1) (rm := rmOf 4 90) (s := s) (args := args) 2 C.1.2.2.2.2 gL_law_X4_cell rfl rfl rfl hd_X4_cell ⟨Nat.le_of_ble_eq_true rfl, Nat.le_of_ble_eq_true rfl⟩
  have model : ∀ (cells2 slots2 : Nat) (g' : Nat → Int64) (q' : PS) (kk : Int32), cells2 ≤ cells + 1 → slots2 ≤ slots + 6 → mT mm1 = kk → (kk = 0 → g' 0 = bb.toInt64) → Rl q' mm1 → gw_G p l e room_1 s m args below meth c D A Q 9 cells2 slots2 (wL cI cJ cO ao g' aP bT bR aS q' a mm) (lvI b aP (a 0) ao i) 455 [.int kk] := by
    intro cells2 slots2 g' q' kk hc2 hs2 hT hb hRl
    refine gw_istore (lv' := lvK b aP (a 0) ao i kk) C dL_law_455 (by decide) rfl ?_
    refine gw_aload_n C dL_law_457 3 rfl ?_
    refine gw_aload_n C dL_law_458 1 rfl ?_
    refine gw_iload C dL_law_459 5 rfl ?_
    refine gw_iconst (v := nI 1) C dL_law_461 rfl ?_
    refine gw_iadd C dL_law_462 ?_
    refine gw_sld C hX hbl hbA hi1 dL_law_463 ?_
    refine gw_aload_n C dL_law_464 1 rfl ?_
    refine gw_iload C dL_law_465 5 rfl ?_
    refine gw_iconst (v := nI 2) C dL_law_467 rfl ?_
    refine gw_iadd C dL_law_468 ?_
    refine gw_sld C hX hbl hbA hi2 dL_law_469 ?_
    refine gw_part (v := [(ao, .inl (cJ, 1, .inr (.inl g')))] ++ wP cI cJ cO aP bT bR aS q') (ws' := wL cI cJ cO ao g' aP bT bR aS q' a mm1) (st2 := [.int bb]) C (run_V (rest := []) C (c_X4_cell l D cI cJ cO a mm (xs (i + nI 1).toNatClampNeg) (xs (i + nI 2).toNatClampNeg) hm) w_m 0 3 rfl rfl rfl rfl rfl (Nat.le_of_ble_eq_true rfl) dL_law_470 ⟨Nat.le_trans hc2 hcs.1, Nat.le_trans hs2 hcs.2⟩) wL_M wL_M.symm rfl ?_
    refine gw_istore (lv' := lvT b aP (a 0) ao i kk bb) C dL_law_473 (by decide) rfl ?_
    exact law_tail C ⟨Nat.le_trans hc2 hcs.1, Nat.le_trans hs2 hcs.2⟩ dL_law_475 dL_law_476 dL_law_479 dL_law_481 dL_law_486 dL_law_488 dL_law_491 dL_law_492 dL_law_493 dL_law_494 dL_law_496 dL_law_497 dL_law_498 dL_law_503 (by decide) hT hb (gw_wide hc2 hs2 (k g' q' mm1 kk bb hRl))
  refine gw_aload_n C dL_law_438 1 rfl ?_
  refine gw_aload_n C dL_law_439 0 rfl ?_
  refine gw_iload C dL_law_440 4 rfl ?_
  refine gw_iconst (v := nI 1) C dL_law_442 rfl ?_
  refine gw_iadd C dL_law_443 ?_
  refine gw_sld C hX hbl hbA hi1 dL_law_444 ?_
  refine gw_aload_n C dL_law_445 0 rfl ?_
  refine gw_iload C dL_law_446 4 rfl ?_
  refine gw_iconst (v := nI 2) C dL_law_448 rfl ?_
  refine gw_iadd C dL_law_449 ?_
  refine gw_sld C hX hbl hbA hi2 dL_law_450 ?_
  refine gw_aload_n C dL_law_451 3 rfl ?_
  rcases hc with ⟨hf, hT⟩ | ⟨hf, hT⟩ | ⟨hf, hT⟩
  · refine gw_callH (v := wV cI cJ cO aS q.2 ++ wM cI a mm) (ws' := wL cI cJ cO ao g aP bT bR aS q a mm) (st2 := [.int (nI 1)]) C htr XF XH (c_L_cell_T1 l D cI cJ cO aP bT bR aS ao g q.1 (xs (i + nI 1).toNatClampNeg) (xs (i + nI 2).toNatClampNeg) hf) (vx_cwSW (R := room_1) (rm := ({ frames := 7, cells := 1, slots := 6, locals := 117 } : Room)) (s := s) (args := args) 4 C.1.2.2.2.2 gL_law_L_cell rfl rfl rfl hd_L_cell ⟨Nat.le_of_ble_eq_true rfl, Nat.le_of_ble_eq_true rfl⟩) rfl rfl (Nat.le_of_ble_eq_true rfl) dL_law_452 hcs wL_AQ (wL_AQ (cI := cI) (cJ := cJ) (cO := cO) (ao := ao) (aP := aP) (aS := aS) (g := g) (bT := bT) (bR := bR) (a := a) (q := q) (mm := mm)).symm rfl ?_
    exact model _ _ g q (nI 1) (Nat.le_refl _) (Nat.le_refl _) hT (fun a0 => absurd a0 (by decide)) hRl
  · refine gw_callH (v := wV cI cJ cO aS q.2 ++ wM cI a mm) (ws' := wL cI cJ cO ao g aP bT bR aS q a mm) (st2 := [.int (nI 2)]) C htr XF XH (c_L_cell_T2 l D cI cJ cO aP bT bR aS ao g q.1 (xs (i + nI 1).toNatClampNeg) (xs (i + nI 2).toNatClampNeg) hf) (vx_cwSW (R := room_1) (rm := ({ frames := 7, cells := 1, slots := 6, locals := 117 } : Room)) (s := s) (args := args) 4 C.1.2.2.2.2 gL_law_L_cell rfl rfl rfl hd_L_cell ⟨Nat.le_of_ble_eq_true rfl, Nat.le_of_ble_eq_true rfl⟩) rfl rfl (Nat.le_of_ble_eq_true rfl) dL_law_452 hcs wL_AQ (wL_AQ (cI := cI) (cJ := cJ) (cO := cO) (ao := ao) (aP := aP) (aS := aS) (g := g) (bT := bT) (bR := bR) (a := a) (q := q) (mm := mm)).symm rfl ?_
    exact model _ _ g q (nI 2) (Nat.le_refl _) (Nat.le_refl _) hT (fun a0 => absurd a0 (by decide)) hRl
  · refine gw_callH (v := wV cI cJ cO aS q.2 ++ wM cI a mm) (ws' := wL cI cJ cO ao (vp_updL g 0 (bb.toInt64)) aP bT bR aS q a mm) (st2 := [.int (nI 0)]) C htr XF XH (c_L_cell l D cI cJ cO aP bT bR aS ao g q.1 (xs (i + nI 1).toNatClampNeg) (xs (i + nI 2).toNatClampNeg) hf) (vx_cwSW (R := room_1) (rm := rmOf 4 86) (s := s) (args := args) 4 C.1.2.2.2.2 gL_law_L_cell rfl rfl rfl hd_L_cell ⟨Nat.le_of_ble_eq_true rfl, Nat.le_of_ble_eq_true rfl⟩) rfl rfl (Nat.le_of_ble_eq_true rfl) dL_law_452 ⟨Nat.le_trans (Nat.le_succ _) hcs.1, Nat.le_trans (Nat.le_add_right _ 6) hcs.2⟩ wL_AQ (wL_AQ (cI := cI) (cJ := cJ) (cO := cO) (ao := ao) (aP := aP) (aS := aS) (g := (vp_updL g 0 (bb.toInt64))) (bT := bT) (bR := bR) (a := a) (q := q) (mm := mm)).symm rfl ?_
    exact model _ _ (vp_updL g 0 (bb.toInt64)) q (nI 0) (Nat.le_succ _) (Nat.le_add_right _ 6) hT (fun _ => rfl) hRl
set_option maxHeartbeats 4000000 in
set_option maxRecDepth 100000 in
theorem case_end {p : Program} {l : Launch} {e : Env} {s : State} {m : MethodId} {args : Array Value} {below : List Frame} {meth : Method} {c : Code} {D : va_G} {A : Nat → Prop} {Q : State → Prop} {cells slots : Nat} {cI cJ cO : ClassId} {rt : Option FieldType} (C : Cx p s m args meth c cL_law 9 wsL_law RL D (tysA cI cJ cO) A rt) (htr : l.stackTraces = false) (XF : Xf0 s A) (XH : xfH s) (hcs : cells + 1 ≤ room_1.cells ∧ slots + 6 ≤ room_1.slots)
    {b L : Nat} {xs : Nat → Int32} (hX : va_X b L xs s s.heap) (hbl : b < s.heap.size) (hbA : ¬ A b) {aP aS ao : Nat} {bT bR a : Nat → Nat} {g : Nat → Int64} {q : PS} {mm : MS} {i : Int32} (hi1 : vp_in (i + nI 1) L) (hi2 : vp_in (i + nI 2) L) (hR : Rl q mm)
    (k : ∀ (g' : Nat → Int64) (q' : PS) (mm' : MS) (kk bb : Int32), Rl q' mm' → gw_G p l e room_1 s m args below meth c D A Q 9 (cells + 1) (slots + 6) (wL cI cJ cO ao g' aP bT bR aS q' a mm') (lvT b aP (a 0) ao i kk bb) 942 []) :
    gw_G p l e room_1 s m args below meth c D A Q 9 cells slots (wL cI cJ cO ao g aP bT bR aS q a mm) (lvI b aP (a 0) ao i) 506 [] := by
  obtain ⟨bb, mm1, hm, hRl, hc⟩ := s_end hR (xs (i + nI 1).toNatClampNeg) (xs (i + nI 2).toNatClampNeg)
  have w_m := cwV (R := room_1) (rm := rmOf 2 43) (s := s) (args := args) 2 C.1.2.2.2.2 gL_law_X4_end rfl rfl rfl hd_X4_end ⟨Nat.le_of_ble_eq_true rfl, Nat.le_of_ble_eq_true rfl⟩
  have model : ∀ (cells2 slots2 : Nat) (g' : Nat → Int64) (q' : PS) (kk : Int32), cells2 ≤ cells + 1 → slots2 ≤ slots + 6 → mT mm1 = kk → (kk = 0 → g' 0 = bb.toInt64) → Rl q' mm1 → gw_G p l e room_1 s m args below meth c D A Q 9 cells2 slots2 (wL cI cJ cO ao g' aP bT bR aS q' a mm) (lvI b aP (a 0) ao i) 523 [.int kk] := by
    intro cells2 slots2 g' q' kk hc2 hs2 hT hb hRl
    refine gw_istore (lv' := lvK b aP (a 0) ao i kk) C dL_law_523 (by decide) rfl ?_
    refine gw_aload_n C dL_law_525 3 rfl ?_
    refine gw_aload_n C dL_law_526 1 rfl ?_
    refine gw_iload C dL_law_527 5 rfl ?_
    refine gw_iconst (v := nI 1) C dL_law_529 rfl ?_
    refine gw_iadd C dL_law_530 ?_
    refine gw_sld C hX hbl hbA hi1 dL_law_531 ?_
    refine gw_aload_n C dL_law_532 1 rfl ?_
    refine gw_iload C dL_law_533 5 rfl ?_
    refine gw_iconst (v := nI 2) C dL_law_535 rfl ?_
    refine gw_iadd C dL_law_536 ?_
    refine gw_sld C hX hbl hbA hi2 dL_law_537 ?_
    refine gw_part (v := [(ao, .inl (cJ, 1, .inr (.inl g')))] ++ wP cI cJ cO aP bT bR aS q') (ws' := wL cI cJ cO ao g' aP bT bR aS q' a mm1) (st2 := [.int bb]) C (run_V (rest := []) C (c_X4_end l D cI cJ cO a mm (xs (i + nI 1).toNatClampNeg) (xs (i + nI 2).toNatClampNeg) hm) w_m 0 3 rfl rfl rfl rfl rfl (Nat.le_of_ble_eq_true rfl) dL_law_538 ⟨Nat.le_trans hc2 hcs.1, Nat.le_trans hs2 hcs.2⟩) wL_M wL_M.symm rfl ?_
    refine gw_istore (lv' := lvT b aP (a 0) ao i kk bb) C dL_law_541 (by decide) rfl ?_
    exact law_tail C ⟨Nat.le_trans hc2 hcs.1, Nat.le_trans hs2 hcs.2⟩ dL_law_543 dL_law_544 dL_law_547 dL_law_549 dL_law_554 dL_law_556 dL_law_559 dL_law_560 dL_law_561 dL_law_562 dL_law_564 dL_law_565 dL_law_566 dL_law_571 (by decide) hT hb (gw_wide hc2 hs2 (k g' q' mm1 kk bb hRl))
  refine gw_aload_n C dL_law_506 1 rfl ?_
  refine gw_aload_n C dL_law_507 0 rfl ?_
  refine gw_iload C dL_law_508 4 rfl ?_
  refine gw_iconst (v := nI 1) C dL_law_510 rfl ?_
  refine gw_iadd C dL_law_511 ?_
  refine gw_sld C hX hbl hbA hi1 dL_law_512 ?_
  refine gw_aload_n C dL_law_513 0 rfl ?_
  refine gw_iload C dL_law_514 4 rfl ?_
  refine gw_iconst (v := nI 2) C dL_law_516 rfl ?_
  refine gw_iadd C dL_law_517 ?_
  refine gw_sld C hX hbl hbA hi2 dL_law_518 ?_
  refine gw_aload_n C dL_law_519 3 rfl ?_
  rcases hc with ⟨hf, hT⟩ | ⟨hf, hT⟩ | ⟨hf, hT⟩
  · refine gw_callH (v := wV cI cJ cO aS q.2 ++ wM cI a mm) (ws' := wL cI cJ cO ao g aP bT bR aS q a mm) (st2 := [.int (nI 1)]) C htr XF XH (c_L_end_T1 l D cI cJ cO aP bT bR aS ao g q.1 (xs (i + nI 1).toNatClampNeg) (xs (i + nI 2).toNatClampNeg) hf) (vx_cwSW (R := room_1) (rm := ({ frames := 7, cells := 1, slots := 6, locals := 118 } : Room)) (s := s) (args := args) 4 C.1.2.2.2.2 gL_law_L_end rfl rfl rfl hd_L_end ⟨Nat.le_of_ble_eq_true rfl, Nat.le_of_ble_eq_true rfl⟩) rfl rfl (Nat.le_of_ble_eq_true rfl) dL_law_520 hcs wL_AQ (wL_AQ (cI := cI) (cJ := cJ) (cO := cO) (ao := ao) (aP := aP) (aS := aS) (g := g) (bT := bT) (bR := bR) (a := a) (q := q) (mm := mm)).symm rfl ?_
    exact model _ _ g q (nI 1) (Nat.le_refl _) (Nat.le_refl _) hT (fun a0 => absurd a0 (by decide)) hRl
  · refine gw_callH (v := wV cI cJ cO aS q.2 ++ wM cI a mm) (ws' := wL cI cJ cO ao g aP bT bR aS q a mm) (st2 := [.int (nI 2)]) C htr XF XH (c_L_end_T2 l D cI cJ cO aP bT bR aS ao g q.1 (xs (i + nI 1).toNatClampNeg) (xs (i + nI 2).toNatClampNeg) hf) (vx_cwSW (R := room_1) (rm := ({ frames := 7, cells := 1, slots := 6, locals := 118 } : Room)) (s := s) (args := args) 4 C.1.2.2.2.2 gL_law_L_end rfl rfl rfl hd_L_end ⟨Nat.le_of_ble_eq_true rfl, Nat.le_of_ble_eq_true rfl⟩) rfl rfl (Nat.le_of_ble_eq_true rfl) dL_law_520 hcs wL_AQ (wL_AQ (cI := cI) (cJ := cJ) (cO := cO) (ao := ao) (aP := aP) (aS := aS) (g := g) (bT := bT) (bR := bR) (a := a) (q := q) (mm := mm)).symm rfl ?_
    exact model _ _ g q (nI 2) (Nat.le_refl _) (Nat.le_refl _) hT (fun a0 => absurd a0 (by decide)) hRl
  · refine gw_callH (v := wV cI cJ cO aS q.2 ++ wM cI a mm) (ws' := wL cI cJ cO ao (vp_updL g 0 (bb.toInt64)) aP bT bR aS q a mm) (st2 := [.int (nI 0)]) C htr XF XH (c_L_end l D cI cJ cO aP bT bR aS ao g q.1 (xs (i + nI 1).toNatClampNeg) (xs (i + nI 2).toNatClampNeg) hf) (vx_cwSW (R := room_1) (rm := rmOf 4 89) (s := s) (args := args) 4 C.1.2.2.2.2 gL_law_L_end rfl rfl rfl hd_L_end ⟨Nat.le_of_ble_eq_true rfl, Nat.le_of_ble_eq_true rfl⟩) rfl rfl (Nat.le_of_ble_eq_true rfl) dL_law_520 ⟨Nat.le_trans (Nat.le_succ _) hcs.1, Nat.le_trans (Nat.le_add_right _ 6) hcs.2⟩ wL_AQ (wL_AQ (cI := cI) (cJ := cJ) (cO := cO) (ao := ao) (aP := aP) (aS := aS) (g := (vp_updL g 0 (bb.toInt64))) (bT := bT) (bR := bR) (a := a) (q := q) (mm := mm)).symm rfl ?_
    exact model _ _ (vp_updL g 0 (bb.toInt64)) q (nI 0) (Nat.le_succ _) (Nat.le_add_right _ 6) hT (fun _ => rfl) hRl
set_option maxHeartbeats 4000000 in
set_option maxRecDepth 100000 in
theorem case_letter {p : Program} {l : Launch} {e : Env} {s : State} {m : MethodId} {args : Array Value} {below : List Frame} {meth : Method} {c : Code} {D : va_G} {A : Nat → Prop} {Q : State → Prop} {cells slots : Nat} {cI cJ cO : ClassId} {rt : Option FieldType} (C : Cx p s m args meth c cL_law 9 wsL_law RL D (tysA cI cJ cO) A rt) (htr : l.stackTraces = false) (XF : Xf0 s A) (XH : xfH s) (hcs : cells + 1 ≤ room_1.cells ∧ slots + 6 ≤ room_1.slots)
    {b L : Nat} {xs : Nat → Int32} (hX : va_X b L xs s s.heap) (hbl : b < s.heap.size) (hbA : ¬ A b) {aP aS ao : Nat} {bT bR a : Nat → Nat} {g : Nat → Int64} {q : PS} {mm : MS} {i : Int32} (hi1 : vp_in (i + nI 1) L) (hi2 : vp_in (i + nI 2) L) (hR : Rl q mm)
    (k : ∀ (g' : Nat → Int64) (q' : PS) (mm' : MS) (kk bb : Int32), Rl q' mm' → gw_G p l e room_1 s m args below meth c D A Q 9 (cells + 1) (slots + 6) (wL cI cJ cO ao g' aP bT bR aS q' a mm') (lvT b aP (a 0) ao i kk bb) 942 []) :
    gw_G p l e room_1 s m args below meth c D A Q 9 cells slots (wL cI cJ cO ao g aP bT bR aS q a mm) (lvI b aP (a 0) ao i) 574 [] := by
  obtain ⟨bb, mm1, hm, hRl, hc⟩ := s_letter hR (xs (i + nI 1).toNatClampNeg) (xs (i + nI 2).toNatClampNeg)
  have w_m := cwV (R := room_1) (rm := rmOf 1 22) (s := s) (args := args) 2 C.1.2.2.2.2 gL_law_X4_letter rfl rfl rfl hd_X4_letter ⟨Nat.le_of_ble_eq_true rfl, Nat.le_of_ble_eq_true rfl⟩
  have model : ∀ (cells2 slots2 : Nat) (g' : Nat → Int64) (q' : PS) (kk : Int32), cells2 ≤ cells + 1 → slots2 ≤ slots + 6 → mT mm1 = kk → (kk = 0 → g' 0 = bb.toInt64) → Rl q' mm1 → gw_G p l e room_1 s m args below meth c D A Q 9 cells2 slots2 (wL cI cJ cO ao g' aP bT bR aS q' a mm) (lvI b aP (a 0) ao i) 591 [.int kk] := by
    intro cells2 slots2 g' q' kk hc2 hs2 hT hb hRl
    refine gw_istore (lv' := lvK b aP (a 0) ao i kk) C dL_law_591 (by decide) rfl ?_
    refine gw_aload_n C dL_law_593 3 rfl ?_
    refine gw_aload_n C dL_law_594 1 rfl ?_
    refine gw_iload C dL_law_595 5 rfl ?_
    refine gw_iconst (v := nI 1) C dL_law_597 rfl ?_
    refine gw_iadd C dL_law_598 ?_
    refine gw_sld C hX hbl hbA hi1 dL_law_599 ?_
    refine gw_aload_n C dL_law_600 1 rfl ?_
    refine gw_iload C dL_law_601 5 rfl ?_
    refine gw_iconst (v := nI 2) C dL_law_603 rfl ?_
    refine gw_iadd C dL_law_604 ?_
    refine gw_sld C hX hbl hbA hi2 dL_law_605 ?_
    refine gw_part (v := [(ao, .inl (cJ, 1, .inr (.inl g')))] ++ wP cI cJ cO aP bT bR aS q') (ws' := wL cI cJ cO ao g' aP bT bR aS q' a mm1) (st2 := [.int bb]) C (run_V (rest := []) C (c_X4_letter l D cI cJ cO a mm (xs (i + nI 1).toNatClampNeg) (xs (i + nI 2).toNatClampNeg) hm) w_m 0 3 rfl rfl rfl rfl rfl (Nat.le_of_ble_eq_true rfl) dL_law_606 ⟨Nat.le_trans hc2 hcs.1, Nat.le_trans hs2 hcs.2⟩) wL_M wL_M.symm rfl ?_
    refine gw_istore (lv' := lvT b aP (a 0) ao i kk bb) C dL_law_609 (by decide) rfl ?_
    exact law_tail C ⟨Nat.le_trans hc2 hcs.1, Nat.le_trans hs2 hcs.2⟩ dL_law_611 dL_law_612 dL_law_615 dL_law_617 dL_law_622 dL_law_624 dL_law_627 dL_law_628 dL_law_629 dL_law_630 dL_law_632 dL_law_633 dL_law_634 dL_law_639 (by decide) hT hb (gw_wide hc2 hs2 (k g' q' mm1 kk bb hRl))
  refine gw_aload_n C dL_law_574 1 rfl ?_
  refine gw_aload_n C dL_law_575 0 rfl ?_
  refine gw_iload C dL_law_576 4 rfl ?_
  refine gw_iconst (v := nI 1) C dL_law_578 rfl ?_
  refine gw_iadd C dL_law_579 ?_
  refine gw_sld C hX hbl hbA hi1 dL_law_580 ?_
  refine gw_aload_n C dL_law_581 0 rfl ?_
  refine gw_iload C dL_law_582 4 rfl ?_
  refine gw_iconst (v := nI 2) C dL_law_584 rfl ?_
  refine gw_iadd C dL_law_585 ?_
  refine gw_sld C hX hbl hbA hi2 dL_law_586 ?_
  refine gw_aload_n C dL_law_587 3 rfl ?_
  rcases hc with ⟨hf, hT⟩ | ⟨hf, hT⟩ | ⟨hf, hT⟩
  · refine gw_callH (v := wV cI cJ cO aS q.2 ++ wM cI a mm) (ws' := wL cI cJ cO ao g aP bT bR aS q a mm) (st2 := [.int (nI 1)]) C htr XF XH (c_L_letter_T1 l D cI cJ cO aP bT bR aS ao g q.1 (xs (i + nI 1).toNatClampNeg) (xs (i + nI 2).toNatClampNeg) hf) (vx_cwSW (R := room_1) (rm := ({ frames := 7, cells := 1, slots := 6, locals := 118 } : Room)) (s := s) (args := args) 4 C.1.2.2.2.2 gL_law_L_letter rfl rfl rfl hd_L_letter ⟨Nat.le_of_ble_eq_true rfl, Nat.le_of_ble_eq_true rfl⟩) rfl rfl (Nat.le_of_ble_eq_true rfl) dL_law_588 hcs wL_AQ (wL_AQ (cI := cI) (cJ := cJ) (cO := cO) (ao := ao) (aP := aP) (aS := aS) (g := g) (bT := bT) (bR := bR) (a := a) (q := q) (mm := mm)).symm rfl ?_
    exact model _ _ g q (nI 1) (Nat.le_refl _) (Nat.le_refl _) hT (fun a0 => absurd a0 (by decide)) hRl
  · refine gw_callH (v := wV cI cJ cO aS q.2 ++ wM cI a mm) (ws' := wL cI cJ cO ao g aP bT bR aS q a mm) (st2 := [.int (nI 2)]) C htr XF XH (c_L_letter_T2 l D cI cJ cO aP bT bR aS ao g q.1 (xs (i + nI 1).toNatClampNeg) (xs (i + nI 2).toNatClampNeg) hf) (vx_cwSW (R := room_1) (rm := ({ frames := 7, cells := 1, slots := 6, locals := 118 } : Room)) (s := s) (args := args) 4 C.1.2.2.2.2 gL_law_L_letter rfl rfl rfl hd_L_letter ⟨Nat.le_of_ble_eq_true rfl, Nat.le_of_ble_eq_true rfl⟩) rfl rfl (Nat.le_of_ble_eq_true rfl) dL_law_588 hcs wL_AQ (wL_AQ (cI := cI) (cJ := cJ) (cO := cO) (ao := ao) (aP := aP) (aS := aS) (g := g) (bT := bT) (bR := bR) (a := a) (q := q) (mm := mm)).symm rfl ?_
    exact model _ _ g q (nI 2) (Nat.le_refl _) (Nat.le_refl _) hT (fun a0 => absurd a0 (by decide)) hRl
  · refine gw_callH (v := wV cI cJ cO aS q.2 ++ wM cI a mm) (ws' := wL cI cJ cO ao (vp_updL g 0 (bb.toInt64)) aP bT bR aS q a mm) (st2 := [.int (nI 0)]) C htr XF XH (c_L_letter l D cI cJ cO aP bT bR aS ao g q.1 (xs (i + nI 1).toNatClampNeg) (xs (i + nI 2).toNatClampNeg) hf) (vx_cwSW (R := room_1) (rm := rmOf 3 66) (s := s) (args := args) 4 C.1.2.2.2.2 gL_law_L_letter rfl rfl rfl hd_L_letter ⟨Nat.le_of_ble_eq_true rfl, Nat.le_of_ble_eq_true rfl⟩) rfl rfl (Nat.le_of_ble_eq_true rfl) dL_law_588 ⟨Nat.le_trans (Nat.le_succ _) hcs.1, Nat.le_trans (Nat.le_add_right _ 6) hcs.2⟩ wL_AQ (wL_AQ (cI := cI) (cJ := cJ) (cO := cO) (ao := ao) (aP := aP) (aS := aS) (g := (vp_updL g 0 (bb.toInt64))) (bT := bT) (bR := bR) (a := a) (q := q) (mm := mm)).symm rfl ?_
    exact model _ _ (vp_updL g 0 (bb.toInt64)) q (nI 0) (Nat.le_succ _) (Nat.le_add_right _ 6) hT (fun _ => rfl) hRl
set_option maxHeartbeats 4000000 in
set_option maxRecDepth 100000 in
theorem case_count {p : Program} {l : Launch} {e : Env} {s : State} {m : MethodId} {args : Array Value} {below : List Frame} {meth : Method} {c : Code} {D : va_G} {A : Nat → Prop} {Q : State → Prop} {cells slots : Nat} {cI cJ cO : ClassId} {rt : Option FieldType} (C : Cx p s m args meth c cL_law 9 wsL_law RL D (tysA cI cJ cO) A rt) (htr : l.stackTraces = false) (XF : Xf0 s A) (XH : xfH s) (hcs : cells + 1 ≤ room_1.cells ∧ slots + 6 ≤ room_1.slots)
    {b L : Nat} {xs : Nat → Int32} (hX : va_X b L xs s s.heap) (hbl : b < s.heap.size) (hbA : ¬ A b) {aP aS ao : Nat} {bT bR a : Nat → Nat} {g : Nat → Int64} {q : PS} {mm : MS} {i : Int32} (hi1 : vp_in (i + nI 1) L) (hi2 : vp_in (i + nI 2) L) (hR : Rl q mm)
    (k : ∀ (g' : Nat → Int64) (q' : PS) (mm' : MS) (kk bb : Int32), Rl q' mm' → gw_G p l e room_1 s m args below meth c D A Q 9 (cells + 1) (slots + 6) (wL cI cJ cO ao g' aP bT bR aS q' a mm') (lvT b aP (a 0) ao i kk bb) 942 []) :
    gw_G p l e room_1 s m args below meth c D A Q 9 cells slots (wL cI cJ cO ao g aP bT bR aS q a mm) (lvI b aP (a 0) ao i) 642 [] := by
  obtain ⟨bb, mm1, hm, hRl, hc⟩ := s_countC hR (xs (i + nI 1).toNatClampNeg)
  have w_m := cwV (R := room_1) (rm := rmOf 5 114) (s := s) (args := args) 1 C.1.2.2.2.2 gL_law_X4_count rfl rfl rfl hd_X4_count ⟨Nat.le_of_ble_eq_true rfl, Nat.le_of_ble_eq_true rfl⟩
  have model : ∀ (cells2 slots2 : Nat) (g' : Nat → Int64) (q' : PS) (kk : Int32), cells2 ≤ cells + 1 → slots2 ≤ slots + 6 → mT mm1 = kk → (kk = 0 → g' 0 = bb.toInt64) → Rl q' mm1 → gw_G p l e room_1 s m args below meth c D A Q 9 cells2 slots2 (wL cI cJ cO ao g' aP bT bR aS q' a mm) (lvI b aP (a 0) ao i) 653 [.int kk] := by
    intro cells2 slots2 g' q' kk hc2 hs2 hT hb hRl
    refine gw_istore (lv' := lvK b aP (a 0) ao i kk) C dL_law_653 (by decide) rfl ?_
    refine gw_aload_n C dL_law_655 3 rfl ?_
    refine gw_aload_n C dL_law_656 1 rfl ?_
    refine gw_iload C dL_law_657 5 rfl ?_
    refine gw_iconst (v := nI 1) C dL_law_659 rfl ?_
    refine gw_iadd C dL_law_660 ?_
    refine gw_sld C hX hbl hbA hi1 dL_law_661 ?_
    refine gw_part (v := [(ao, .inl (cJ, 1, .inr (.inl g')))] ++ wP cI cJ cO aP bT bR aS q') (ws' := wL cI cJ cO ao g' aP bT bR aS q' a mm1) (st2 := [.int bb]) C (run_V (rest := []) C (c_X4_count l D cI cJ cO a mm (xs (i + nI 1).toNatClampNeg) hm) w_m 0 3 rfl rfl rfl rfl rfl (Nat.le_of_ble_eq_true rfl) dL_law_662 ⟨Nat.le_trans hc2 hcs.1, Nat.le_trans hs2 hcs.2⟩) wL_M wL_M.symm rfl ?_
    refine gw_istore (lv' := lvT b aP (a 0) ao i kk bb) C dL_law_665 (by decide) rfl ?_
    exact law_tail C ⟨Nat.le_trans hc2 hcs.1, Nat.le_trans hs2 hcs.2⟩ dL_law_667 dL_law_668 dL_law_671 dL_law_673 dL_law_678 dL_law_680 dL_law_683 dL_law_684 dL_law_685 dL_law_686 dL_law_688 dL_law_689 dL_law_690 dL_law_695 (by decide) hT hb (gw_wide hc2 hs2 (k g' q' mm1 kk bb hRl))
  refine gw_aload_n C dL_law_642 1 rfl ?_
  refine gw_aload_n C dL_law_643 0 rfl ?_
  refine gw_iload C dL_law_644 4 rfl ?_
  refine gw_iconst (v := nI 1) C dL_law_646 rfl ?_
  refine gw_iadd C dL_law_647 ?_
  refine gw_sld C hX hbl hbA hi1 dL_law_648 ?_
  refine gw_aload_n C dL_law_649 3 rfl ?_
  rcases hc with ⟨hf, hT⟩ | ⟨hf, hT⟩
  · refine gw_callH (v := wV cI cJ cO aS q.2 ++ wM cI a mm) (ws' := wL cI cJ cO ao g aP bT bR aS q a mm) (st2 := [.int (nI 1)]) C htr XF XH (c_L_count_T1 l D cI cJ cO aP bT bR aS ao g q.1 (xs (i + nI 1).toNatClampNeg) hf) (vx_cwSW (R := room_1) (rm := ({ frames := 7, cells := 1, slots := 6, locals := 116 } : Room)) (s := s) (args := args) 3 C.1.2.2.2.2 gL_law_L_count rfl rfl rfl hd_L_count ⟨Nat.le_of_ble_eq_true rfl, Nat.le_of_ble_eq_true rfl⟩) rfl rfl (Nat.le_of_ble_eq_true rfl) dL_law_650 hcs wL_AQ (wL_AQ (cI := cI) (cJ := cJ) (cO := cO) (ao := ao) (aP := aP) (aS := aS) (g := g) (bT := bT) (bR := bR) (a := a) (q := q) (mm := mm)).symm rfl ?_
    exact model _ _ g q (nI 1) (Nat.le_refl _) (Nat.le_refl _) hT (fun a0 => absurd a0 (by decide)) hRl
  · refine gw_callH (v := wV cI cJ cO aS q.2 ++ wM cI a mm) (ws' := wL cI cJ cO ao (vp_updL g 0 (bb.toInt64)) aP bT bR aS q a mm) (st2 := [.int (nI 0)]) C htr XF XH (c_L_count l D cI cJ cO aP bT bR aS ao g q.1 (xs (i + nI 1).toNatClampNeg) hf) (vx_cwSW (R := room_1) (rm := rmOf 5 109) (s := s) (args := args) 3 C.1.2.2.2.2 gL_law_L_count rfl rfl rfl hd_L_count ⟨Nat.le_of_ble_eq_true rfl, Nat.le_of_ble_eq_true rfl⟩) rfl rfl (Nat.le_of_ble_eq_true rfl) dL_law_650 ⟨Nat.le_trans (Nat.le_succ _) hcs.1, Nat.le_trans (Nat.le_add_right _ 6) hcs.2⟩ wL_AQ (wL_AQ (cI := cI) (cJ := cJ) (cO := cO) (ao := ao) (aP := aP) (aS := aS) (g := (vp_updL g 0 (bb.toInt64))) (bT := bT) (bR := bR) (a := a) (q := q) (mm := mm)).symm rfl ?_
    exact model _ _ (vp_updL g 0 (bb.toInt64)) q (nI 0) (Nat.le_succ _) (Nat.le_add_right _ 6) hT (fun _ => rfl) hRl
set_option maxHeartbeats 4000000 in
set_option maxRecDepth 100000 in
theorem case_word {p : Program} {l : Launch} {e : Env} {s : State} {m : MethodId} {args : Array Value} {below : List Frame} {meth : Method} {c : Code} {D : va_G} {A : Nat → Prop} {Q : State → Prop} {cells slots : Nat} {cI cJ cO : ClassId} {rt : Option FieldType} (C : Cx p s m args meth c cL_law 9 wsL_law RL D (tysA cI cJ cO) A rt) (htr : l.stackTraces = false) (XF : Xf0 s A) (XH : xfH s) (hcs : cells + 1 ≤ room_1.cells ∧ slots + 6 ≤ room_1.slots)
    {b L : Nat} {xs : Nat → Int32} (hX : va_X b L xs s s.heap) (hbl : b < s.heap.size) (hbA : ¬ A b) {aP aS ao : Nat} {bT bR a : Nat → Nat} {g : Nat → Int64} {q : PS} {mm : MS} {i : Int32} (hi1 : vp_in (i + nI 1) L) (hi2 : vp_in (i + nI 2) L) (hR : Rl q mm)
    (k : ∀ (g' : Nat → Int64) (q' : PS) (mm' : MS) (kk bb : Int32), Rl q' mm' → gw_G p l e room_1 s m args below meth c D A Q 9 (cells + 1) (slots + 6) (wL cI cJ cO ao g' aP bT bR aS q' a mm') (lvT b aP (a 0) ao i kk bb) 942 []) :
    gw_G p l e room_1 s m args below meth c D A Q 9 cells slots (wL cI cJ cO ao g aP bT bR aS q a mm) (lvI b aP (a 0) ao i) 750 [] := by
  obtain ⟨bb, mm1, hm, hRl, hc⟩ := s_wordC hR (xs (i + nI 1).toNatClampNeg) (xs (i + nI 2).toNatClampNeg)
  have w_m := cwV (R := room_1) (rm := rmOf 4 93) (s := s) (args := args) 2 C.1.2.2.2.2 gL_law_X4_word rfl rfl rfl hd_X4_word ⟨Nat.le_of_ble_eq_true rfl, Nat.le_of_ble_eq_true rfl⟩
  have model : ∀ (cells2 slots2 : Nat) (g' : Nat → Int64) (q' : PS) (kk : Int32), cells2 ≤ cells + 1 → slots2 ≤ slots + 6 → mT mm1 = kk → (kk = 0 → g' 0 = bb.toInt64) → Rl q' mm1 → gw_G p l e room_1 s m args below meth c D A Q 9 cells2 slots2 (wL cI cJ cO ao g' aP bT bR aS q' a mm) (lvI b aP (a 0) ao i) 767 [.int kk] := by
    intro cells2 slots2 g' q' kk hc2 hs2 hT hb hRl
    refine gw_istore (lv' := lvK b aP (a 0) ao i kk) C dL_law_767 (by decide) rfl ?_
    refine gw_aload_n C dL_law_769 3 rfl ?_
    refine gw_aload_n C dL_law_770 1 rfl ?_
    refine gw_iload C dL_law_771 5 rfl ?_
    refine gw_iconst (v := nI 1) C dL_law_773 rfl ?_
    refine gw_iadd C dL_law_774 ?_
    refine gw_sld C hX hbl hbA hi1 dL_law_775 ?_
    refine gw_aload_n C dL_law_776 1 rfl ?_
    refine gw_iload C dL_law_777 5 rfl ?_
    refine gw_iconst (v := nI 2) C dL_law_779 rfl ?_
    refine gw_iadd C dL_law_780 ?_
    refine gw_sld C hX hbl hbA hi2 dL_law_781 ?_
    refine gw_part (v := [(ao, .inl (cJ, 1, .inr (.inl g')))] ++ wP cI cJ cO aP bT bR aS q') (ws' := wL cI cJ cO ao g' aP bT bR aS q' a mm1) (st2 := [.int bb]) C (run_V (rest := []) C (c_X4_word l D cI cJ cO a mm (xs (i + nI 1).toNatClampNeg) (xs (i + nI 2).toNatClampNeg) hm) w_m 0 3 rfl rfl rfl rfl rfl (Nat.le_of_ble_eq_true rfl) dL_law_782 ⟨Nat.le_trans hc2 hcs.1, Nat.le_trans hs2 hcs.2⟩) wL_M wL_M.symm rfl ?_
    refine gw_istore (lv' := lvT b aP (a 0) ao i kk bb) C dL_law_785 (by decide) rfl ?_
    exact law_tail C ⟨Nat.le_trans hc2 hcs.1, Nat.le_trans hs2 hcs.2⟩ dL_law_787 dL_law_788 dL_law_791 dL_law_793 dL_law_798 dL_law_800 dL_law_803 dL_law_804 dL_law_805 dL_law_806 dL_law_808 dL_law_809 dL_law_810 dL_law_815 (by decide) hT hb (gw_wide hc2 hs2 (k g' q' mm1 kk bb hRl))
  refine gw_aload_n C dL_law_750 1 rfl ?_
  refine gw_aload_n C dL_law_751 0 rfl ?_
  refine gw_iload C dL_law_752 4 rfl ?_
  refine gw_iconst (v := nI 1) C dL_law_754 rfl ?_
  refine gw_iadd C dL_law_755 ?_
  refine gw_sld C hX hbl hbA hi1 dL_law_756 ?_
  refine gw_aload_n C dL_law_757 0 rfl ?_
  refine gw_iload C dL_law_758 4 rfl ?_
  refine gw_iconst (v := nI 2) C dL_law_760 rfl ?_
  refine gw_iadd C dL_law_761 ?_
  refine gw_sld C hX hbl hbA hi2 dL_law_762 ?_
  refine gw_aload_n C dL_law_763 3 rfl ?_
  rcases hc with ⟨hf, hT⟩ | ⟨hf, hT⟩
  · refine gw_callH (v := wV cI cJ cO aS q.2 ++ wM cI a mm) (ws' := wL cI cJ cO ao g aP bT bR aS q a mm) (st2 := [.int (nI 1)]) C htr XF XH (c_L_word_T1 l D cI cJ cO aP bT bR aS ao g q.1 (xs (i + nI 1).toNatClampNeg) (xs (i + nI 2).toNatClampNeg) hf) (vx_cwSW (R := room_1) (rm := ({ frames := 7, cells := 1, slots := 6, locals := 120 } : Room)) (s := s) (args := args) 4 C.1.2.2.2.2 gL_law_L_word rfl rfl rfl hd_L_word ⟨Nat.le_of_ble_eq_true rfl, Nat.le_of_ble_eq_true rfl⟩) rfl rfl (Nat.le_of_ble_eq_true rfl) dL_law_764 hcs wL_AQ (wL_AQ (cI := cI) (cJ := cJ) (cO := cO) (ao := ao) (aP := aP) (aS := aS) (g := g) (bT := bT) (bR := bR) (a := a) (q := q) (mm := mm)).symm rfl ?_
    exact model _ _ g q (nI 1) (Nat.le_refl _) (Nat.le_refl _) hT (fun a0 => absurd a0 (by decide)) hRl
  · refine gw_callH (v := wV cI cJ cO aS q.2 ++ wM cI a mm) (ws' := wL cI cJ cO ao (vp_updL g 0 (bb.toInt64)) aP bT bR aS q a mm) (st2 := [.int (nI 0)]) C htr XF XH (c_L_word l D cI cJ cO aP bT bR aS ao g q.1 (xs (i + nI 1).toNatClampNeg) (xs (i + nI 2).toNatClampNeg) hf) (vx_cwSW (R := room_1) (rm := rmOf 5 120) (s := s) (args := args) 4 C.1.2.2.2.2 gL_law_L_word rfl rfl rfl hd_L_word ⟨Nat.le_of_ble_eq_true rfl, Nat.le_of_ble_eq_true rfl⟩) rfl rfl (Nat.le_of_ble_eq_true rfl) dL_law_764 ⟨Nat.le_trans (Nat.le_succ _) hcs.1, Nat.le_trans (Nat.le_add_right _ 6) hcs.2⟩ wL_AQ (wL_AQ (cI := cI) (cJ := cJ) (cO := cO) (ao := ao) (aP := aP) (aS := aS) (g := (vp_updL g 0 (bb.toInt64))) (bT := bT) (bR := bR) (a := a) (q := q) (mm := mm)).symm rfl ?_
    exact model _ _ (vp_updL g 0 (bb.toInt64)) q (nI 0) (Nat.le_succ _) (Nat.le_add_right _ 6) hT (fun _ => rfl) hRl
set_option maxHeartbeats 4000000 in
set_option maxRecDepth 100000 in
theorem case_ifAdded {p : Program} {l : Launch} {e : Env} {s : State} {m : MethodId} {args : Array Value} {below : List Frame} {meth : Method} {c : Code} {D : va_G} {A : Nat → Prop} {Q : State → Prop} {cells slots : Nat} {cI cJ cO : ClassId} {rt : Option FieldType} (C : Cx p s m args meth c cL_law 9 wsL_law RL D (tysA cI cJ cO) A rt) (htr : l.stackTraces = false) (XF : Xf0 s A) (XH : xfH s) (hcs : cells + 1 ≤ room_1.cells ∧ slots + 6 ≤ room_1.slots)
    {b L : Nat} {xs : Nat → Int32} (hX : va_X b L xs s s.heap) (hbl : b < s.heap.size) (hbA : ¬ A b) {aP aS ao : Nat} {bT bR a : Nat → Nat} {g : Nat → Int64} {q : PS} {mm : MS} {i : Int32} (hi1 : vp_in (i + nI 1) L) (hi2 : vp_in (i + nI 2) L) (hR : Rl q mm)
    (k : ∀ (g' : Nat → Int64) (q' : PS) (mm' : MS) (kk bb : Int32), Rl q' mm' → gw_G p l e room_1 s m args below meth c D A Q 9 (cells + 1) (slots + 6) (wL cI cJ cO ao g' aP bT bR aS q' a mm') (lvT b aP (a 0) ao i kk bb) 942 []) :
    gw_G p l e room_1 s m args below meth c D A Q 9 cells slots (wL cI cJ cO ao g aP bT bR aS q a mm) (lvI b aP (a 0) ao i) 818 [] := by
  obtain ⟨bb, mm1, hm, hc⟩ := s_ifAdded hR (xs (i + nI 1).toNatClampNeg)
  have w_m := cwV (R := room_1) (rm := rmOf 9 226) (s := s) (args := args) 1 C.1.2.2.2.2 gL_law_X4_ifAdded rfl rfl rfl hd_X4_ifAdded ⟨Nat.le_of_ble_eq_true rfl, Nat.le_of_ble_eq_true rfl⟩
  have model : ∀ (cells2 slots2 : Nat) (g' : Nat → Int64) (q' : PS) (kk : Int32), cells2 ≤ cells + 1 → slots2 ≤ slots + 6 → mT mm1 = kk → (kk = 0 → g' 0 = bb.toInt64) → Rl q' mm1 → gw_G p l e room_1 s m args below meth c D A Q 9 cells2 slots2 (wL cI cJ cO ao g' aP bT bR aS q' a mm) (lvI b aP (a 0) ao i) 829 [.int kk] := by
    intro cells2 slots2 g' q' kk hc2 hs2 hT hb hRl
    refine gw_istore (lv' := lvK b aP (a 0) ao i kk) C dL_law_829 (by decide) rfl ?_
    refine gw_aload_n C dL_law_831 3 rfl ?_
    refine gw_aload_n C dL_law_832 1 rfl ?_
    refine gw_iload C dL_law_833 5 rfl ?_
    refine gw_iconst (v := nI 1) C dL_law_835 rfl ?_
    refine gw_iadd C dL_law_836 ?_
    refine gw_sld C hX hbl hbA hi1 dL_law_837 ?_
    refine gw_part (v := [(ao, .inl (cJ, 1, .inr (.inl g')))] ++ wP cI cJ cO aP bT bR aS q') (ws' := wL cI cJ cO ao g' aP bT bR aS q' a mm1) (st2 := [.int bb]) C (run_V (rest := []) C (c_X4_ifAdded l D cI cJ cO a mm (xs (i + nI 1).toNatClampNeg) hm) w_m 0 3 rfl rfl rfl rfl rfl (Nat.le_of_ble_eq_true rfl) dL_law_838 ⟨Nat.le_trans hc2 hcs.1, Nat.le_trans hs2 hcs.2⟩) wL_M wL_M.symm rfl ?_
    refine gw_istore (lv' := lvT b aP (a 0) ao i kk bb) C dL_law_841 (by decide) rfl ?_
    exact law_tail C ⟨Nat.le_trans hc2 hcs.1, Nat.le_trans hs2 hcs.2⟩ dL_law_843 dL_law_844 dL_law_847 dL_law_849 dL_law_854 dL_law_856 dL_law_859 dL_law_860 dL_law_861 dL_law_862 dL_law_864 dL_law_865 dL_law_866 dL_law_871 (by decide) hT hb (gw_wide hc2 hs2 (k g' q' mm1 kk bb hRl))
  refine gw_aload_n C dL_law_818 1 rfl ?_
  refine gw_aload_n C dL_law_819 0 rfl ?_
  refine gw_iload C dL_law_820 4 rfl ?_
  refine gw_iconst (v := nI 1) C dL_law_822 rfl ?_
  refine gw_iadd C dL_law_823 ?_
  refine gw_sld C hX hbl hbA hi1 dL_law_824 ?_
  refine gw_aload_n C dL_law_825 3 rfl ?_
  rcases hc with ⟨hf, hT, hRl⟩ | ⟨t1, hf, hT, hRl⟩
  · refine gw_callH (v := wV cI cJ cO aS q.2 ++ wM cI a mm) (ws' := wL cI cJ cO ao g aP bT bR aS q a mm) (st2 := [.int (nI 1)]) C htr XF XH (c_L_ifAdded_T1 l D cI cJ cO aP bT bR aS ao g q.1 (xs (i + nI 1).toNatClampNeg) hf) (vx_cwSW (R := room_1) (rm := ({ frames := 7, cells := 1, slots := 6, locals := 176 } : Room)) (s := s) (args := args) 3 C.1.2.2.2.2 gL_law_L_ifAdded rfl rfl rfl hd_L_ifAdded ⟨Nat.le_of_ble_eq_true rfl, Nat.le_of_ble_eq_true rfl⟩) rfl rfl (Nat.le_of_ble_eq_true rfl) dL_law_826 hcs wL_AQ (wL_AQ (cI := cI) (cJ := cJ) (cO := cO) (ao := ao) (aP := aP) (aS := aS) (g := g) (bT := bT) (bR := bR) (a := a) (q := q) (mm := mm)).symm rfl ?_
    exact model _ _ g q (nI 1) (Nat.le_refl _) (Nat.le_refl _) hT (fun a0 => absurd a0 (by decide)) hRl
  · refine gw_callH (v := wV cI cJ cO aS q.2 ++ wM cI a mm) (ws' := wL cI cJ cO ao (vp_updL g 0 (bb.toInt64)) aP bT bR aS (t1, q.2) a mm) (st2 := [.int (nI 0)]) C htr XF XH (c_L_ifAdded l D cI cJ cO aP bT bR aS ao g q.1 (xs (i + nI 1).toNatClampNeg) hf) (vx_cwSW (R := room_1) (rm := rmOf 7 176) (s := s) (args := args) 3 C.1.2.2.2.2 gL_law_L_ifAdded rfl rfl rfl hd_L_ifAdded ⟨Nat.le_of_ble_eq_true rfl, Nat.le_of_ble_eq_true rfl⟩) rfl rfl (Nat.le_of_ble_eq_true rfl) dL_law_826 ⟨Nat.le_trans (Nat.le_succ _) hcs.1, Nat.le_trans (Nat.le_add_right _ 6) hcs.2⟩ wL_AQ (wL_AQ (cI := cI) (cJ := cJ) (cO := cO) (ao := ao) (aP := aP) (aS := aS) (g := (vp_updL g 0 (bb.toInt64))) (bT := bT) (bR := bR) (a := a) (q := (t1, q.2)) (mm := mm)).symm rfl ?_
    exact model _ _ (vp_updL g 0 (bb.toInt64)) (t1, q.2) (nI 0) (Nat.le_succ _) (Nat.le_add_right _ 6) hT (fun _ => rfl) hRl
