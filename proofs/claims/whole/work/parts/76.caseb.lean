set_option maxHeartbeats 4000000 in
set_option maxRecDepth 100000 in
theorem case_drop {p : Program} {l : Launch} {e : Env} {s : State} {m : MethodId} {args : Array Value} {below : List Frame} {meth : Method} {c : Code} {D : va_G} {A : Nat → Prop} {Q : State → Prop} {cells slots : Nat} {cI cJ cO : ClassId} {rt : Option FieldType} (C : Cx p s m args meth c cL_law 9 wsL_law RL D (tysA cI cJ cO) A rt) (htr : l.stackTraces = false) (XF : Xf0 s A) (XH : xfH s) (hcs : cells + 1 ≤ room_1.cells ∧ slots + 6 ≤ room_1.slots)
    {b L : Nat} {xs : Nat → Int32} (hX : va_X b L xs s s.heap) (hbl : b < s.heap.size) (hbA : ¬ A b) {aP aS ao : Nat} {bT bR a : Nat → Nat} {g : Nat → Int64} {q : PS} {mm : MS} {i : Int32} (hi1 : vp_in (i + nI 1) L) (hi2 : vp_in (i + nI 2) L) (hR : Rl q mm)
    (k : ∀ (g' : Nat → Int64) (q' : PS) (mm' : MS) (kk bb : Int32), Rl q' mm' → gw_G p l e room_1 s m args below meth c D A Q 9 (cells + 1) (slots + 6) (wL cI cJ cO ao g' aP bT bR aS q' a mm') (lvT b aP (a 0) ao i kk bb) 942 []) :
    gw_G p l e room_1 s m args below meth c D A Q 9 cells slots (wL cI cJ cO ao g aP bT bR aS q a mm) (lvI b aP (a 0) ao i) 205 [] := by
  obtain ⟨bb, mm1, hm, hc⟩ := s_drop hR 
  have w_m := cwV (R := room_1) (rm := rmOf 0 0) (s := s) (args := args) 0 C.1.2.2.2.2 gL_law_X4_drop rfl rfl rfl hd_X4_drop ⟨Nat.le_of_ble_eq_true rfl, Nat.le_of_ble_eq_true rfl⟩
  have model : ∀ (cells2 slots2 : Nat) (g' : Nat → Int64) (q' : PS) (kk : Int32), cells2 ≤ cells + 1 → slots2 ≤ slots + 6 → mT mm1 = kk → (kk = 0 → g' 0 = bb.toInt64) → Rl q' mm1 → gw_G p l e room_1 s m args below meth c D A Q 9 cells2 slots2 (wL cI cJ cO ao g' aP bT bR aS q' a mm) (lvI b aP (a 0) ao i) 210 [.int kk] := by
    intro cells2 slots2 g' q' kk hc2 hs2 hT hb hRl
    refine gw_istore (lv' := lvK b aP (a 0) ao i kk) C dL_law_210 (by decide) rfl ?_
    refine gw_aload_n C dL_law_212 3 rfl ?_
    refine gw_part (v := [(ao, .inl (cJ, 1, .inr (.inl g')))] ++ wP cI cJ cO aP bT bR aS q') (ws' := wL cI cJ cO ao g' aP bT bR aS q' a mm1) (st2 := [.int bb]) C (run_V (rest := []) C (c_X4_drop l D cI cJ cO a mm hm) w_m 0 3 rfl rfl rfl rfl rfl (Nat.le_of_ble_eq_true rfl) dL_law_213 ⟨Nat.le_trans hc2 hcs.1, Nat.le_trans hs2 hcs.2⟩) wL_M wL_M.symm rfl ?_
    refine gw_istore (lv' := lvT b aP (a 0) ao i kk bb) C dL_law_216 (by decide) rfl ?_
    exact law_tail C ⟨Nat.le_trans hc2 hcs.1, Nat.le_trans hs2 hcs.2⟩ dL_law_218 dL_law_219 dL_law_222 dL_law_224 dL_law_229 dL_law_231 dL_law_234 dL_law_235 dL_law_236 dL_law_237 dL_law_239 dL_law_240 dL_law_241 dL_law_246 (by decide) hT hb (gw_wide hc2 hs2 (k g' q' mm1 kk bb hRl))
  refine gw_aload_n C dL_law_205 1 rfl ?_
  refine gw_aload_n C dL_law_206 3 rfl ?_
  rcases hc with ⟨hf, hT, hRl⟩ | ⟨t1, hf, hT, hRl⟩
  · refine gw_callH (v := wV cI cJ cO aS q.2 ++ wM cI a mm) (ws' := wL cI cJ cO ao g aP bT bR aS q a mm) (st2 := [.int (nI 1)]) C htr XF XH (c_L_drop_T1 l D cI cJ cO aP bT bR aS ao g q.1 hf) (vx_cwSW (R := room_1) (rm := ({ frames := 7, cells := 1, slots := 6, locals := 116 } : Room)) (s := s) (args := args) 2 C.1.2.2.2.2 gL_law_L_drop rfl rfl rfl hd_L_drop ⟨Nat.le_of_ble_eq_true rfl, Nat.le_of_ble_eq_true rfl⟩) rfl rfl (Nat.le_of_ble_eq_true rfl) dL_law_207 hcs wL_AQ (wL_AQ (cI := cI) (cJ := cJ) (cO := cO) (ao := ao) (aP := aP) (aS := aS) (g := g) (bT := bT) (bR := bR) (a := a) (q := q) (mm := mm)).symm rfl ?_
    exact model _ _ g q (nI 1) (Nat.le_refl _) (Nat.le_refl _) hT (fun a0 => absurd a0 (by decide)) hRl
  · refine gw_callH (v := wV cI cJ cO aS q.2 ++ wM cI a mm) (ws' := wL cI cJ cO ao (vp_updL g 0 (bb.toInt64)) aP bT bR aS (t1, q.2) a mm) (st2 := [.int (nI 0)]) C htr XF XH (c_L_drop l D cI cJ cO aP bT bR aS ao g q.1 hf) (vx_cwSW (R := room_1) (rm := rmOf 3 64) (s := s) (args := args) 2 C.1.2.2.2.2 gL_law_L_drop rfl rfl rfl hd_L_drop ⟨Nat.le_of_ble_eq_true rfl, Nat.le_of_ble_eq_true rfl⟩) rfl rfl (Nat.le_of_ble_eq_true rfl) dL_law_207 ⟨Nat.le_trans (Nat.le_succ _) hcs.1, Nat.le_trans (Nat.le_add_right _ 6) hcs.2⟩ wL_AQ (wL_AQ (cI := cI) (cJ := cJ) (cO := cO) (ao := ao) (aP := aP) (aS := aS) (g := (vp_updL g 0 (bb.toInt64))) (bT := bT) (bR := bR) (a := a) (q := (t1, q.2)) (mm := mm)).symm rfl ?_
    exact model _ _ (vp_updL g 0 (bb.toInt64)) (t1, q.2) (nI 0) (Nat.le_succ _) (Nat.le_add_right _ 6) hT (fun _ => rfl) hRl
set_option maxHeartbeats 4000000 in
set_option maxRecDepth 100000 in
theorem case_add {p : Program} {l : Launch} {e : Env} {s : State} {m : MethodId} {args : Array Value} {below : List Frame} {meth : Method} {c : Code} {D : va_G} {A : Nat → Prop} {Q : State → Prop} {cells slots : Nat} {cI cJ cO : ClassId} {rt : Option FieldType} (C : Cx p s m args meth c cL_law 9 wsL_law RL D (tysA cI cJ cO) A rt) (htr : l.stackTraces = false) (XF : Xf0 s A) (XH : xfH s) (hcs : cells + 1 ≤ room_1.cells ∧ slots + 6 ≤ room_1.slots)
    {b L : Nat} {xs : Nat → Int32} (hX : va_X b L xs s s.heap) (hbl : b < s.heap.size) (hbA : ¬ A b) {aP aS ao : Nat} {bT bR a : Nat → Nat} {g : Nat → Int64} {q : PS} {mm : MS} {i : Int32} (hi1 : vp_in (i + nI 1) L) (hi2 : vp_in (i + nI 2) L) (hR : Rl q mm)
    (k : ∀ (g' : Nat → Int64) (q' : PS) (mm' : MS) (kk bb : Int32), Rl q' mm' → gw_G p l e room_1 s m args below meth c D A Q 9 (cells + 1) (slots + 6) (wL cI cJ cO ao g' aP bT bR aS q' a mm') (lvT b aP (a 0) ao i kk bb) 942 []) :
    gw_G p l e room_1 s m args below meth c D A Q 9 cells slots (wL cI cJ cO ao g aP bT bR aS q a mm) (lvI b aP (a 0) ao i) 249 [] := by
  obtain ⟨bb, mm1, hm, hc⟩ := s_add hR 
  have w_m := cwV (R := room_1) (rm := rmOf 8 200) (s := s) (args := args) 0 C.1.2.2.2.2 gL_law_X4_add rfl rfl rfl hd_X4_add ⟨Nat.le_of_ble_eq_true rfl, Nat.le_of_ble_eq_true rfl⟩
  have model : ∀ (cells2 slots2 : Nat) (g' : Nat → Int64) (q' : PS) (kk : Int32), cells2 ≤ cells + 1 → slots2 ≤ slots + 6 → mT mm1 = kk → (kk = 0 → g' 0 = bb.toInt64) → Rl q' mm1 → gw_G p l e room_1 s m args below meth c D A Q 9 cells2 slots2 (wL cI cJ cO ao g' aP bT bR aS q' a mm) (lvI b aP (a 0) ao i) 254 [.int kk] := by
    intro cells2 slots2 g' q' kk hc2 hs2 hT hb hRl
    refine gw_istore (lv' := lvK b aP (a 0) ao i kk) C dL_law_254 (by decide) rfl ?_
    refine gw_aload_n C dL_law_256 3 rfl ?_
    refine gw_part (v := [(ao, .inl (cJ, 1, .inr (.inl g')))] ++ wP cI cJ cO aP bT bR aS q') (ws' := wL cI cJ cO ao g' aP bT bR aS q' a mm1) (st2 := [.int bb]) C (run_V (rest := []) C (c_X4_add l D cI cJ cO a mm hm) w_m 0 3 rfl rfl rfl rfl rfl (Nat.le_of_ble_eq_true rfl) dL_law_257 ⟨Nat.le_trans hc2 hcs.1, Nat.le_trans hs2 hcs.2⟩) wL_M wL_M.symm rfl ?_
    refine gw_istore (lv' := lvT b aP (a 0) ao i kk bb) C dL_law_260 (by decide) rfl ?_
    exact law_tail C ⟨Nat.le_trans hc2 hcs.1, Nat.le_trans hs2 hcs.2⟩ dL_law_262 dL_law_263 dL_law_266 dL_law_268 dL_law_273 dL_law_275 dL_law_278 dL_law_279 dL_law_280 dL_law_281 dL_law_283 dL_law_284 dL_law_285 dL_law_290 (by decide) hT hb (gw_wide hc2 hs2 (k g' q' mm1 kk bb hRl))
  refine gw_aload_n C dL_law_249 1 rfl ?_
  refine gw_aload_n C dL_law_250 3 rfl ?_
  rcases hc with ⟨t1, hf, hT, hRl⟩ | ⟨t1, hf, hT, hRl⟩ | ⟨t1, hf, hT, hRl⟩
  · refine gw_callH (v := wM cI a mm) (ws' := wL cI cJ cO ao g aP bT bR aS t1 a mm) (st2 := [.int (nI 1)]) C htr XF XH (c_L_add_T1 l D cI cJ cO aP bT bR aS ao g q hf) (vx_cwSW (R := room_1) (rm := ({ frames := 7, cells := 1, slots := 6, locals := 182 } : Room)) (s := s) (args := args) 2 C.1.2.2.2.2 gL_law_L_add rfl rfl rfl hd_L_add ⟨Nat.le_of_ble_eq_true rfl, Nat.le_of_ble_eq_true rfl⟩) rfl rfl (Nat.le_of_ble_eq_true rfl) dL_law_251 hcs wL_AP (wL_AP (cI := cI) (cJ := cJ) (cO := cO) (ao := ao) (aP := aP) (aS := aS) (g := g) (bT := bT) (bR := bR) (a := a) (q := t1) (mm := mm)).symm rfl ?_
    exact model _ _ g t1 (nI 1) (Nat.le_refl _) (Nat.le_refl _) hT (fun a0 => absurd a0 (by decide)) hRl
  · refine gw_callH (v := wM cI a mm) (ws' := wL cI cJ cO ao g aP bT bR aS t1 a mm) (st2 := [.int (nI 2)]) C htr XF XH (c_L_add_T2 l D cI cJ cO aP bT bR aS ao g q hf) (vx_cwSW (R := room_1) (rm := ({ frames := 7, cells := 1, slots := 6, locals := 182 } : Room)) (s := s) (args := args) 2 C.1.2.2.2.2 gL_law_L_add rfl rfl rfl hd_L_add ⟨Nat.le_of_ble_eq_true rfl, Nat.le_of_ble_eq_true rfl⟩) rfl rfl (Nat.le_of_ble_eq_true rfl) dL_law_251 hcs wL_AP (wL_AP (cI := cI) (cJ := cJ) (cO := cO) (ao := ao) (aP := aP) (aS := aS) (g := g) (bT := bT) (bR := bR) (a := a) (q := t1) (mm := mm)).symm rfl ?_
    exact model _ _ g t1 (nI 2) (Nat.le_refl _) (Nat.le_refl _) hT (fun a0 => absurd a0 (by decide)) hRl
  · refine gw_callH (v := wM cI a mm) (ws' := wL cI cJ cO ao (vp_updL g 0 (bb.toInt64)) aP bT bR aS t1 a mm) (st2 := [.int (nI 0)]) C htr XF XH (c_L_add l D cI cJ cO aP bT bR aS ao g q hf) (vx_cwSW (R := room_1) (rm := rmOf 7 182) (s := s) (args := args) 2 C.1.2.2.2.2 gL_law_L_add rfl rfl rfl hd_L_add ⟨Nat.le_of_ble_eq_true rfl, Nat.le_of_ble_eq_true rfl⟩) rfl rfl (Nat.le_of_ble_eq_true rfl) dL_law_251 ⟨Nat.le_trans (Nat.le_succ _) hcs.1, Nat.le_trans (Nat.le_add_right _ 6) hcs.2⟩ wL_AP (wL_AP (cI := cI) (cJ := cJ) (cO := cO) (ao := ao) (aP := aP) (aS := aS) (g := (vp_updL g 0 (bb.toInt64))) (bT := bT) (bR := bR) (a := a) (q := t1) (mm := mm)).symm rfl ?_
    exact model _ _ (vp_updL g 0 (bb.toInt64)) t1 (nI 0) (Nat.le_succ _) (Nat.le_add_right _ 6) hT (fun _ => rfl) hRl
set_option maxHeartbeats 4000000 in
set_option maxRecDepth 100000 in
theorem case_remove {p : Program} {l : Launch} {e : Env} {s : State} {m : MethodId} {args : Array Value} {below : List Frame} {meth : Method} {c : Code} {D : va_G} {A : Nat → Prop} {Q : State → Prop} {cells slots : Nat} {cI cJ cO : ClassId} {rt : Option FieldType} (C : Cx p s m args meth c cL_law 9 wsL_law RL D (tysA cI cJ cO) A rt) (htr : l.stackTraces = false) (XF : Xf0 s A) (XH : xfH s) (hcs : cells + 1 ≤ room_1.cells ∧ slots + 6 ≤ room_1.slots)
    {b L : Nat} {xs : Nat → Int32} (hX : va_X b L xs s s.heap) (hbl : b < s.heap.size) (hbA : ¬ A b) {aP aS ao : Nat} {bT bR a : Nat → Nat} {g : Nat → Int64} {q : PS} {mm : MS} {i : Int32} (hi1 : vp_in (i + nI 1) L) (hi2 : vp_in (i + nI 2) L) (hR : Rl q mm)
    (k : ∀ (g' : Nat → Int64) (q' : PS) (mm' : MS) (kk bb : Int32), Rl q' mm' → gw_G p l e room_1 s m args below meth c D A Q 9 (cells + 1) (slots + 6) (wL cI cJ cO ao g' aP bT bR aS q' a mm') (lvT b aP (a 0) ao i kk bb) 942 []) :
    gw_G p l e room_1 s m args below meth c D A Q 9 cells slots (wL cI cJ cO ao g aP bT bR aS q a mm) (lvI b aP (a 0) ao i) 293 [] := by
  obtain ⟨bb, mm1, hm, hc⟩ := s_remove hR 
  have w_m := cwV (R := room_1) (rm := rmOf 4 92) (s := s) (args := args) 0 C.1.2.2.2.2 gL_law_X4_remove rfl rfl rfl hd_X4_remove ⟨Nat.le_of_ble_eq_true rfl, Nat.le_of_ble_eq_true rfl⟩
  have model : ∀ (cells2 slots2 : Nat) (g' : Nat → Int64) (q' : PS) (kk : Int32), cells2 ≤ cells + 1 → slots2 ≤ slots + 6 → mT mm1 = kk → (kk = 0 → g' 0 = bb.toInt64) → Rl q' mm1 → gw_G p l e room_1 s m args below meth c D A Q 9 cells2 slots2 (wL cI cJ cO ao g' aP bT bR aS q' a mm) (lvI b aP (a 0) ao i) 298 [.int kk] := by
    intro cells2 slots2 g' q' kk hc2 hs2 hT hb hRl
    refine gw_istore (lv' := lvK b aP (a 0) ao i kk) C dL_law_298 (by decide) rfl ?_
    refine gw_aload_n C dL_law_300 3 rfl ?_
    refine gw_part (v := [(ao, .inl (cJ, 1, .inr (.inl g')))] ++ wP cI cJ cO aP bT bR aS q') (ws' := wL cI cJ cO ao g' aP bT bR aS q' a mm1) (st2 := [.int bb]) C (run_V (rest := []) C (c_X4_remove l D cI cJ cO a mm hm) w_m 0 3 rfl rfl rfl rfl rfl (Nat.le_of_ble_eq_true rfl) dL_law_301 ⟨Nat.le_trans hc2 hcs.1, Nat.le_trans hs2 hcs.2⟩) wL_M wL_M.symm rfl ?_
    refine gw_istore (lv' := lvT b aP (a 0) ao i kk bb) C dL_law_304 (by decide) rfl ?_
    exact law_tail C ⟨Nat.le_trans hc2 hcs.1, Nat.le_trans hs2 hcs.2⟩ dL_law_306 dL_law_307 dL_law_310 dL_law_312 dL_law_317 dL_law_319 dL_law_322 dL_law_323 dL_law_324 dL_law_325 dL_law_327 dL_law_328 dL_law_329 dL_law_334 (by decide) hT hb (gw_wide hc2 hs2 (k g' q' mm1 kk bb hRl))
  refine gw_aload_n C dL_law_293 1 rfl ?_
  refine gw_aload_n C dL_law_294 3 rfl ?_
  rcases hc with ⟨hf, hT, hRl⟩ | ⟨hf, hT, hRl⟩ | ⟨t1, hf, hT, hRl⟩
  · refine gw_callH (v := wM cI a mm) (ws' := wL cI cJ cO ao g aP bT bR aS q a mm) (st2 := [.int (nI 1)]) C htr XF XH (c_L_remove_T1 l D cI cJ cO aP bT bR aS ao g q hf) (vx_cwSW (R := room_1) (rm := ({ frames := 7, cells := 1, slots := 6, locals := 182 } : Room)) (s := s) (args := args) 2 C.1.2.2.2.2 gL_law_L_remove rfl rfl rfl hd_L_remove ⟨Nat.le_of_ble_eq_true rfl, Nat.le_of_ble_eq_true rfl⟩) rfl rfl (Nat.le_of_ble_eq_true rfl) dL_law_295 hcs wL_AP (wL_AP (cI := cI) (cJ := cJ) (cO := cO) (ao := ao) (aP := aP) (aS := aS) (g := g) (bT := bT) (bR := bR) (a := a) (q := q) (mm := mm)).symm rfl ?_
    exact model _ _ g q (nI 1) (Nat.le_refl _) (Nat.le_refl _) hT (fun a0 => absurd a0 (by decide)) hRl
  · refine gw_callH (v := wM cI a mm) (ws' := wL cI cJ cO ao g aP bT bR aS q a mm) (st2 := [.int (nI 2)]) C htr XF XH (c_L_remove_T2 l D cI cJ cO aP bT bR aS ao g q hf) (vx_cwSW (R := room_1) (rm := ({ frames := 7, cells := 1, slots := 6, locals := 182 } : Room)) (s := s) (args := args) 2 C.1.2.2.2.2 gL_law_L_remove rfl rfl rfl hd_L_remove ⟨Nat.le_of_ble_eq_true rfl, Nat.le_of_ble_eq_true rfl⟩) rfl rfl (Nat.le_of_ble_eq_true rfl) dL_law_295 hcs wL_AP (wL_AP (cI := cI) (cJ := cJ) (cO := cO) (ao := ao) (aP := aP) (aS := aS) (g := g) (bT := bT) (bR := bR) (a := a) (q := q) (mm := mm)).symm rfl ?_
    exact model _ _ g q (nI 2) (Nat.le_refl _) (Nat.le_refl _) hT (fun a0 => absurd a0 (by decide)) hRl
  · refine gw_callH (v := wM cI a mm) (ws' := wL cI cJ cO ao (vp_updL g 0 (bb.toInt64)) aP bT bR aS t1 a mm) (st2 := [.int (nI 0)]) C htr XF XH (c_L_remove l D cI cJ cO aP bT bR aS ao g q hf) (vx_cwSW (R := room_1) (rm := rmOf 6 182) (s := s) (args := args) 2 C.1.2.2.2.2 gL_law_L_remove rfl rfl rfl hd_L_remove ⟨Nat.le_of_ble_eq_true rfl, Nat.le_of_ble_eq_true rfl⟩) rfl rfl (Nat.le_of_ble_eq_true rfl) dL_law_295 ⟨Nat.le_trans (Nat.le_succ _) hcs.1, Nat.le_trans (Nat.le_add_right _ 6) hcs.2⟩ wL_AP (wL_AP (cI := cI) (cJ := cJ) (cO := cO) (ao := ao) (aP := aP) (aS := aS) (g := (vp_updL g 0 (bb.toInt64))) (bT := bT) (bR := bR) (a := a) (q := t1) (mm := mm)).symm rfl ?_
    exact model _ _ (vp_updL g 0 (bb.toInt64)) t1 (nI 0) (Nat.le_succ _) (Nat.le_add_right _ 6) hT (fun _ => rfl) hRl
set_option maxHeartbeats 4000000 in
set_option maxRecDepth 100000 in
theorem case_pack {p : Program} {l : Launch} {e : Env} {s : State} {m : MethodId} {args : Array Value} {below : List Frame} {meth : Method} {c : Code} {D : va_G} {A : Nat → Prop} {Q : State → Prop} {cells slots : Nat} {cI cJ cO : ClassId} {rt : Option FieldType} (C : Cx p s m args meth c cL_law 9 wsL_law RL D (tysA cI cJ cO) A rt) (htr : l.stackTraces = false) (XF : Xf0 s A) (XH : xfH s) (hcs : cells + 1 ≤ room_1.cells ∧ slots + 6 ≤ room_1.slots)
    {b L : Nat} {xs : Nat → Int32} (hX : va_X b L xs s s.heap) (hbl : b < s.heap.size) (hbA : ¬ A b) {aP aS ao : Nat} {bT bR a : Nat → Nat} {g : Nat → Int64} {q : PS} {mm : MS} {i : Int32} (hi1 : vp_in (i + nI 1) L) (hi2 : vp_in (i + nI 2) L) (hR : Rl q mm)
    (k : ∀ (g' : Nat → Int64) (q' : PS) (mm' : MS) (kk bb : Int32), Rl q' mm' → gw_G p l e room_1 s m args below meth c D A Q 9 (cells + 1) (slots + 6) (wL cI cJ cO ao g' aP bT bR aS q' a mm') (lvT b aP (a 0) ao i kk bb) 942 []) :
    gw_G p l e room_1 s m args below meth c D A Q 9 cells slots (wL cI cJ cO ao g aP bT bR aS q a mm) (lvI b aP (a 0) ao i) 350 [] := by
  obtain ⟨bb, mm1, hm, hc⟩ := s_pack hR 
  have w_m := cwV (R := room_1) (rm := rmOf 8 203) (s := s) (args := args) 0 C.1.2.2.2.2 gL_law_X4_pack rfl rfl rfl hd_X4_pack ⟨Nat.le_of_ble_eq_true rfl, Nat.le_of_ble_eq_true rfl⟩
  have model : ∀ (cells2 slots2 : Nat) (g' : Nat → Int64) (q' : PS) (kk : Int32), cells2 ≤ cells + 1 → slots2 ≤ slots + 6 → mT mm1 = kk → (kk = 0 → g' 0 = bb.toInt64) → Rl q' mm1 → gw_G p l e room_1 s m args below meth c D A Q 9 cells2 slots2 (wL cI cJ cO ao g' aP bT bR aS q' a mm) (lvI b aP (a 0) ao i) 355 [.int kk] := by
    intro cells2 slots2 g' q' kk hc2 hs2 hT hb hRl
    refine gw_istore (lv' := lvK b aP (a 0) ao i kk) C dL_law_355 (by decide) rfl ?_
    refine gw_aload_n C dL_law_357 3 rfl ?_
    refine gw_part (v := [(ao, .inl (cJ, 1, .inr (.inl g')))] ++ wP cI cJ cO aP bT bR aS q') (ws' := wL cI cJ cO ao g' aP bT bR aS q' a mm1) (st2 := [.int bb]) C (run_V (rest := []) C (c_X4_pack l D cI cJ cO a mm hm) w_m 0 3 rfl rfl rfl rfl rfl (Nat.le_of_ble_eq_true rfl) dL_law_358 ⟨Nat.le_trans hc2 hcs.1, Nat.le_trans hs2 hcs.2⟩) wL_M wL_M.symm rfl ?_
    refine gw_istore (lv' := lvT b aP (a 0) ao i kk bb) C dL_law_361 (by decide) rfl ?_
    exact law_tail C ⟨Nat.le_trans hc2 hcs.1, Nat.le_trans hs2 hcs.2⟩ dL_law_363 dL_law_364 dL_law_367 dL_law_369 dL_law_374 dL_law_376 dL_law_379 dL_law_380 dL_law_381 dL_law_382 dL_law_384 dL_law_385 dL_law_386 dL_law_391 (by decide) hT hb (gw_wide hc2 hs2 (k g' q' mm1 kk bb hRl))
  refine gw_aload_n C dL_law_350 1 rfl ?_
  refine gw_aload_n C dL_law_351 3 rfl ?_
  rcases hc with ⟨t1, hf, hT, hRl⟩ | ⟨t1, hf, hT, hRl⟩
  · refine gw_callH (v := wM cI a mm) (ws' := wL cI cJ cO ao g aP bT bR aS t1 a mm) (st2 := [.int (nI 1)]) C htr XF XH (c_L_pack_T1 l D cI cJ cO aP bT bR aS ao g q hf) (vx_cwSW (R := room_1) (rm := ({ frames := 7, cells := 1, slots := 6, locals := 183 } : Room)) (s := s) (args := args) 2 C.1.2.2.2.2 gL_law_L_pack rfl rfl rfl hd_L_pack ⟨Nat.le_of_ble_eq_true rfl, Nat.le_of_ble_eq_true rfl⟩) rfl rfl (Nat.le_of_ble_eq_true rfl) dL_law_352 hcs wL_AP (wL_AP (cI := cI) (cJ := cJ) (cO := cO) (ao := ao) (aP := aP) (aS := aS) (g := g) (bT := bT) (bR := bR) (a := a) (q := t1) (mm := mm)).symm rfl ?_
    exact model _ _ g t1 (nI 1) (Nat.le_refl _) (Nat.le_refl _) hT (fun a0 => absurd a0 (by decide)) hRl
  · refine gw_callH (v := wM cI a mm) (ws' := wL cI cJ cO ao (vp_updL g 0 (bb.toInt64)) aP bT bR aS t1 a mm) (st2 := [.int (nI 0)]) C htr XF XH (c_L_pack l D cI cJ cO aP bT bR aS ao g q hf) (vx_cwSW (R := room_1) (rm := rmOf 7 183) (s := s) (args := args) 2 C.1.2.2.2.2 gL_law_L_pack rfl rfl rfl hd_L_pack ⟨Nat.le_of_ble_eq_true rfl, Nat.le_of_ble_eq_true rfl⟩) rfl rfl (Nat.le_of_ble_eq_true rfl) dL_law_352 ⟨Nat.le_trans (Nat.le_succ _) hcs.1, Nat.le_trans (Nat.le_add_right _ 6) hcs.2⟩ wL_AP (wL_AP (cI := cI) (cJ := cJ) (cO := cO) (ao := ao) (aP := aP) (aS := aS) (g := (vp_updL g 0 (bb.toInt64))) (bT := bT) (bR := bR) (a := a) (q := t1) (mm := mm)).symm rfl ?_
    exact model _ _ (vp_updL g 0 (bb.toInt64)) t1 (nI 0) (Nat.le_succ _) (Nat.le_add_right _ 6) hT (fun _ => rfl) hRl
set_option maxHeartbeats 4000000 in
set_option maxRecDepth 100000 in
theorem case_undo {p : Program} {l : Launch} {e : Env} {s : State} {m : MethodId} {args : Array Value} {below : List Frame} {meth : Method} {c : Code} {D : va_G} {A : Nat → Prop} {Q : State → Prop} {cells slots : Nat} {cI cJ cO : ClassId} {rt : Option FieldType} (C : Cx p s m args meth c cL_law 9 wsL_law RL D (tysA cI cJ cO) A rt) (htr : l.stackTraces = false) (XF : Xf0 s A) (XH : xfH s) (hcs : cells + 1 ≤ room_1.cells ∧ slots + 6 ≤ room_1.slots)
    {b L : Nat} {xs : Nat → Int32} (hX : va_X b L xs s s.heap) (hbl : b < s.heap.size) (hbA : ¬ A b) {aP aS ao : Nat} {bT bR a : Nat → Nat} {g : Nat → Int64} {q : PS} {mm : MS} {i : Int32} (hi1 : vp_in (i + nI 1) L) (hi2 : vp_in (i + nI 2) L) (hR : Rl q mm)
    (k : ∀ (g' : Nat → Int64) (q' : PS) (mm' : MS) (kk bb : Int32), Rl q' mm' → gw_G p l e room_1 s m args below meth c D A Q 9 (cells + 1) (slots + 6) (wL cI cJ cO ao g' aP bT bR aS q' a mm') (lvT b aP (a 0) ao i kk bb) 942 []) :
    gw_G p l e room_1 s m args below meth c D A Q 9 cells slots (wL cI cJ cO ao g aP bT bR aS q a mm) (lvI b aP (a 0) ao i) 394 [] := by
  obtain ⟨bb, mm1, hm, hc⟩ := s_undo hR 
  have w_m := cwV (R := room_1) (rm := rmOf 0 0) (s := s) (args := args) 0 C.1.2.2.2.2 gL_law_X4_undo rfl rfl rfl hd_X4_undo ⟨Nat.le_of_ble_eq_true rfl, Nat.le_of_ble_eq_true rfl⟩
  have model : ∀ (cells2 slots2 : Nat) (g' : Nat → Int64) (q' : PS) (kk : Int32), cells2 ≤ cells + 1 → slots2 ≤ slots + 6 → mT mm1 = kk → (kk = 0 → g' 0 = bb.toInt64) → Rl q' mm1 → gw_G p l e room_1 s m args below meth c D A Q 9 cells2 slots2 (wL cI cJ cO ao g' aP bT bR aS q' a mm) (lvI b aP (a 0) ao i) 399 [.int kk] := by
    intro cells2 slots2 g' q' kk hc2 hs2 hT hb hRl
    refine gw_istore (lv' := lvK b aP (a 0) ao i kk) C dL_law_399 (by decide) rfl ?_
    refine gw_aload_n C dL_law_401 3 rfl ?_
    refine gw_part (v := [(ao, .inl (cJ, 1, .inr (.inl g')))] ++ wP cI cJ cO aP bT bR aS q') (ws' := wL cI cJ cO ao g' aP bT bR aS q' a mm1) (st2 := [.int bb]) C (run_V (rest := []) C (c_X4_undo l D cI cJ cO a mm hm) w_m 0 3 rfl rfl rfl rfl rfl (Nat.le_of_ble_eq_true rfl) dL_law_402 ⟨Nat.le_trans hc2 hcs.1, Nat.le_trans hs2 hcs.2⟩) wL_M wL_M.symm rfl ?_
    refine gw_istore (lv' := lvT b aP (a 0) ao i kk bb) C dL_law_405 (by decide) rfl ?_
    exact law_tail C ⟨Nat.le_trans hc2 hcs.1, Nat.le_trans hs2 hcs.2⟩ dL_law_407 dL_law_408 dL_law_411 dL_law_413 dL_law_418 dL_law_420 dL_law_423 dL_law_424 dL_law_425 dL_law_426 dL_law_428 dL_law_429 dL_law_430 dL_law_435 (by decide) hT hb (gw_wide hc2 hs2 (k g' q' mm1 kk bb hRl))
  refine gw_aload_n C dL_law_394 1 rfl ?_
  refine gw_aload_n C dL_law_395 3 rfl ?_
  rcases hc with ⟨hf, hT, hRl⟩ | ⟨n, hn, hf, rfl, hT, hRl⟩
  · refine gw_callH (v := wM cI a mm) (ws' := wL cI cJ cO ao g aP bT bR aS q a mm) (st2 := [.int (nI 1)]) C htr XF XH (c_L_undo_T1 l D cI cJ cO aP bT bR aS ao g q.1 q.2 hf) (vx_cwSW (R := room_1) (rm := ({ frames := 7, cells := 1, slots := 6, locals := 131 } : Room)) (s := s) (args := args) 2 C.1.2.2.2.2 gL_law_L_undo rfl rfl rfl hd_L_undo ⟨Nat.le_of_ble_eq_true rfl, Nat.le_of_ble_eq_true rfl⟩) rfl rfl (Nat.le_of_ble_eq_true rfl) dL_law_396 hcs wL_AP (wL_AP (cI := cI) (cJ := cJ) (cO := cO) (ao := ao) (aP := aP) (aS := aS) (g := g) (bT := bT) (bR := bR) (a := a) (q := q) (mm := mm)).symm rfl ?_
    exact model _ _ g q (nI 1) (Nat.le_refl _) (Nat.le_refl _) hT (fun a0 => absurd a0 (by decide)) hRl
  · refine gw_callH (v := wM cI a mm) (ws' := wL cI cJ cO ao (vp_updL g 0 ((nI n).toInt64)) aP bT bR aS (sQT (sQN q.1 (nI n)) (q.2.2 n), q.2) a mm) (st2 := [.int (nI 0)]) C htr XF XH (c_L_undo l D cI cJ cO aP bT bR aS ao g q.1 q.2 n hn hf) (vx_cwSW (R := room_1) (rm := rmOf 5 131) (s := s) (args := args) 2 C.1.2.2.2.2 gL_law_L_undo rfl rfl rfl hd_L_undo ⟨Nat.le_of_ble_eq_true rfl, Nat.le_of_ble_eq_true rfl⟩) rfl rfl (Nat.le_of_ble_eq_true rfl) dL_law_396 ⟨Nat.le_trans (Nat.le_succ _) hcs.1, Nat.le_trans (Nat.le_add_right _ 6) hcs.2⟩ wL_AP (wL_AP (cI := cI) (cJ := cJ) (cO := cO) (ao := ao) (aP := aP) (aS := aS) (g := (vp_updL g 0 ((nI n).toInt64))) (bT := bT) (bR := bR) (a := a) (q := (sQT (sQN q.1 (nI n)) (q.2.2 n), q.2)) (mm := mm)).symm rfl ?_
    exact model _ _ (vp_updL g 0 ((nI n).toInt64)) (sQT (sQN q.1 (nI n)) (q.2.2 n), q.2) (nI 0) (Nat.le_succ _) (Nat.le_add_right _ 6) hT (fun _ => rfl) hRl
