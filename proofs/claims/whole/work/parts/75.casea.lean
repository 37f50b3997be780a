/-! the law's cases: a helper, and the model's call -/
abbrev lvI (b aP aM ao : Nat) (i : Int32) : List (Nat × Value) := [(0, .ref b), (1, .ref aP), (2, .ref aM), (3, .ref ao), (4, .int i)]
abbrev lvK (b aP aM ao : Nat) (i kk : Int32) : List (Nat × Value) := [(5, .int kk), (0, .ref b), (1, .ref aP), (2, .ref aM), (3, .ref ao), (4, .int i)]
section WP
variable {cI cJ cO : ClassId} {ao aP aS : Nat} {g : Nat → Int64} {bT bR a : Nat → Nat} {q : PS} {mm : MS}
theorem wL_M : (wL cI cJ cO ao g aP bT bR aS q a mm).Perm (wM cI a mm ++ ([(ao, .inl (cJ, 1, .inr (.inl g)))] ++ wP cI cJ cO aP bT bR aS q)) := pm_M
theorem wL_P : (wL cI cJ cO ao g aP bT bR aS q a mm).Perm (wP cI cJ cO aP bT bR aS q ++ ([(ao, .inl (cJ, 1, .inr (.inl g)))] ++ wM cI a mm)) := pm_P
theorem wL_AP : (wL cI cJ cO ao g aP bT bR aS q a mm).Perm (([(ao, .inl (cJ, 1, .inr (.inl g)))] ++ wP cI cJ cO aP bT bR aS q) ++ wM cI a mm) := pm_AP
theorem wL_Q : (wL cI cJ cO ao g aP bT bR aS q a mm).Perm (wQ cI cJ aP bT bR aS q.1 ++ ([(ao, .inl (cJ, 1, .inr (.inl g)))] ++ (wV cI cJ cO aS q.2 ++ wM cI a mm))) := by
  rw [wL, ← wP_Q]; exact pm_Q
theorem wL_AQ : (wL cI cJ cO ao g aP bT bR aS q a mm).Perm (([(ao, .inl (cJ, 1, .inr (.inl g)))] ++ wQ cI cJ aP bT bR aS q.1) ++ (wV cI cJ cO aS q.2 ++ wM cI a mm)) := by
  rw [wL, ← wP_Q]; exact pm_AQ
end WP
theorem hd_L_append : yL_append.cls ≠ "java/lang/invoke/MethodHandle" ∧ yL_append.cls ≠ "java/lang/invoke/VarHandle" ∧ (parseMethodDescriptor yL_append.desc).map (fun d => d.parameters.length) = some 3 := by decide +kernel
theorem hd_L_drop : yL_drop.cls ≠ "java/lang/invoke/MethodHandle" ∧ yL_drop.cls ≠ "java/lang/invoke/VarHandle" ∧ (parseMethodDescriptor yL_drop.desc).map (fun d => d.parameters.length) = some 2 := by decide +kernel
theorem hd_L_add : yL_add.cls ≠ "java/lang/invoke/MethodHandle" ∧ yL_add.cls ≠ "java/lang/invoke/VarHandle" ∧ (parseMethodDescriptor yL_add.desc).map (fun d => d.parameters.length) = some 2 := by decide +kernel
theorem hd_L_remove : yL_remove.cls ≠ "java/lang/invoke/MethodHandle" ∧ yL_remove.cls ≠ "java/lang/invoke/VarHandle" ∧ (parseMethodDescriptor yL_remove.desc).map (fun d => d.parameters.length) = some 2 := by decide +kernel
theorem hd_L_pack : yL_pack.cls ≠ "java/lang/invoke/MethodHandle" ∧ yL_pack.cls ≠ "java/lang/invoke/VarHandle" ∧ (parseMethodDescriptor yL_pack.desc).map (fun d => d.parameters.length) = some 2 := by decide +kernel
theorem hd_L_undo : yL_undo.cls ≠ "java/lang/invoke/MethodHandle" ∧ yL_undo.cls ≠ "java/lang/invoke/VarHandle" ∧ (parseMethodDescriptor yL_undo.desc).map (fun d => d.parameters.length) = some 2 := by decide +kernel
theorem hd_L_cell : yL_cell.cls ≠ "java/lang/invoke/MethodHandle" ∧ yL_cell.cls ≠ "java/lang/invoke/VarHandle" ∧ (parseMethodDescriptor yL_cell.desc).map (fun d => d.parameters.length) = some 4 := by decide +kernel
theorem hd_L_end : yL_end.cls ≠ "java/lang/invoke/MethodHandle" ∧ yL_end.cls ≠ "java/lang/invoke/VarHandle" ∧ (parseMethodDescriptor yL_end.desc).map (fun d => d.parameters.length) = some 4 := by decide +kernel
theorem hd_L_letter : yL_letter.cls ≠ "java/lang/invoke/MethodHandle" ∧ yL_letter.cls ≠ "java/lang/invoke/VarHandle" ∧ (parseMethodDescriptor yL_letter.desc).map (fun d => d.parameters.length) = some 4 := by decide +kernel
theorem hd_L_count : yL_count.cls ≠ "java/lang/invoke/MethodHandle" ∧ yL_count.cls ≠ "java/lang/invoke/VarHandle" ∧ (parseMethodDescriptor yL_count.desc).map (fun d => d.parameters.length) = some 3 := by decide +kernel
theorem hd_L_word : yL_word.cls ≠ "java/lang/invoke/MethodHandle" ∧ yL_word.cls ≠ "java/lang/invoke/VarHandle" ∧ (parseMethodDescriptor yL_word.desc).map (fun d => d.parameters.length) = some 4 := by decide +kernel
theorem hd_L_ifAdded : yL_ifAdded.cls ≠ "java/lang/invoke/MethodHandle" ∧ yL_ifAdded.cls ≠ "java/lang/invoke/VarHandle" ∧ (parseMethodDescriptor yL_ifAdded.desc).map (fun d => d.parameters.length) = some 3 := by decide +kernel
set_option maxHeartbeats 4000000 in
set_option maxRecDepth 100000 in
theorem case_append {p : Program} {l : Launch} {e : Env} {s : State} {m : MethodId} {args : Array Value} {below : List Frame} {meth : Method} {c : Code} {D : va_G} {A : Nat → Prop} {Q : State → Prop} {cells slots : Nat} {cI cJ cO : ClassId} {rt : Option FieldType} (C : Cx p s m args meth c cL_law 9 wsL_law RL D (tysA cI cJ cO) A rt) (htr : l.stackTraces = false) (XF : Xf0 s A) (XH : xfH s) (hcs : cells + 1 ≤ room_1.cells ∧ slots + 6 ≤ room_1.slots)
    {b L : Nat} {xs : Nat → Int32} (hX : va_X b L xs s s.heap) (hbl : b < s.heap.size) (hbA : ¬ A b) {aP aS ao : Nat} {bT bR a : Nat → Nat} {g : Nat → Int64} {q : PS} {mm : MS} {i : Int32} (hi1 : vp_in (i + nI 1) L) (hi2 : vp_in (i + nI 2) L) (hR : Rl q mm)
    (k : ∀ (g' : Nat → Int64) (q' : PS) (mm' : MS) (kk bb : Int32), Rl q' mm' → gw_G p l e room_1 s m args below meth c D A Q 9 (cells + 1) (slots + 6) (wL cI cJ cO ao g' aP bT bR aS q' a mm') (lvT b aP (a 0) ao i kk bb) 942 []) :
    gw_G p l e room_1 s m args below meth c D A Q 9 cells slots (wL cI cJ cO ao g aP bT bR aS q a mm) (lvI b aP (a 0) ao i) 136 [] := by
  obtain ⟨bb, mm1, hm, hc⟩ := s_append hR (xs (i + nI 1).toNatClampNeg)
  have w_m := cwV (R := room_1) (rm := rmOf 1 22) (s := s) (args := args) 1 C.1.2.2.2.2 gL_law_X4_append rfl rfl rfl hd_X4_append ⟨Nat.le_of_ble_eq_true rfl, Nat.le_of_ble_eq_true rfl⟩
  have model : ∀ (cells2 slots2 : Nat) (g' : Nat → Int64) (q' : PS) (kk : Int32), cells2 ≤ cells + 1 → slots2 ≤ slots + 6 → mT mm1 = kk → (kk = 0 → g' 0 = bb.toInt64) → Rl q' mm1 → gw_G p l e room_1 s m args below meth c D A Q 9 cells2 slots2 (wL cI cJ cO ao g' aP bT bR aS q' a mm) (lvI b aP (a 0) ao i) 147 [.int kk] := by
    intro cells2 slots2 g' q' kk hc2 hs2 hT hb hRl
    refine gw_istore (lv' := lvK b aP (a 0) ao i kk) C dL_law_147 (by decide) rfl ?_
    refine gw_aload_n C dL_law_149 3 rfl ?_
    refine gw_aload_n C dL_law_150 1 rfl ?_
    refine gw_iload C dL_law_151 5 rfl ?_
    refine gw_iconst (v := nI 1) C dL_law_153 rfl ?_
    refine gw_iadd C dL_law_154 ?_
    refine gw_sld C hX hbl hbA hi1 dL_law_155 ?_
    refine gw_part (v := [(ao, .inl (cJ, 1, .inr (.inl g')))] ++ wP cI cJ cO aP bT bR aS q') (ws' := wL cI cJ cO ao g' aP bT bR aS q' a mm1) (st2 := [.int bb]) C (run_V (rest := []) C (c_X4_append l D cI cJ cO a mm (xs (i + nI 1).toNatClampNeg) hm) w_m 0 3 rfl rfl rfl rfl rfl (Nat.le_of_ble_eq_true rfl) dL_law_156 ⟨Nat.le_trans hc2 hcs.1, Nat.le_trans hs2 hcs.2⟩) wL_M wL_M.symm rfl ?_
    refine gw_istore (lv' := lvT b aP (a 0) ao i kk bb) C dL_law_159 (by decide) rfl ?_
    exact law_tail C ⟨Nat.le_trans hc2 hcs.1, Nat.le_trans hs2 hcs.2⟩ dL_law_161 dL_law_162 dL_law_165 dL_law_167 dL_law_172 dL_law_174 dL_law_177 dL_law_178 dL_law_179 dL_law_180 dL_law_182 dL_law_183 dL_law_184 dL_law_189 (by decide) hT hb (gw_wide hc2 hs2 (k g' q' mm1 kk bb hRl))
  refine gw_aload_n C dL_law_136 1 rfl ?_
  refine gw_aload_n C dL_law_137 0 rfl ?_
  refine gw_iload C dL_law_138 4 rfl ?_
  refine gw_iconst (v := nI 1) C dL_law_140 rfl ?_
  refine gw_iadd C dL_law_141 ?_
  refine gw_sld C hX hbl hbA hi1 dL_law_142 ?_
  refine gw_aload_n C dL_law_143 3 rfl ?_
  rcases hc with ⟨hf, hT, hRl⟩ | ⟨hf, hT, hRl⟩ | ⟨t1, hf, hT, hRl⟩
  · refine gw_callH (v := wV cI cJ cO aS q.2 ++ wM cI a mm) (ws' := wL cI cJ cO ao g aP bT bR aS q a mm) (st2 := [.int (nI 1)]) C htr XF XH (c_L_append_T1 l D cI cJ cO aP bT bR aS ao g q.1 (xs (i + nI 1).toNatClampNeg) hf) (vx_cwSW (R := room_1) (rm := ({ frames := 7, cells := 1, slots := 6, locals := 116 } : Room)) (s := s) (args := args) 3 C.1.2.2.2.2 gL_law_L_append rfl rfl rfl hd_L_append ⟨Nat.le_of_ble_eq_true rfl, Nat.le_of_ble_eq_true rfl⟩) rfl rfl (Nat.le_of_ble_eq_true rfl) dL_law_144 hcs wL_AQ (wL_AQ (cI := cI) (cJ := cJ) (cO := cO) (ao := ao) (aP := aP) (aS := aS) (g := g) (bT := bT) (bR := bR) (a := a) (q := q) (mm := mm)).symm rfl ?_
    exact model _ _ g q (nI 1) (Nat.le_refl _) (Nat.le_refl _) hT (fun a0 => absurd a0 (by decide)) hRl
  · refine gw_callH (v := wV cI cJ cO aS q.2 ++ wM cI a mm) (ws' := wL cI cJ cO ao g aP bT bR aS q a mm) (st2 := [.int (nI 2)]) C htr XF XH (c_L_append_T2 l D cI cJ cO aP bT bR aS ao g q.1 (xs (i + nI 1).toNatClampNeg) hf) (vx_cwSW (R := room_1) (rm := ({ frames := 7, cells := 1, slots := 6, locals := 116 } : Room)) (s := s) (args := args) 3 C.1.2.2.2.2 gL_law_L_append rfl rfl rfl hd_L_append ⟨Nat.le_of_ble_eq_true rfl, Nat.le_of_ble_eq_true rfl⟩) rfl rfl (Nat.le_of_ble_eq_true rfl) dL_law_144 hcs wL_AQ (wL_AQ (cI := cI) (cJ := cJ) (cO := cO) (ao := ao) (aP := aP) (aS := aS) (g := g) (bT := bT) (bR := bR) (a := a) (q := q) (mm := mm)).symm rfl ?_
    exact model _ _ g q (nI 2) (Nat.le_refl _) (Nat.le_refl _) hT (fun a0 => absurd a0 (by decide)) hRl
  · refine gw_callH (v := wV cI cJ cO aS q.2 ++ wM cI a mm) (ws' := wL cI cJ cO ao (vp_updL g 0 (bb.toInt64)) aP bT bR aS (t1, q.2) a mm) (st2 := [.int (nI 0)]) C htr XF XH (c_L_append l D cI cJ cO aP bT bR aS ao g q.1 (xs (i + nI 1).toNatClampNeg) hf) (vx_cwSW (R := room_1) (rm := rmOf 2 44) (s := s) (args := args) 3 C.1.2.2.2.2 gL_law_L_append rfl rfl rfl hd_L_append ⟨Nat.le_of_ble_eq_true rfl, Nat.le_of_ble_eq_true rfl⟩) rfl rfl (Nat.le_of_ble_eq_true rfl) dL_law_144 ⟨Nat.le_trans (Nat.le_succ _) hcs.1, Nat.le_trans (Nat.le_add_right _ 6) hcs.2⟩ wL_AQ (wL_AQ (cI := cI) (cJ := cJ) (cO := cO) (ao := ao) (aP := aP) (aS := aS) (g := (vp_updL g 0 (bb.toInt64))) (bT := bT) (bR := bR) (a := a) (q := (t1, q.2)) (mm := mm)).symm rfl ?_
    exact model _ _ (vp_updL g 0 (bb.toInt64)) (t1, q.2) (nI 0) (Nat.le_succ _) (Nat.le_add_right _ 6) hT (fun _ => rfl) hRl
