/-! the law's loop: behind a helper and the model's call -/
abbrev lvT (b aP aM ao : Nat) (i kk bb : Int32) : List (Nat × Value) := [(6, .int bb), (5, .int kk), (0, .ref b), (1, .ref aP), (2, .ref aM), (3, .ref ao), (4, .int i)]
set_option maxHeartbeats 4000000 in
set_option maxRecDepth 100000 in
theorem law_tail {p : Program} {l : Launch} {e : Env} {s : State} {m : MethodId} {args : Array Value} {below : List Frame} {meth : Method} {c : Code} {D : va_G} {A : Nat → Prop} {Q : State → Prop} {cells slots : Nat} {cI cJ cO : ClassId} {rt : Option FieldType} (C : Cx p s m args meth c cL_law 9 wsL_law RL D (tysA cI cJ cO) A rt) (hcs : cells ≤ room_1.cells ∧ slots ≤ room_1.slots)
    {b aP aS ao : Nat} {bT bR a : Nat → Nat} {g : Nat → Int64} {q : PS} {mm : MS} {i kk bb : Int32} {P : Nat} {off : Int}
    (d0 : decode cL_law P = .ok (.aload_n 2, 1)) (d1 : decode cL_law (P + 1) = .ok (.invokevirtual 64, 3)) (d4 : decode cL_law (P + 4) = .ok (.iload 5, 2)) (d6 : decode cL_law (P + 6) = .ok (.if_icmp .eq 5, 3)) (d11 : decode cL_law (P + 11) = .ok (.iload 5, 2)) (d13 : decode cL_law (P + 13) = .ok (.ifCond .ne 15, 3)) (d16 : decode cL_law (P + 16) = .ok (.aload_n 3, 1)) (d17 : decode cL_law (P + 17) = .ok (.iconst 0, 1)) (d18 : decode cL_law (P + 18) = .ok (.laload, 1)) (d19 : decode cL_law (P + 19) = .ok (.iload 6, 2)) (d21 : decode cL_law (P + 21) = .ok (.i2l, 1)) (d22 : decode cL_law (P + 22) = .ok (.lcmp, 1)) (d23 : decode cL_law (P + 23) = .ok (.ifCond .eq 5, 3)) (d28 : decode cL_law (P + 28) = .ok (.goto off, 3)) (ht : ((P + 28 : Nat) : Int) + off = ((942 : Nat) : Int))
    (hT : mT mm = kk) (hb : kk = 0 → g 0 = bb.toInt64)
    (k : gw_G p l e room_1 s m args below meth c D A Q 9 cells slots (wL cI cJ cO ao g aP bT bR aS q a mm) (lvT b aP (a 0) ao i kk bb) 942 []) :
    gw_G p l e room_1 s m args below meth c D A Q 9 cells slots (wL cI cJ cO ao g aP bT bR aS q a mm) (lvT b aP (a 0) ao i kk bb) P [] := by
  have w_thrown := cwV (R := room_1) (rm := rmOf 0 0) (s := s) (args := args) 0 C.1.2.2.2.2 gL_law_X4_thrown rfl rfl rfl hd_X4_thrown ⟨Nat.le_of_ble_eq_true rfl, Nat.le_of_ble_eq_true rfl⟩
  have hth : fM_thrown mm = kk := hT
  refine gw_aload_n C d0 4 rfl ?_
  refine gw_part (v := [(ao, .inl (cJ, 1, .inr (.inl g)))] ++ wP cI cJ cO aP bT bR aS q) (ws' := wL cI cJ cO ao g aP bT bR aS q a mm) (st2 := [.int kk]) C (run_V (rest := []) C (c_X4_thrown l D cI cJ cO a mm hth) w_thrown 0 3 rfl rfl rfl rfl rfl (Nat.le_of_ble_eq_true rfl) d1 hcs) pm_M pm_M.symm rfl ?_
  refine gw_iload C d4 1 rfl ?_
  refine gw_icmp_eq (Φ := fun _ : Unit => True) (X := ()) (Y := ()) (tgt := P + 11) C d6 (by omega) trivial (fun _ _ => ?_) (fun c1 _ => absurd rfl c1)
  refine gw_iload C d11 1 rfl ?_
  refine gw_if_ne (Φ := fun _ : Unit => True) (X := ()) (Y := ()) (tgt := P + 28) C d13 (by omega) trivial (fun c0 _ => ?_) (fun _ _ => gw_goto (tgt := 942) C d28 ht k)
  refine gw_aload_n C d16 5 rfl ?_
  refine gw_iconst (v := nI 0) C d17 rfl ?_
  refine gw_lald (a := ao) (cA := cJ) (n := 1) (f := g) C d18 0 1 rfl rfl (nI_in (by decide) (by decide)) ?_
  rw [nI_clamp (by decide)]
  refine gw_iload C d19 0 rfl ?_
  refine gw_i2l C d21 ?_
  refine gw_lcmp_eq (Φ := fun _ : Unit => True) (X := ()) (Y := ()) (tgt := P + 28) C d22 d23 (by omega) trivial (fun _ _ => gw_goto (tgt := 942) C d28 ht k) (fun c1 _ => absurd (hb c0) c1)
