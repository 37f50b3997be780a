/-! the saved tables, and the whole object -/
abbrev VS : Type := (Nat → Nat → Nat) × (Nat → TS)
abbrev PS : Type := QS × VS
def wR (cO : ClassId) (aS : Nat) (f : Nat → Option Nat) : va_W := [(aS, .inl (cO, 6, .inr (.inr (.inr (.inr f)))))]
def w6 (cI cJ : ClassId) (v : VS) : va_W := wT cI cJ (v.1 0) (v.2 0) ++ (wT cI cJ (v.1 1) (v.2 1) ++ (wT cI cJ (v.1 2) (v.2 2) ++ (wT cI cJ (v.1 3) (v.2 3) ++ (wT cI cJ (v.1 4) (v.2 4) ++ wT cI cJ (v.1 5) (v.2 5)))))
def wP (cI cJ cO : ClassId) (aP : Nat) (bT bR : Nat → Nat) (aS : Nat) (t : PS) : va_W := wQ cI cJ aP bT bR aS t.1 ++ (wR cO aS (fun i => some (t.2.1 i 0)) ++ w6 cI cJ t.2)
def rotI : Nat → Nat
  | 0 => 1
  | 1 => 2
  | 2 => 3
  | 3 => 4
  | 4 => 5
  | _ => 0
def rotV (v : VS) : VS := (fun i => v.1 (rotI i), fun i => v.2 (rotI i))
def setV (v : VS) (k : Nat) (t : TS) : VS := (v.1, fun i => if i = k then t else v.2 i)
def rotF (v : VS) : Nat → Nat → Option Nat
  | 0, j => some (v.1 j 0)
  | k + 1, j => if j = k then some (v.1 (k + 1) 0) else rotF v k j
theorem gw_cxq {cA : ClassId} {n : Nat} {f g : Nat → Option Nat} (h : ∀ k, k < n → f k = g k) : vp_cell cA (n, .inr (.inr (.inr (.inr f)))) = vp_cell cA (n, .inr (.inr (.inr (.inr g)))) := by
  show arrV cA n (fun j => va_rf (f j)) = arrV cA n (fun j => va_rf (g j))
  unfold arrV
  rw [show (fun j : Fin n => va_rf (f j.val)) = (fun j : Fin n => va_rf (g j.val)) from funext fun j => by rw [h j.val j.isLt]]
section GP
variable {p : Program} {l : Launch} {e : Env} {R : Room} {s : State} {m : MethodId} {args : Array Value} {below : List Frame} {meth : Method} {c : Code} {D : va_G} {A : Nat → Prop} {Q : State → Prop} {nL cells slots : Nat} {ws : va_W} {lv : List (Nat × Value)} {pc : Nat} {st : List Value}
theorem gw_perm {ws' : va_W} (perm : List Nat) (hp : perm.map (fun i => ws[i]?) = ws'.map some) (hn : va_nd perm = true) (k : gw_G p l e R s m args below meth c D A Q nL cells slots ws' lv pc st) : gw_G p l e R s m args below meth c D A Q nL cells slots ws lv pc st := by
  intro H locs ls hP hD hS hl
  refine k H locs ls (fun k0 q hk0 => ?_) (hD.sub perm hn hp) hS hl
  have h1 : (perm.map (fun i => ws[i]?))[k0]? = some (some q) := by rw [hp, List.getElem?_map, hk0]; rfl
  rw [List.getElem?_map] at h1
  cases hi : perm[k0]? with
  | none => rw [hi] at h1; cases h1
  | some i => rw [hi] at h1; exact hP i q (Option.some.inj h1)
theorem gw_refs {cA : ClassId} {a n q0 : Nat} {f g : Nat → Option Nat} {ws' : va_W} (he : ws[q0]? = some (a, .inl (cA, n, .inr (.inr (.inr (.inr f)))))) (h : ∀ k, k < n → f k = g k) (hset : ws.set q0 (a, .inl (cA, n, .inr (.inr (.inr (.inr g))))) = ws') (k : gw_G p l e R s m args below meth c D A Q nL cells slots ws' lv pc st) : gw_G p l e R s m args below meth c D A Q nL cells slots ws lv pc st := by
  subst hset
  intro H locs ls hP hD hS hl
  refine k H locs ls ?_ (hD.set he) hS hl
  have hl0 := (List.getElem?_eq_some_iff.mp he).1
  intro k0 q hk0
  by_cases hkp : k0 = q0
  · subst hkp
    rw [List.getElem?_set_self hl0] at hk0
    cases hk0
    have h2 : H[a]? = some (vp_cell cA (n, .inr (.inr (.inr (.inr f))))) := hP k0 _ he
    show H[a]? = some (vp_cell cA (n, .inr (.inr (.inr (.inr g)))))
    rw [← gw_cxq h]; exact h2
  · rw [List.getElem?_set_ne (Ne.symm hkp)] at hk0
    exact hP k0 q hk0
end GP
theorem hd_X3_dropOldestState : yX3_dropOldestState.cls = RX3 ∧ yX3_dropOldestState.cls ≠ "java/lang/invoke/MethodHandle" ∧ yX3_dropOldestState.cls ≠ "java/lang/invoke/VarHandle" ∧ (parseMethodDescriptor yX3_dropOldestState.desc).map (fun d => d.parameters.length) = some 0 := by decide +kernel
set_option maxHeartbeats 8000000 in
set_option maxRecDepth 100000 in
theorem c_X3_dropOldestState (l : Launch) (D : va_G) (cI cJ cO : ClassId) (aP : Nat) (bT bR : Nat → Nat) (aS : Nat) (q : QS) (v : VS) : Ct l D (tysA cI cJ cO) yX3_dropOldestState wsX3_dropOldestState (rmOf 0 0) [.ref aP] (wP cI cJ cO aP bT bR aS (q, v)) none (wP cI cJ cO aP bT bR aS (sQN q (qN q - 1), rotV v)) := by
  refine Ct_of (own := RX3) cX3_dropOldestState 3 none (by decide +kernel) rfl rfl (Nat.le_of_ble_eq_true rfl) ?_
  intro p e s m args below meth c A C hnm
  have iX3 : ∀ w ∈ u_ws RX3 TX3 6, w ∈ wsX3_dropOldestState := fun w h => List.mem_cons_of_mem _ (List.mem_append_right _ h)
  have f19 : Cond.fieldLink RX3 19 (TX3 2).1 (TX3 2).2.1 (TX3 2).2.2.1 ∈ wsX3_dropOldestState := List.mem_of_getElem? (i := 1) rfl
  have f23 : Cond.fieldLink RX3 23 (TX3 3).1 (TX3 3).2.1 (TX3 3).2.2.1 ∈ wsX3_dropOldestState := List.mem_of_getElem? (i := 2) rfl
  show gw_G p l e (rmOf 0 0) s m args below meth c D A (CtM D below none (wP cI cJ cO aP bT bR aS (sQN q (qN q - 1), rotV v)) A args s) 3 0 0 (wQ cI cJ aP bT bR aS q ++ (wR cO aS (rotF v 0) ++ w6 cI cJ v)) [(0, .ref aP)] 0 []
  refine gw_aload_n C dX3_dropOldestState_0 0 rfl ?_
  refine gw_get C dX3_dropOldestState_1 0 2 2 rfl rfl iX3 (by decide) f19 rfl ?_
  refine gw_iconst (v := nI 0) C dX3_dropOldestState_4 rfl ?_
  refine gw_aald (v := .ref (v.1 0 0)) C dX3_dropOldestState_5 23 2 rfl rfl (nI_in (by decide) (by decide)) (by rw [nI_clamp (by decide)]; rfl) ?_
  refine gw_astore_n C dX3_dropOldestState_6 [(1, .ref (v.1 0 0)), (0, .ref aP)] rfl (by decide) rfl ?_
  refine gw_iconst (v := nI 1) C dX3_dropOldestState_7 rfl ?_
  refine gw_istore_n C dX3_dropOldestState_8 [(2, .int (nI 1)), (1, .ref (v.1 0 0)), (0, .ref aP)] rfl (by decide) rfl ?_
  refine gw_iload_n C dX3_dropOldestState_9 0 rfl ?_
  refine gw_aload_n C dX3_dropOldestState_10 2 rfl ?_
  refine gw_get C dX3_dropOldestState_11 0 2 2 rfl rfl iX3 (by decide) f19 rfl ?_
  refine gw_alen (v := nI 6) C dX3_dropOldestState_14 23 2 rfl rfl rfl ?_
  refine gw_icmp_ge (Φ := fun _ : Unit => True) (X := ()) (Y := ()) (tgt := 38) C dX3_dropOldestState_15 (by decide) trivial (fun c1 _ => absurd c1 (nI_ge (by decide) (by decide))) (fun c1 _ => ?_)
  refine gw_aload_n C dX3_dropOldestState_18 2 rfl ?_
  refine gw_get C dX3_dropOldestState_19 0 2 2 rfl rfl iX3 (by decide) f19 rfl ?_
  refine gw_iload_n C dX3_dropOldestState_22 0 rfl ?_
  refine gw_iconst (v := nI 1) C dX3_dropOldestState_23 rfl ?_
  refine gw_isub C dX3_dropOldestState_24 ?_
  rw [show nI 1 - nI 1 = nI 0 from by decide]
  refine gw_aload_n C dX3_dropOldestState_25 2 rfl ?_
  refine gw_get C dX3_dropOldestState_26 0 2 2 rfl rfl iX3 (by decide) f19 rfl ?_
  refine gw_iload_n C dX3_dropOldestState_29 0 rfl ?_
  refine gw_aald (v := .ref (v.1 1 0)) C dX3_dropOldestState_30 23 2 rfl rfl (nI_in (by decide) (by decide)) (by rw [nI_clamp (by decide)]; rfl) ?_
  refine gw_aast (ws' := (wQ cI cJ aP bT bR aS q ++ (wR cO aS (rotF v 1) ++ w6 cI cJ v))) C dX3_dropOldestState_31 23 2 35 1 rfl rfl rfl rfl (nI_in (by decide) (by decide)) (by rw [nI_clamp (by decide)]; rfl) ?_
  refine gw_iinc (v := nI 2) C dX3_dropOldestState_32 [(2, .int (nI 2)), (1, .ref (v.1 0 0)), (0, .ref aP)] 0 rfl (by decide) (by decide) rfl ?_
  refine gw_goto (tgt := 9) C dX3_dropOldestState_35 (by decide) ?_
  refine gw_iload_n C dX3_dropOldestState_9 0 rfl ?_
  refine gw_aload_n C dX3_dropOldestState_10 2 rfl ?_
  refine gw_get C dX3_dropOldestState_11 0 2 2 rfl rfl iX3 (by decide) f19 rfl ?_
  refine gw_alen (v := nI 6) C dX3_dropOldestState_14 23 2 rfl rfl rfl ?_
  refine gw_icmp_ge (Φ := fun _ : Unit => True) (X := ()) (Y := ()) (tgt := 38) C dX3_dropOldestState_15 (by decide) trivial (fun c1 _ => absurd c1 (nI_ge (by decide) (by decide))) (fun c1 _ => ?_)
  refine gw_aload_n C dX3_dropOldestState_18 2 rfl ?_
  refine gw_get C dX3_dropOldestState_19 0 2 2 rfl rfl iX3 (by decide) f19 rfl ?_
  refine gw_iload_n C dX3_dropOldestState_22 0 rfl ?_
  refine gw_iconst (v := nI 1) C dX3_dropOldestState_23 rfl ?_
  refine gw_isub C dX3_dropOldestState_24 ?_
  rw [show nI 2 - nI 1 = nI 1 from by decide]
  refine gw_aload_n C dX3_dropOldestState_25 2 rfl ?_
  refine gw_get C dX3_dropOldestState_26 0 2 2 rfl rfl iX3 (by decide) f19 rfl ?_
  refine gw_iload_n C dX3_dropOldestState_29 0 rfl ?_
  refine gw_aald (v := .ref (v.1 2 0)) C dX3_dropOldestState_30 23 2 rfl rfl (nI_in (by decide) (by decide)) (by rw [nI_clamp (by decide)]; rfl) ?_
  refine gw_aast (ws' := (wQ cI cJ aP bT bR aS q ++ (wR cO aS (rotF v 2) ++ w6 cI cJ v))) C dX3_dropOldestState_31 23 2 46 1 rfl rfl rfl rfl (nI_in (by decide) (by decide)) (by rw [nI_clamp (by decide)]; rfl) ?_
  refine gw_iinc (v := nI 3) C dX3_dropOldestState_32 [(2, .int (nI 3)), (1, .ref (v.1 0 0)), (0, .ref aP)] 0 rfl (by decide) (by decide) rfl ?_
  refine gw_goto (tgt := 9) C dX3_dropOldestState_35 (by decide) ?_
  refine gw_iload_n C dX3_dropOldestState_9 0 rfl ?_
  refine gw_aload_n C dX3_dropOldestState_10 2 rfl ?_
  refine gw_get C dX3_dropOldestState_11 0 2 2 rfl rfl iX3 (by decide) f19 rfl ?_
  refine gw_alen (v := nI 6) C dX3_dropOldestState_14 23 2 rfl rfl rfl ?_
  refine gw_icmp_ge (Φ := fun _ : Unit => True) (X := ()) (Y := ()) (tgt := 38) C dX3_dropOldestState_15 (by decide) trivial (fun c1 _ => absurd c1 (nI_ge (by decide) (by decide))) (fun c1 _ => ?_)
  refine gw_aload_n C dX3_dropOldestState_18 2 rfl ?_
  refine gw_get C dX3_dropOldestState_19 0 2 2 rfl rfl iX3 (by decide) f19 rfl ?_
  refine gw_iload_n C dX3_dropOldestState_22 0 rfl ?_
  refine gw_iconst (v := nI 1) C dX3_dropOldestState_23 rfl ?_
  refine gw_isub C dX3_dropOldestState_24 ?_
  rw [show nI 3 - nI 1 = nI 2 from by decide]
  refine gw_aload_n C dX3_dropOldestState_25 2 rfl ?_
  refine gw_get C dX3_dropOldestState_26 0 2 2 rfl rfl iX3 (by decide) f19 rfl ?_
  refine gw_iload_n C dX3_dropOldestState_29 0 rfl ?_
  refine gw_aald (v := .ref (v.1 3 0)) C dX3_dropOldestState_30 23 2 rfl rfl (nI_in (by decide) (by decide)) (by rw [nI_clamp (by decide)]; rfl) ?_
  refine gw_aast (ws' := (wQ cI cJ aP bT bR aS q ++ (wR cO aS (rotF v 3) ++ w6 cI cJ v))) C dX3_dropOldestState_31 23 2 57 1 rfl rfl rfl rfl (nI_in (by decide) (by decide)) (by rw [nI_clamp (by decide)]; rfl) ?_
  refine gw_iinc (v := nI 4) C dX3_dropOldestState_32 [(2, .int (nI 4)), (1, .ref (v.1 0 0)), (0, .ref aP)] 0 rfl (by decide) (by decide) rfl ?_
  refine gw_goto (tgt := 9) C dX3_dropOldestState_35 (by decide) ?_
  refine gw_iload_n C dX3_dropOldestState_9 0 rfl ?_
  refine gw_aload_n C dX3_dropOldestState_10 2 rfl ?_
  refine gw_get C dX3_dropOldestState_11 0 2 2 rfl rfl iX3 (by decide) f19 rfl ?_
  refine gw_alen (v := nI 6) C dX3_dropOldestState_14 23 2 rfl rfl rfl ?_
  refine gw_icmp_ge (Φ := fun _ : Unit => True) (X := ()) (Y := ()) (tgt := 38) C dX3_dropOldestState_15 (by decide) trivial (fun c1 _ => absurd c1 (nI_ge (by decide) (by decide))) (fun c1 _ => ?_)
  refine gw_aload_n C dX3_dropOldestState_18 2 rfl ?_
  refine gw_get C dX3_dropOldestState_19 0 2 2 rfl rfl iX3 (by decide) f19 rfl ?_
  refine gw_iload_n C dX3_dropOldestState_22 0 rfl ?_
  refine gw_iconst (v := nI 1) C dX3_dropOldestState_23 rfl ?_
  refine gw_isub C dX3_dropOldestState_24 ?_
  rw [show nI 4 - nI 1 = nI 3 from by decide]
  refine gw_aload_n C dX3_dropOldestState_25 2 rfl ?_
  refine gw_get C dX3_dropOldestState_26 0 2 2 rfl rfl iX3 (by decide) f19 rfl ?_
  refine gw_iload_n C dX3_dropOldestState_29 0 rfl ?_
  refine gw_aald (v := .ref (v.1 4 0)) C dX3_dropOldestState_30 23 2 rfl rfl (nI_in (by decide) (by decide)) (by rw [nI_clamp (by decide)]; rfl) ?_
  refine gw_aast (ws' := (wQ cI cJ aP bT bR aS q ++ (wR cO aS (rotF v 4) ++ w6 cI cJ v))) C dX3_dropOldestState_31 23 2 68 1 rfl rfl rfl rfl (nI_in (by decide) (by decide)) (by rw [nI_clamp (by decide)]; rfl) ?_
  refine gw_iinc (v := nI 5) C dX3_dropOldestState_32 [(2, .int (nI 5)), (1, .ref (v.1 0 0)), (0, .ref aP)] 0 rfl (by decide) (by decide) rfl ?_
  refine gw_goto (tgt := 9) C dX3_dropOldestState_35 (by decide) ?_
  refine gw_iload_n C dX3_dropOldestState_9 0 rfl ?_
  refine gw_aload_n C dX3_dropOldestState_10 2 rfl ?_
  refine gw_get C dX3_dropOldestState_11 0 2 2 rfl rfl iX3 (by decide) f19 rfl ?_
  refine gw_alen (v := nI 6) C dX3_dropOldestState_14 23 2 rfl rfl rfl ?_
  refine gw_icmp_ge (Φ := fun _ : Unit => True) (X := ()) (Y := ()) (tgt := 38) C dX3_dropOldestState_15 (by decide) trivial (fun c1 _ => absurd c1 (nI_ge (by decide) (by decide))) (fun c1 _ => ?_)
  refine gw_aload_n C dX3_dropOldestState_18 2 rfl ?_
  refine gw_get C dX3_dropOldestState_19 0 2 2 rfl rfl iX3 (by decide) f19 rfl ?_
  refine gw_iload_n C dX3_dropOldestState_22 0 rfl ?_
  refine gw_iconst (v := nI 1) C dX3_dropOldestState_23 rfl ?_
  refine gw_isub C dX3_dropOldestState_24 ?_
  rw [show nI 5 - nI 1 = nI 4 from by decide]
  refine gw_aload_n C dX3_dropOldestState_25 2 rfl ?_
  refine gw_get C dX3_dropOldestState_26 0 2 2 rfl rfl iX3 (by decide) f19 rfl ?_
  refine gw_iload_n C dX3_dropOldestState_29 0 rfl ?_
  refine gw_aald (v := .ref (v.1 5 0)) C dX3_dropOldestState_30 23 2 rfl rfl (nI_in (by decide) (by decide)) (by rw [nI_clamp (by decide)]; rfl) ?_
  refine gw_aast (ws' := (wQ cI cJ aP bT bR aS q ++ (wR cO aS (rotF v 5) ++ w6 cI cJ v))) C dX3_dropOldestState_31 23 2 79 1 rfl rfl rfl rfl (nI_in (by decide) (by decide)) (by rw [nI_clamp (by decide)]; rfl) ?_
  refine gw_iinc (v := nI 6) C dX3_dropOldestState_32 [(2, .int (nI 6)), (1, .ref (v.1 0 0)), (0, .ref aP)] 0 rfl (by decide) (by decide) rfl ?_
  refine gw_goto (tgt := 9) C dX3_dropOldestState_35 (by decide) ?_
  refine gw_iload_n C dX3_dropOldestState_9 0 rfl ?_
  refine gw_aload_n C dX3_dropOldestState_10 2 rfl ?_
  refine gw_get C dX3_dropOldestState_11 0 2 2 rfl rfl iX3 (by decide) f19 rfl ?_
  refine gw_alen (v := nI 6) C dX3_dropOldestState_14 23 2 rfl rfl rfl ?_
  refine gw_icmp_ge (Φ := fun _ : Unit => True) (X := ()) (Y := ()) (tgt := 38) C dX3_dropOldestState_15 (by decide) trivial (fun c1 _ => ?_) (fun c1 _ => absurd (nI_le (by decide) (by decide)) c1)
  refine gw_aload_n C dX3_dropOldestState_38 2 rfl ?_
  refine gw_get C dX3_dropOldestState_39 0 2 2 rfl rfl iX3 (by decide) f19 rfl ?_
  refine gw_aload_n C dX3_dropOldestState_42 2 rfl ?_
  refine gw_get C dX3_dropOldestState_43 0 2 2 rfl rfl iX3 (by decide) f19 rfl ?_
  refine gw_alen (v := nI 6) C dX3_dropOldestState_46 23 2 rfl rfl rfl ?_
  refine gw_iconst (v := nI 1) C dX3_dropOldestState_47 rfl ?_
  refine gw_isub C dX3_dropOldestState_48 ?_
  rw [show nI 6 - nI 1 = nI 5 from by decide]
  refine gw_aload_n C dX3_dropOldestState_49 1 rfl ?_
  refine gw_aast (ws' := (wQ cI cJ aP bT bR aS q ++ (wR cO aS (fun j => if j = 5 then some (v.1 0 0) else rotF v 5 j) ++ w6 cI cJ v))) C dX3_dropOldestState_50 23 2 24 1 rfl rfl rfl rfl (nI_in (by decide) (by decide)) (by rw [nI_clamp (by decide)]; rfl) ?_
  refine gw_refs (q0 := 23) (ws' := (wQ cI cJ aP bT bR aS q ++ (wR cO aS (fun i => some ((rotV v).1 i 0)) ++ w6 cI cJ v))) rfl (g := fun i => some ((rotV v).1 i 0)) (fun k hk => by
    have hk : k = 0 ∨ k = 1 ∨ k = 2 ∨ k = 3 ∨ k = 4 ∨ k = 5 := by omega
    rcases hk with rfl | rfl | rfl | rfl | rfl | rfl <;> rfl) rfl ?_
  refine gw_perm (ws' := (wQ cI cJ aP bT bR aS q ++ (wR cO aS (fun i => some ((rotV v).1 i 0)) ++ w6 cI cJ (rotV v)))) [0, 1, 2, 3, 4, 5, 6, 7, 8, 9, 10, 11, 12, 13, 14, 15, 16, 17, 18, 19, 20, 21, 22, 23, 35, 36, 37, 38, 39, 40, 41, 42, 43, 44, 45, 46, 47, 48, 49, 50, 51, 52, 53, 54, 55, 56, 57, 58, 59, 60, 61, 62, 63, 64, 65, 66, 67, 68, 69, 70, 71, 72, 73, 74, 75, 76, 77, 78, 79, 80, 81, 82, 83, 84, 85, 86, 87, 88, 89, 24, 25, 26, 27, 28, 29, 30, 31, 32, 33, 34] rfl rfl ?_
  refine gw_aload_n C dX3_dropOldestState_51 2 rfl ?_
  refine gw_dup C dX3_dropOldestState_52 rfl ?_
  refine gw_get C dX3_dropOldestState_53 0 2 3 rfl rfl iX3 (by decide) f23 rfl ?_
  refine gw_iconst (v := 1) C dX3_dropOldestState_56 rfl ?_
  refine gw_isub C dX3_dropOldestState_57 ?_
  refine gw_put (ws' := wP cI cJ cO aP bT bR aS (sQN q (qN q - 1), rotV v)) (ty := .int) C dX3_dropOldestState_58 0 2 3 tyX3 tyX3_ok nmX3 rfl rfl iX3 (by decide) f23 rfl (tyX3_ok 3 (by decide)) rfl rfl (Nat.le_of_ble_eq_true rfl) rfl ?_
  exact gw_vret C dX3_dropOldestState_61
def saveS (k : Nat) (t : PS) : PS := if k = 6 then (sQN (sQN t.1 (nI 5)) (nI 6), setV (rotV t.2) 5 (qT t.1)) else (sQN t.1 (nI (k + 1)), setV t.2 k (qT t.1))
theorem hd_X3_saveState : yX3_saveState.cls = RX3 ∧ yX3_saveState.cls ≠ "java/lang/invoke/MethodHandle" ∧ yX3_saveState.cls ≠ "java/lang/invoke/VarHandle" ∧ (parseMethodDescriptor yX3_saveState.desc).map (fun d => d.parameters.length) = some 0 := by decide +kernel
set_option maxHeartbeats 8000000 in
set_option maxRecDepth 100000 in
theorem c_X3_saveState (l : Launch) (D : va_G) (cI cJ cO : ClassId) (aP : Nat) (bT bR : Nat → Nat) (aS : Nat) (q : QS) (v : VS) (n : Nat) (hn : n ≤ 6) (hq : qN q = nI n) : Ct l D (tysA cI cJ cO) yX3_saveState wsX3_saveState (rmOf 4 140) [.ref aP] (wP cI cJ cO aP bT bR aS (q, v)) none (wP cI cJ cO aP bT bR aS (saveS n (q, v))) := by
  refine Ct_of (own := RX3) cX3_saveState 2 none (by decide +kernel) rfl rfl (Nat.le_of_ble_eq_true rfl) ?_
  intro p e s m args below meth c A C hnm
  have iX3 : ∀ w ∈ u_ws RX3 TX3 6, w ∈ wsX3_saveState := fun w h => List.mem_cons_of_mem _ (List.mem_append_left _ (List.mem_append_left _ (List.mem_append_right _ h)))
  have f23 : Cond.fieldLink RX3 23 (TX3 3).1 (TX3 3).2.1 (TX3 3).2.2.1 ∈ wsX3_saveState := List.mem_of_getElem? (i := 1) rfl
  have f19 : Cond.fieldLink RX3 19 (TX3 2).1 (TX3 2).2.1 (TX3 2).2.2.1 ∈ wsX3_saveState := List.mem_of_getElem? (i := 2) rfl
  have f12 : Cond.fieldLink RX3 12 (TX3 0).1 (TX3 0).2.1 (TX3 0).2.2.1 ∈ wsX3_saveState := List.mem_of_getElem? (i := 3) rfl
  have w_drop := cwV (R := (rmOf 4 140)) (rm := rmOf 0 0) (s := s) (args := args) 0 C.1.2.2.2.2 gX3_saveState_X3_dropOldestState rfl rfl rfl hd_X3_dropOldestState ⟨Nat.le_of_ble_eq_true rfl, Nat.le_of_ble_eq_true rfl⟩
  have w_copy := cwV (R := (rmOf 4 140)) (rm := rmOf 3 60) (s := s) (args := args) 1 C.1.2.2.2.2 gX3_saveState_X1_copyFrom rfl rfl rfl hd_X1_copyFrom ⟨Nat.le_of_ble_eq_true rfl, Nat.le_of_ble_eq_true rfl⟩
  have tail : ∀ (k : Nat) (q : QS) (v : VS), k < 6 → qN q = nI k → gw_G p l e (rmOf 4 140) s m args below meth c D A (CtM D below none (wP cI cJ cO aP bT bR aS (sQN q (nI (k + 1)), setV v k (qT q))) A args s) 2 0 0 (wP cI cJ cO aP bT bR aS (q, v)) [(0, .ref aP)] 16 [] := by
    intro k q v hk hq
    refine gw_aload_n C dX3_saveState_16 0 rfl ?_
    refine gw_get C dX3_saveState_17 0 2 3 rfl rfl iX3 (by decide) f23 rfl ?_
    rw [hq]
    refine gw_if_lt (Φ := fun _ : Unit => True) (X := ()) (Y := ()) (tgt := 67) C dX3_saveState_20 (by decide) trivial (fun c1 _ => absurd c1 (nI_pos (by omega))) (fun c1 _ => ?_)
    refine gw_aload_n C dX3_saveState_23 0 rfl ?_
    refine gw_get C dX3_saveState_24 0 2 3 rfl rfl iX3 (by decide) f23 rfl ?_
    rw [hq]
    refine gw_aload_n C dX3_saveState_27 0 rfl ?_
    refine gw_get C dX3_saveState_28 0 2 2 rfl rfl iX3 (by decide) f19 rfl ?_
    refine gw_alen (v := nI 6) C dX3_saveState_31 23 2 rfl rfl rfl ?_
    refine gw_icmp_ge (Φ := fun _ : Unit => True) (X := ()) (Y := ()) (tgt := 67) C dX3_saveState_32 (by decide) trivial (fun c1 _ => absurd c1 (nI_ge hk (by decide))) (fun c1 _ => ?_)
    refine gw_aload_n C dX3_saveState_35 0 rfl ?_
    refine gw_get C dX3_saveState_36 0 2 2 rfl rfl iX3 (by decide) f19 rfl ?_
    refine gw_aload_n C dX3_saveState_39 0 rfl ?_
    refine gw_get C dX3_saveState_40 0 2 3 rfl rfl iX3 (by decide) f23 rfl ?_
    rw [hq]
    refine gw_aald (v := .ref (v.1 k 0)) C dX3_saveState_43 23 2 rfl rfl (nI_in hk (by decide)) (by rw [nI_clamp (by omega)]; rfl) ?_
    refine gw_astore_n C dX3_saveState_44 [(1, .ref (v.1 k 0)), (0, .ref aP)] rfl (by decide) rfl ?_
    refine gw_aload_n C dX3_saveState_45 0 rfl ?_
    refine gw_ifnull C dX3_saveState_46 ?_
    refine gw_aload_n C dX3_saveState_49 0 rfl ?_
    refine gw_aload_n C dX3_saveState_50 1 rfl ?_
    refine gw_get C dX3_saveState_51 0 2 0 rfl rfl iX3 (by decide) f12 rfl ?_
    have hz : gw_G p l e (rmOf 4 140) s m args below meth c D A (CtM D below none (wP cI cJ cO aP bT bR aS (sQN q (nI (k + 1)), setV v k (qT q))) A args s) 2 0 0 (wP cI cJ cO aP bT bR aS (q, setV v k (qT q))) [(1, .ref (v.1 k 0)), (0, .ref aP)] 57 [] := by
      refine gw_aload_n C dX3_saveState_57 1 rfl ?_
      refine gw_dup C dX3_saveState_58 rfl ?_
      refine gw_get C dX3_saveState_59 0 2 3 rfl rfl iX3 (by decide) f23 rfl ?_
      rw [hq]
      refine gw_iconst (v := nI 1) C dX3_saveState_62 rfl ?_
      refine gw_iadd C dX3_saveState_63 ?_
      rw [nI_add]
      refine gw_put (ws' := wP cI cJ cO aP bT bR aS (sQN q (nI (k + 1)), setV v k (qT q))) (ty := .int) C dX3_saveState_64 0 2 3 tyX3 tyX3_ok nmX3 rfl rfl iX3 (by decide) f23 rfl (tyX3_ok 3 (by decide)) rfl rfl (Nat.le_of_ble_eq_true rfl) rfl ?_
      exact gw_vret C dX3_saveState_67
    have hk6 : k = 0 ∨ k = 1 ∨ k = 2 ∨ k = 3 ∨ k = 4 ∨ k = 5 := by omega
    rcases hk6 with rfl | rfl | rfl | rfl | rfl | rfl
    · exact gw_sub_call (st2 := []) (ws' := wP cI cJ cO aP bT bR aS (q, setV v 0 (qT q))) C [24, 25, 26, 27, 28, 29, 30, 31, 32, 33, 34, 1, 2, 3, 4, 5, 6, 7, 8, 9, 10, 11] [0, 12, 13, 14, 15, 16, 17, 18, 19, 20, 21, 22, 23, 35, 36, 37, 38, 39, 40, 41, 42, 43, 44, 45, 46, 47, 48, 49, 50, 51, 52, 53, 54, 55, 56, 57, 58, 59, 60, 61, 62, 63, 64, 65, 66, 67, 68, 69, 70, 71, 72, 73, 74, 75, 76, 77, 78, 79, 80, 81, 82, 83, 84, 85, 86, 87, 88, 89] [0, 79, 80, 81, 82, 83, 84, 85, 86, 87, 88, 89, 1, 2, 3, 4, 5, 6, 7, 8, 9, 10, 11, 12, 68, 69, 70, 71, 72, 73, 74, 75, 76, 77, 78, 13, 14, 15, 16, 17, 18, 19, 20, 21, 22, 23, 24, 25, 26, 27, 28, 29, 30, 31, 32, 33, 34, 35, 36, 37, 38, 39, 40, 41, 42, 43, 44, 45, 46, 47, 48, 49, 50, 51, 52, 53, 54, 55, 56, 57, 58, 59, 60, 61, 62, 63, 64, 65, 66, 67] rfl rfl rfl rfl (by decide) rfl rfl (run_V (rest := []) C (c_X1_copyFrom l D cI cJ cO (v.1 0) bT (v.2 0) (qT q) (o := qT q) rfl) w_copy 0 1 rfl rfl rfl rfl rfl (Nat.le_of_ble_eq_true rfl) dX3_saveState_54 ⟨Nat.zero_le _, Nat.zero_le _⟩) rfl hz
    · exact gw_sub_call (st2 := []) (ws' := wP cI cJ cO aP bT bR aS (q, setV v 1 (qT q))) C [35, 36, 37, 38, 39, 40, 41, 42, 43, 44, 45, 1, 2, 3, 4, 5, 6, 7, 8, 9, 10, 11] [0, 12, 13, 14, 15, 16, 17, 18, 19, 20, 21, 22, 23, 24, 25, 26, 27, 28, 29, 30, 31, 32, 33, 34, 46, 47, 48, 49, 50, 51, 52, 53, 54, 55, 56, 57, 58, 59, 60, 61, 62, 63, 64, 65, 66, 67, 68, 69, 70, 71, 72, 73, 74, 75, 76, 77, 78, 79, 80, 81, 82, 83, 84, 85, 86, 87, 88, 89] [0, 79, 80, 81, 82, 83, 84, 85, 86, 87, 88, 89, 1, 2, 3, 4, 5, 6, 7, 8, 9, 10, 11, 12, 13, 14, 15, 16, 17, 18, 19, 20, 21, 22, 23, 68, 69, 70, 71, 72, 73, 74, 75, 76, 77, 78, 24, 25, 26, 27, 28, 29, 30, 31, 32, 33, 34, 35, 36, 37, 38, 39, 40, 41, 42, 43, 44, 45, 46, 47, 48, 49, 50, 51, 52, 53, 54, 55, 56, 57, 58, 59, 60, 61, 62, 63, 64, 65, 66, 67] rfl rfl rfl rfl (by decide) rfl rfl (run_V (rest := []) C (c_X1_copyFrom l D cI cJ cO (v.1 1) bT (v.2 1) (qT q) (o := qT q) rfl) w_copy 0 1 rfl rfl rfl rfl rfl (Nat.le_of_ble_eq_true rfl) dX3_saveState_54 ⟨Nat.zero_le _, Nat.zero_le _⟩) rfl hz
    · exact gw_sub_call (st2 := []) (ws' := wP cI cJ cO aP bT bR aS (q, setV v 2 (qT q))) C [46, 47, 48, 49, 50, 51, 52, 53, 54, 55, 56, 1, 2, 3, 4, 5, 6, 7, 8, 9, 10, 11] [0, 12, 13, 14, 15, 16, 17, 18, 19, 20, 21, 22, 23, 24, 25, 26, 27, 28, 29, 30, 31, 32, 33, 34, 35, 36, 37, 38, 39, 40, 41, 42, 43, 44, 45, 57, 58, 59, 60, 61, 62, 63, 64, 65, 66, 67, 68, 69, 70, 71, 72, 73, 74, 75, 76, 77, 78, 79, 80, 81, 82, 83, 84, 85, 86, 87, 88, 89] [0, 79, 80, 81, 82, 83, 84, 85, 86, 87, 88, 89, 1, 2, 3, 4, 5, 6, 7, 8, 9, 10, 11, 12, 13, 14, 15, 16, 17, 18, 19, 20, 21, 22, 23, 24, 25, 26, 27, 28, 29, 30, 31, 32, 33, 34, 68, 69, 70, 71, 72, 73, 74, 75, 76, 77, 78, 35, 36, 37, 38, 39, 40, 41, 42, 43, 44, 45, 46, 47, 48, 49, 50, 51, 52, 53, 54, 55, 56, 57, 58, 59, 60, 61, 62, 63, 64, 65, 66, 67] rfl rfl rfl rfl (by decide) rfl rfl (run_V (rest := []) C (c_X1_copyFrom l D cI cJ cO (v.1 2) bT (v.2 2) (qT q) (o := qT q) rfl) w_copy 0 1 rfl rfl rfl rfl rfl (Nat.le_of_ble_eq_true rfl) dX3_saveState_54 ⟨Nat.zero_le _, Nat.zero_le _⟩) rfl hz
    · exact gw_sub_call (st2 := []) (ws' := wP cI cJ cO aP bT bR aS (q, setV v 3 (qT q))) C [57, 58, 59, 60, 61, 62, 63, 64, 65, 66, 67, 1, 2, 3, 4, 5, 6, 7, 8, 9, 10, 11] [0, 12, 13, 14, 15, 16, 17, 18, 19, 20, 21, 22, 23, 24, 25, 26, 27, 28, 29, 30, 31, 32, 33, 34, 35, 36, 37, 38, 39, 40, 41, 42, 43, 44, 45, 46, 47, 48, 49, 50, 51, 52, 53, 54, 55, 56, 68, 69, 70, 71, 72, 73, 74, 75, 76, 77, 78, 79, 80, 81, 82, 83, 84, 85, 86, 87, 88, 89] [0, 79, 80, 81, 82, 83, 84, 85, 86, 87, 88, 89, 1, 2, 3, 4, 5, 6, 7, 8, 9, 10, 11, 12, 13, 14, 15, 16, 17, 18, 19, 20, 21, 22, 23, 24, 25, 26, 27, 28, 29, 30, 31, 32, 33, 34, 35, 36, 37, 38, 39, 40, 41, 42, 43, 44, 45, 68, 69, 70, 71, 72, 73, 74, 75, 76, 77, 78, 46, 47, 48, 49, 50, 51, 52, 53, 54, 55, 56, 57, 58, 59, 60, 61, 62, 63, 64, 65, 66, 67] rfl rfl rfl rfl (by decide) rfl rfl (run_V (rest := []) C (c_X1_copyFrom l D cI cJ cO (v.1 3) bT (v.2 3) (qT q) (o := qT q) rfl) w_copy 0 1 rfl rfl rfl rfl rfl (Nat.le_of_ble_eq_true rfl) dX3_saveState_54 ⟨Nat.zero_le _, Nat.zero_le _⟩) rfl hz
    · exact gw_sub_call (st2 := []) (ws' := wP cI cJ cO aP bT bR aS (q, setV v 4 (qT q))) C [68, 69, 70, 71, 72, 73, 74, 75, 76, 77, 78, 1, 2, 3, 4, 5, 6, 7, 8, 9, 10, 11] [0, 12, 13, 14, 15, 16, 17, 18, 19, 20, 21, 22, 23, 24, 25, 26, 27, 28, 29, 30, 31, 32, 33, 34, 35, 36, 37, 38, 39, 40, 41, 42, 43, 44, 45, 46, 47, 48, 49, 50, 51, 52, 53, 54, 55, 56, 57, 58, 59, 60, 61, 62, 63, 64, 65, 66, 67, 79, 80, 81, 82, 83, 84, 85, 86, 87, 88, 89] [0, 79, 80, 81, 82, 83, 84, 85, 86, 87, 88, 89, 1, 2, 3, 4, 5, 6, 7, 8, 9, 10, 11, 12, 13, 14, 15, 16, 17, 18, 19, 20, 21, 22, 23, 24, 25, 26, 27, 28, 29, 30, 31, 32, 33, 34, 35, 36, 37, 38, 39, 40, 41, 42, 43, 44, 45, 46, 47, 48, 49, 50, 51, 52, 53, 54, 55, 56, 68, 69, 70, 71, 72, 73, 74, 75, 76, 77, 78, 57, 58, 59, 60, 61, 62, 63, 64, 65, 66, 67] rfl rfl rfl rfl (by decide) rfl rfl (run_V (rest := []) C (c_X1_copyFrom l D cI cJ cO (v.1 4) bT (v.2 4) (qT q) (o := qT q) rfl) w_copy 0 1 rfl rfl rfl rfl rfl (Nat.le_of_ble_eq_true rfl) dX3_saveState_54 ⟨Nat.zero_le _, Nat.zero_le _⟩) rfl hz
    · exact gw_sub_call (st2 := []) (ws' := wP cI cJ cO aP bT bR aS (q, setV v 5 (qT q))) C [79, 80, 81, 82, 83, 84, 85, 86, 87, 88, 89, 1, 2, 3, 4, 5, 6, 7, 8, 9, 10, 11] [0, 12, 13, 14, 15, 16, 17, 18, 19, 20, 21, 22, 23, 24, 25, 26, 27, 28, 29, 30, 31, 32, 33, 34, 35, 36, 37, 38, 39, 40, 41, 42, 43, 44, 45, 46, 47, 48, 49, 50, 51, 52, 53, 54, 55, 56, 57, 58, 59, 60, 61, 62, 63, 64, 65, 66, 67, 68, 69, 70, 71, 72, 73, 74, 75, 76, 77, 78] [0, 79, 80, 81, 82, 83, 84, 85, 86, 87, 88, 89, 1, 2, 3, 4, 5, 6, 7, 8, 9, 10, 11, 12, 13, 14, 15, 16, 17, 18, 19, 20, 21, 22, 23, 24, 25, 26, 27, 28, 29, 30, 31, 32, 33, 34, 35, 36, 37, 38, 39, 40, 41, 42, 43, 44, 45, 46, 47, 48, 49, 50, 51, 52, 53, 54, 55, 56, 57, 58, 59, 60, 61, 62, 63, 64, 65, 66, 67, 68, 69, 70, 71, 72, 73, 74, 75, 76, 77, 78] rfl rfl rfl rfl (by decide) rfl rfl (run_V (rest := []) C (c_X1_copyFrom l D cI cJ cO (v.1 5) bT (v.2 5) (qT q) (o := qT q) rfl) w_copy 0 1 rfl rfl rfl rfl rfl (Nat.le_of_ble_eq_true rfl) dX3_saveState_54 ⟨Nat.zero_le _, Nat.zero_le _⟩) rfl hz
  show gw_G p l e (rmOf 4 140) s m args below meth c D A (CtM D below none (wP cI cJ cO aP bT bR aS (saveS n (q, v))) A args s) 2 0 0 (wP cI cJ cO aP bT bR aS (q, v)) [(0, .ref aP)] 0 []
  refine gw_aload_n C dX3_saveState_0 0 rfl ?_
  refine gw_get C dX3_saveState_1 0 2 3 rfl rfl iX3 (by decide) f23 rfl ?_
  rw [hq]
  refine gw_aload_n C dX3_saveState_4 0 rfl ?_
  refine gw_get C dX3_saveState_5 0 2 2 rfl rfl iX3 (by decide) f19 rfl ?_
  refine gw_alen (v := nI 6) C dX3_saveState_8 23 2 rfl rfl rfl ?_
  refine gw_icmp_lt (Φ := fun _ : Unit => True) (X := ()) (Y := ()) (tgt := 16) C dX3_saveState_9 (by decide) trivial (fun c1 _ => ?_) (fun c1 _ => ?_)
  · have hn6 : n < 6 := (nI_ltI (by omega) (by decide)).mp c1
    rw [show saveS n (q, v) = (sQN q (nI (n + 1)), setV v n (qT q)) from if_neg (by omega)]
    exact tail n q v hn6 hq
  · have hn6 : n = 6 := by
      have h1 : ¬ n < 6 := fun h => c1 (nI_lt h (by decide))
      omega
    subst hn6
    refine gw_aload_n C dX3_saveState_12 0 rfl ?_
    refine gw_whole (st2 := []) C (run_V (rest := []) C (c_X3_dropOldestState l D cI cJ cO aP bT bR aS q v) w_drop 0 2 rfl rfl rfl rfl rfl (Nat.le_of_ble_eq_true rfl) dX3_saveState_13 ⟨Nat.zero_le _, Nat.zero_le _⟩) rfl ?_
    rw [show qN q - 1 = nI 5 from by rw [hq]; decide]
    exact tail 5 (sQN q (nI 5)) (rotV v) (by decide) rfl
theorem hd_X3_undo : yX3_undo.cls = RX3 ∧ yX3_undo.cls ≠ "java/lang/invoke/MethodHandle" ∧ yX3_undo.cls ≠ "java/lang/invoke/VarHandle" ∧ (parseMethodDescriptor yX3_undo.desc).map (fun d => d.parameters.length) = some 0 := by decide +kernel
set_option maxHeartbeats 8000000 in
set_option maxRecDepth 100000 in
theorem c_X3_undo (l : Launch) (D : va_G) (cI cJ cO : ClassId) (aP : Nat) (bT bR : Nat → Nat) (aS : Nat) (q : QS) (v : VS) (n : Nat) (hn : n < 6) (hq : qN q = nI (n + 1)) : Ct l D (tysA cI cJ cO) yX3_undo wsX3_undo (rmOf 3 100) [.ref aP] (wP cI cJ cO aP bT bR aS (q, v)) (some (.int (nI n))) (wP cI cJ cO aP bT bR aS (sQT (sQN q (nI n)) (v.2 n), v)) := by
  refine Ct_of (own := RX3) cX3_undo 2 (some .int) (by decide +kernel) rfl rfl (Nat.le_of_ble_eq_true rfl) ?_
  intro p e s m args below meth c A C hnm
  have iX3 : ∀ w ∈ u_ws RX3 TX3 6, w ∈ wsX3_undo := fun w h => List.mem_cons_of_mem _ (List.mem_append_left _ (List.mem_append_left _ (List.mem_append_left _ (List.mem_append_right _ h))))
  have f23 : Cond.fieldLink RX3 23 (TX3 3).1 (TX3 3).2.1 (TX3 3).2.2.1 ∈ wsX3_undo := List.mem_of_getElem? (i := 3) rfl
  have f19 : Cond.fieldLink RX3 19 (TX3 2).1 (TX3 2).2.1 (TX3 2).2.2.1 ∈ wsX3_undo := List.mem_of_getElem? (i := 4) rfl
  have f12 : Cond.fieldLink RX3 12 (TX3 0).1 (TX3 0).2.1 (TX3 0).2.2.1 ∈ wsX3_undo := List.mem_of_getElem? (i := 5) rfl
  show gw_G p l e (rmOf 3 100) s m args below meth c D A (CtM D below (some (.int (nI n))) (wP cI cJ cO aP bT bR aS (sQT (sQN q (nI n)) (v.2 n), v)) A args s) 2 0 0 (wP cI cJ cO aP bT bR aS (q, v)) [(0, .ref aP)] 0 []
  refine gw_aload_n C dX3_undo_0 0 rfl ?_
  refine gw_get C dX3_undo_1 0 2 3 rfl rfl iX3 (by decide) f23 rfl ?_
  rw [hq]
  have w_copy := cwV (R := (rmOf 3 100)) (rm := rmOf 3 60) (s := s) (args := args) 1 C.1.2.2.2.2 gX3_undo_X1_copyFrom rfl rfl rfl hd_X1_copyFrom ⟨Nat.le_of_ble_eq_true rfl, Nat.le_of_ble_eq_true rfl⟩
  refine gw_if_le (Φ := fun _ : Unit => True) (X := ()) (Y := ()) (tgt := 19) C dX3_undo_4 (by decide) trivial (fun c1 _ => absurd c1 (nI_nle (by omega) (by omega))) (fun c1 _ => ?_)
  refine gw_aload_n C dX3_undo_7 0 rfl ?_
  refine gw_get C dX3_undo_8 0 2 3 rfl rfl iX3 (by decide) f23 rfl ?_
  rw [hq]
  refine gw_aload_n C dX3_undo_11 0 rfl ?_
  refine gw_get C dX3_undo_12 0 2 2 rfl rfl iX3 (by decide) f19 rfl ?_
  refine gw_alen (v := nI 6) C dX3_undo_15 23 2 rfl rfl rfl ?_
  refine gw_icmp_le (Φ := fun _ : Unit => True) (X := ()) (Y := ()) (tgt := 29) C dX3_undo_16 (by decide) trivial (fun c1 _ => ?_) (fun c1 _ => absurd (nI_le (by omega) (by decide)) c1)
  refine gw_aload_n C dX3_undo_29 0 rfl ?_
  refine gw_dup C dX3_undo_30 rfl ?_
  refine gw_get C dX3_undo_31 0 2 3 rfl rfl iX3 (by decide) f23 rfl ?_
  rw [hq]
  refine gw_iconst (v := 1) C dX3_undo_34 rfl ?_
  refine gw_isub C dX3_undo_35 ?_
  rw [nI_pred]
  refine gw_put (ws' := wP cI cJ cO aP bT bR aS (sQN q (nI n), v)) (ty := .int) C dX3_undo_36 0 2 3 tyX3 tyX3_ok nmX3 rfl rfl iX3 (by decide) f23 rfl (tyX3_ok 3 (by decide)) rfl rfl (Nat.le_of_ble_eq_true rfl) rfl ?_
  refine gw_aload_n C dX3_undo_39 0 rfl ?_
  refine gw_get C dX3_undo_40 0 2 2 rfl rfl iX3 (by decide) f19 rfl ?_
  refine gw_aload_n C dX3_undo_43 0 rfl ?_
  refine gw_get C dX3_undo_44 0 2 3 rfl rfl iX3 (by decide) f23 rfl ?_
  refine gw_aald (v := .ref (v.1 n 0)) C dX3_undo_47 23 2 rfl rfl (nI_in hn (by decide)) (by show va_rf (some (v.1 (nI n).toNatClampNeg 0)) = _; rw [nI_clamp (by omega)]; rfl) ?_
  refine gw_astore_n C dX3_undo_48 [(1, .ref (v.1 n 0)), (0, .ref aP)] rfl (by decide) rfl ?_
  refine gw_aload_n C dX3_undo_49 0 rfl ?_
  refine gw_ifnull C dX3_undo_50 ?_
  refine gw_aload_n C dX3_undo_53 1 rfl ?_
  refine gw_get C dX3_undo_54 0 2 0 rfl rfl iX3 (by decide) f12 rfl ?_
  refine gw_aload_n C dX3_undo_57 0 rfl ?_
  have hz : gw_G p l e (rmOf 3 100) s m args below meth c D A (CtM D below (some (.int (nI n))) (wP cI cJ cO aP bT bR aS (sQT (sQN q (nI n)) (v.2 n), v)) A args s) 2 0 0 (wP cI cJ cO aP bT bR aS (sQT (sQN q (nI n)) (v.2 n), v)) [(1, .ref (v.1 n 0)), (0, .ref aP)] 61 [] := by
    refine gw_aload_n C dX3_undo_61 1 rfl ?_
    refine gw_get C dX3_undo_62 0 2 3 rfl rfl iX3 (by decide) f23 rfl ?_
    exact gw_iret C dX3_undo_65
  have hk6 : n = 0 ∨ n = 1 ∨ n = 2 ∨ n = 3 ∨ n = 4 ∨ n = 5 := by omega
  rcases hk6 with rfl | rfl | rfl | rfl | rfl | rfl
  · exact gw_sub_call (st2 := []) (ws' := wP cI cJ cO aP bT bR aS (sQT (sQN q (nI 0)) (v.2 0), v)) C [1, 2, 3, 4, 5, 6, 7, 8, 9, 10, 11, 24, 25, 26, 27, 28, 29, 30, 31, 32, 33, 34] [0, 12, 13, 14, 15, 16, 17, 18, 19, 20, 21, 22, 23, 35, 36, 37, 38, 39, 40, 41, 42, 43, 44, 45, 46, 47, 48, 49, 50, 51, 52, 53, 54, 55, 56, 57, 58, 59, 60, 61, 62, 63, 64, 65, 66, 67, 68, 69, 70, 71, 72, 73, 74, 75, 76, 77, 78, 79, 80, 81, 82, 83, 84, 85, 86, 87, 88, 89] [0, 68, 69, 70, 71, 72, 73, 74, 75, 76, 77, 78, 1, 2, 3, 4, 5, 6, 7, 8, 9, 10, 11, 12, 79, 80, 81, 82, 83, 84, 85, 86, 87, 88, 89, 13, 14, 15, 16, 17, 18, 19, 20, 21, 22, 23, 24, 25, 26, 27, 28, 29, 30, 31, 32, 33, 34, 35, 36, 37, 38, 39, 40, 41, 42, 43, 44, 45, 46, 47, 48, 49, 50, 51, 52, 53, 54, 55, 56, 57, 58, 59, 60, 61, 62, 63, 64, 65, 66, 67] rfl rfl rfl rfl (by decide) rfl rfl (run_V (rest := []) C (c_X1_copyFrom l D cI cJ cO bT (v.1 0) (qT q) (v.2 0) (o := v.2 0) rfl) w_copy 0 1 rfl rfl rfl rfl rfl (Nat.le_of_ble_eq_true rfl) dX3_undo_58 ⟨Nat.zero_le _, Nat.zero_le _⟩) rfl hz
  · exact gw_sub_call (st2 := []) (ws' := wP cI cJ cO aP bT bR aS (sQT (sQN q (nI 1)) (v.2 1), v)) C [1, 2, 3, 4, 5, 6, 7, 8, 9, 10, 11, 35, 36, 37, 38, 39, 40, 41, 42, 43, 44, 45] [0, 12, 13, 14, 15, 16, 17, 18, 19, 20, 21, 22, 23, 24, 25, 26, 27, 28, 29, 30, 31, 32, 33, 34, 46, 47, 48, 49, 50, 51, 52, 53, 54, 55, 56, 57, 58, 59, 60, 61, 62, 63, 64, 65, 66, 67, 68, 69, 70, 71, 72, 73, 74, 75, 76, 77, 78, 79, 80, 81, 82, 83, 84, 85, 86, 87, 88, 89] [0, 68, 69, 70, 71, 72, 73, 74, 75, 76, 77, 78, 1, 2, 3, 4, 5, 6, 7, 8, 9, 10, 11, 12, 13, 14, 15, 16, 17, 18, 19, 20, 21, 22, 23, 79, 80, 81, 82, 83, 84, 85, 86, 87, 88, 89, 24, 25, 26, 27, 28, 29, 30, 31, 32, 33, 34, 35, 36, 37, 38, 39, 40, 41, 42, 43, 44, 45, 46, 47, 48, 49, 50, 51, 52, 53, 54, 55, 56, 57, 58, 59, 60, 61, 62, 63, 64, 65, 66, 67] rfl rfl rfl rfl (by decide) rfl rfl (run_V (rest := []) C (c_X1_copyFrom l D cI cJ cO bT (v.1 1) (qT q) (v.2 1) (o := v.2 1) rfl) w_copy 0 1 rfl rfl rfl rfl rfl (Nat.le_of_ble_eq_true rfl) dX3_undo_58 ⟨Nat.zero_le _, Nat.zero_le _⟩) rfl hz
  · exact gw_sub_call (st2 := []) (ws' := wP cI cJ cO aP bT bR aS (sQT (sQN q (nI 2)) (v.2 2), v)) C [1, 2, 3, 4, 5, 6, 7, 8, 9, 10, 11, 46, 47, 48, 49, 50, 51, 52, 53, 54, 55, 56] [0, 12, 13, 14, 15, 16, 17, 18, 19, 20, 21, 22, 23, 24, 25, 26, 27, 28, 29, 30, 31, 32, 33, 34, 35, 36, 37, 38, 39, 40, 41, 42, 43, 44, 45, 57, 58, 59, 60, 61, 62, 63, 64, 65, 66, 67, 68, 69, 70, 71, 72, 73, 74, 75, 76, 77, 78, 79, 80, 81, 82, 83, 84, 85, 86, 87, 88, 89] [0, 68, 69, 70, 71, 72, 73, 74, 75, 76, 77, 78, 1, 2, 3, 4, 5, 6, 7, 8, 9, 10, 11, 12, 13, 14, 15, 16, 17, 18, 19, 20, 21, 22, 23, 24, 25, 26, 27, 28, 29, 30, 31, 32, 33, 34, 79, 80, 81, 82, 83, 84, 85, 86, 87, 88, 89, 35, 36, 37, 38, 39, 40, 41, 42, 43, 44, 45, 46, 47, 48, 49, 50, 51, 52, 53, 54, 55, 56, 57, 58, 59, 60, 61, 62, 63, 64, 65, 66, 67] rfl rfl rfl rfl (by decide) rfl rfl (run_V (rest := []) C (c_X1_copyFrom l D cI cJ cO bT (v.1 2) (qT q) (v.2 2) (o := v.2 2) rfl) w_copy 0 1 rfl rfl rfl rfl rfl (Nat.le_of_ble_eq_true rfl) dX3_undo_58 ⟨Nat.zero_le _, Nat.zero_le _⟩) rfl hz
  · exact gw_sub_call (st2 := []) (ws' := wP cI cJ cO aP bT bR aS (sQT (sQN q (nI 3)) (v.2 3), v)) C [1, 2, 3, 4, 5, 6, 7, 8, 9, 10, 11, 57, 58, 59, 60, 61, 62, 63, 64, 65, 66, 67] [0, 12, 13, 14, 15, 16, 17, 18, 19, 20, 21, 22, 23, 24, 25, 26, 27, 28, 29, 30, 31, 32, 33, 34, 35, 36, 37, 38, 39, 40, 41, 42, 43, 44, 45, 46, 47, 48, 49, 50, 51, 52, 53, 54, 55, 56, 68, 69, 70, 71, 72, 73, 74, 75, 76, 77, 78, 79, 80, 81, 82, 83, 84, 85, 86, 87, 88, 89] [0, 68, 69, 70, 71, 72, 73, 74, 75, 76, 77, 78, 1, 2, 3, 4, 5, 6, 7, 8, 9, 10, 11, 12, 13, 14, 15, 16, 17, 18, 19, 20, 21, 22, 23, 24, 25, 26, 27, 28, 29, 30, 31, 32, 33, 34, 35, 36, 37, 38, 39, 40, 41, 42, 43, 44, 45, 79, 80, 81, 82, 83, 84, 85, 86, 87, 88, 89, 46, 47, 48, 49, 50, 51, 52, 53, 54, 55, 56, 57, 58, 59, 60, 61, 62, 63, 64, 65, 66, 67] rfl rfl rfl rfl (by decide) rfl rfl (run_V (rest := []) C (c_X1_copyFrom l D cI cJ cO bT (v.1 3) (qT q) (v.2 3) (o := v.2 3) rfl) w_copy 0 1 rfl rfl rfl rfl rfl (Nat.le_of_ble_eq_true rfl) dX3_undo_58 ⟨Nat.zero_le _, Nat.zero_le _⟩) rfl hz
  · exact gw_sub_call (st2 := []) (ws' := wP cI cJ cO aP bT bR aS (sQT (sQN q (nI 4)) (v.2 4), v)) C [1, 2, 3, 4, 5, 6, 7, 8, 9, 10, 11, 68, 69, 70, 71, 72, 73, 74, 75, 76, 77, 78] [0, 12, 13, 14, 15, 16, 17, 18, 19, 20, 21, 22, 23, 24, 25, 26, 27, 28, 29, 30, 31, 32, 33, 34, 35, 36, 37, 38, 39, 40, 41, 42, 43, 44, 45, 46, 47, 48, 49, 50, 51, 52, 53, 54, 55, 56, 57, 58, 59, 60, 61, 62, 63, 64, 65, 66, 67, 79, 80, 81, 82, 83, 84, 85, 86, 87, 88, 89] [0, 68, 69, 70, 71, 72, 73, 74, 75, 76, 77, 78, 1, 2, 3, 4, 5, 6, 7, 8, 9, 10, 11, 12, 13, 14, 15, 16, 17, 18, 19, 20, 21, 22, 23, 24, 25, 26, 27, 28, 29, 30, 31, 32, 33, 34, 35, 36, 37, 38, 39, 40, 41, 42, 43, 44, 45, 46, 47, 48, 49, 50, 51, 52, 53, 54, 55, 56, 79, 80, 81, 82, 83, 84, 85, 86, 87, 88, 89, 57, 58, 59, 60, 61, 62, 63, 64, 65, 66, 67] rfl rfl rfl rfl (by decide) rfl rfl (run_V (rest := []) C (c_X1_copyFrom l D cI cJ cO bT (v.1 4) (qT q) (v.2 4) (o := v.2 4) rfl) w_copy 0 1 rfl rfl rfl rfl rfl (Nat.le_of_ble_eq_true rfl) dX3_undo_58 ⟨Nat.zero_le _, Nat.zero_le _⟩) rfl hz
  · exact gw_sub_call (st2 := []) (ws' := wP cI cJ cO aP bT bR aS (sQT (sQN q (nI 5)) (v.2 5), v)) C [1, 2, 3, 4, 5, 6, 7, 8, 9, 10, 11, 79, 80, 81, 82, 83, 84, 85, 86, 87, 88, 89] [0, 12, 13, 14, 15, 16, 17, 18, 19, 20, 21, 22, 23, 24, 25, 26, 27, 28, 29, 30, 31, 32, 33, 34, 35, 36, 37, 38, 39, 40, 41, 42, 43, 44, 45, 46, 47, 48, 49, 50, 51, 52, 53, 54, 55, 56, 57, 58, 59, 60, 61, 62, 63, 64, 65, 66, 67, 68, 69, 70, 71, 72, 73, 74, 75, 76, 77, 78] [0, 68, 69, 70, 71, 72, 73, 74, 75, 76, 77, 78, 1, 2, 3, 4, 5, 6, 7, 8, 9, 10, 11, 12, 13, 14, 15, 16, 17, 18, 19, 20, 21, 22, 23, 24, 25, 26, 27, 28, 29, 30, 31, 32, 33, 34, 35, 36, 37, 38, 39, 40, 41, 42, 43, 44, 45, 46, 47, 48, 49, 50, 51, 52, 53, 54, 55, 56, 57, 58, 59, 60, 61, 62, 63, 64, 65, 66, 67, 79, 80, 81, 82, 83, 84, 85, 86, 87, 88, 89] rfl rfl rfl rfl (by decide) rfl rfl (run_V (rest := []) C (c_X1_copyFrom l D cI cJ cO bT (v.1 5) (qT q) (v.2 5) (o := v.2 5) rfl) w_copy 0 1 rfl rfl rfl rfl rfl (Nat.le_of_ble_eq_true rfl) dX3_undo_58 ⟨Nat.zero_le _, Nat.zero_le _⟩) rfl hz
set_option maxHeartbeats 8000000 in
set_option maxRecDepth 100000 in
theorem c_X3_undo_T (l : Launch) (D : va_G) (cI cJ cO : ClassId) (aP : Nat) (bT bR : Nat → Nat) (aS : Nat) (q : QS) (v : VS) (hq : qN q = nI 0) : CtT l D (tysA cI cJ cO) yX3_undo wsX3_undo (rmOfX 6 110) [.ref aP] (wP cI cJ cO aP bT bR aS (q, v)) (gw_xn 2) (wP cI cJ cO aP bT bR aS (q, v)) := by
  refine CtT_of (own := RX3) cX3_undo 2 (some .int) (by decide +kernel) rfl rfl (Nat.le_of_ble_eq_true rfl) ?_
  intro p e s m args below meth c A C XF hnm
  have iX3 : ∀ w ∈ u_ws RX3 TX3 6, w ∈ wsX3_undo := fun w h => List.mem_cons_of_mem _ (List.mem_append_left _ (List.mem_append_left _ (List.mem_append_left _ (List.mem_append_right _ h))))
  have f23 : Cond.fieldLink RX3 23 (TX3 3).1 (TX3 3).2.1 (TX3 3).2.2.1 ∈ wsX3_undo := List.mem_of_getElem? (i := 3) rfl
  have f19 : Cond.fieldLink RX3 19 (TX3 2).1 (TX3 2).2.1 (TX3 2).2.2.1 ∈ wsX3_undo := List.mem_of_getElem? (i := 4) rfl
  have f12 : Cond.fieldLink RX3 12 (TX3 0).1 (TX3 0).2.1 (TX3 0).2.2.1 ∈ wsX3_undo := List.mem_of_getElem? (i := 5) rfl
  show gw_G p l e (rmOfX 6 110) s m args below meth c D A (CtMT D below (gw_xn 2) (wP cI cJ cO aP bT bR aS (q, v)) A args s) 2 0 0 (wP cI cJ cO aP bT bR aS (q, v)) [(0, .ref aP)] 0 []
  refine gw_aload_n C dX3_undo_0 0 rfl ?_
  refine gw_get C dX3_undo_1 0 2 3 rfl rfl iX3 (by decide) f23 rfl ?_
  rw [hq]
  have th2a : Cond.classLink RX3 41 (gw_xn 2) ∈ wsX3_undo := List.mem_of_getElem? (i := 1) rfl
  have th2b : Cond.initialized (gw_xn 2) ∈ wsX3_undo := List.mem_of_getElem? (i := 2) rfl
  have th2c : ∀ w ∈ (vx_atS RX3 45 (gw_xn 2) gw_ns).filter goodWord, w ∈ wsX3_undo := fun w h => List.mem_cons_of_mem _ (List.mem_append_right _ h)
  have sx106 := gw_str (tx := "no state is saved") XF 106 (List.mem_of_getElem? (i := 7) rfl)
  refine gw_if_le (Φ := fun _ : Unit => True) (X := ()) (Y := ()) (tgt := 19) C dX3_undo_4 (by decide) trivial (fun c1 _ => ?_) (fun c1 _ => absurd (by decide) c1)
  exact gw_throw (E := gw_xn 2) C XF dX3_undo_19 dX3_undo_22 dX3_undo_23 dX3_undo_25 dX3_undo_28 (by decide) th2a th2b sx106 th2c xW_2
