theorem gw_cxi {cA : ClassId} {n : Nat} {f g : Nat → Int32} (h : ∀ k, k < n → f k = g k) : vp_cell cA (n, .inl f) = vp_cell cA (n, .inl g) := by
  show arrV cA n (fun j => Value.int (f j)) = arrV cA n (fun j => Value.int (g j))
  unfold arrV
  rw [show (fun j : Fin n => Value.int (f j.val)) = (fun j : Fin n => Value.int (g j.val)) from funext fun j => by rw [h j.val j.isLt]]
theorem gw_cxl {cA : ClassId} {n : Nat} {f g : Nat → Int64} (h : ∀ k, k < n → f k = g k) : vp_cell cA (n, .inr (.inl f)) = vp_cell cA (n, .inr (.inl g)) := by
  show arrV cA n (fun j => Value.long (f j)) = arrV cA n (fun j => Value.long (g j))
  unfold arrV
  rw [show (fun j : Fin n => Value.long (f j.val)) = (fun j : Fin n => Value.long (g j.val)) from funext fun j => by rw [h j.val j.isLt]]
/-- two entries that say the same of a heap -/
def gw_eqv (D : va_G) (p q : Nat × va_E) : Prop := p.1 = q.1 ∧ ∀ H, va_at D vwCl p H → va_at D vwCl q H
theorem gw_eqv.rf {D : va_G} {p : Nat × va_E} : gw_eqv D p p := ⟨rfl, fun _ h => h⟩
theorem gw_eqv.i {D : va_G} {a : Nat} {cA : ClassId} {n : Nat} {f g : Nat → Int32} (h : ∀ k, k < n → f k = g k) : gw_eqv D (a, .inl (cA, n, .inl f)) (a, .inl (cA, n, .inl g)) := ⟨rfl, fun H hh => by
  have hh : H[a]? = some (vp_cell cA (n, .inl f)) := hh
  show H[a]? = some (vp_cell cA (n, .inl g))
  rw [← gw_cxi h]; exact hh⟩
theorem gw_eqv.l {D : va_G} {a : Nat} {cA : ClassId} {n : Nat} {f g : Nat → Int64} (h : ∀ k, k < n → f k = g k) : gw_eqv D (a, .inl (cA, n, .inr (.inl f))) (a, .inl (cA, n, .inr (.inl g))) := ⟨rfl, fun H hh => by
  have hh : H[a]? = some (vp_cell cA (n, .inr (.inl f))) := hh
  show H[a]? = some (vp_cell cA (n, .inr (.inl g)))
  rw [← gw_cxl h]; exact hh⟩
def gw_eqs (D : va_G) : va_W → va_W → Prop
  | [], [] => True
  | p :: u, q :: v => gw_eqv D p q ∧ gw_eqs D u v
  | _, _ => False
theorem gw_eqs.get {D : va_G} : ∀ {u v : va_W}, gw_eqs D u v → ∀ (k : Nat) (q : Nat × va_E), v[k]? = some q → ∃ p, u[k]? = some p ∧ gw_eqv D p q
  | [], [], _, k, q, h => by simp at h
  | p :: u, q :: v, h, 0, r, hr => by
    cases hr
    exact ⟨p, rfl, h.1⟩
  | p :: u, q :: v, h, k + 1, r, hr => by
    obtain ⟨x, h1, h2⟩ := gw_eqs.get h.2 k r (by simpa using hr)
    exact ⟨x, by simpa using h1, h2⟩
  | [], _ :: _, h, _, _, _ => absurd h id
  | _ :: _, [], h, _, _, _ => absurd h id
section GX
variable {p : Program} {l : Launch} {e : Env} {R : Room} {s : State} {m : MethodId} {args : Array Value} {below : List Frame} {meth : Method} {c : Code} {D : va_G} {A : Nat → Prop} {Q : State → Prop} {nL cells slots : Nat} {ws : va_W} {lv lv' : List (Nat × Value)} {pc : Nat} {st : List Value}
variable {cc : ByteArray} {Ts : List Cond} {own : String} {tys : List (ClassId × FieldType)} {rt : Option FieldType}
theorem gw_conv {ws' : va_W} (h : gw_eqs D ws ws') (k : gw_G p l e R s m args below meth c D A Q nL cells slots ws' lv pc st) : gw_G p l e R s m args below meth c D A Q nL cells slots ws lv pc st := by
  intro H locs ls hP hD hS hl
  refine k H locs ls (fun k0 q hk => ?_) ⟨fun i j x y hi hj hxy => ?_, fun k0 q hk => ?_⟩ hS hl
  · obtain ⟨x, h1, h2⟩ := h.get k0 q hk
    exact h2.2 H (hP k0 x h1)
  · obtain ⟨x0, h1, h2⟩ := h.get i x hi
    obtain ⟨y0, h3, h4⟩ := h.get j y hj
    exact hD.1 i j x0 y0 h1 h3 (h2.1.trans (hxy.trans h4.1.symm))
  · obtain ⟨x, h1, h2⟩ := h.get k0 q hk
    rw [← h2.1]
    exact hD.2 k0 x h1
theorem gw_mmin (C : Cx p s m args meth c cc nL Ts own D tys A rt) {x y : Int32} {index : Nat} (d : decode cc pc = .ok (.invokestatic index, 3)) (h1 : Cond.methodLink own index Lib.Math.min.name ∈ Ts) (h2 : Cond.static Lib.Math.min.name ∈ Ts) (h3 : Cond.initialized "java/lang/Math" ∈ Ts) (h4 : Cond.code Lib.Math.min.name Lib.Math.min.code 2 (some .int) ∈ Ts) (hf : 1 ≤ R.frames) (hlo : (st.map fun v => v.category).sum + 13 ≤ R.locals) (hc : cells ≤ R.cells) (hs : slots ≤ R.slots) (k : gw_G p l e R s m args below meth c D A Q nL cells slots ws lv (pc + 3) (.int (if y < x then y else x) :: st)) : gw_G p l e R s m args below meth c D A Q nL cells slots ws lv pc (.int y :: .int x :: st) :=
  fun H locs ls hP hD hS hl => va_mmin C.1.1 C.1.2.1 (by rw [hl.1]; exact C.1.2.2.1) C.1.2.2.2.1 (C.1.2.2.2.2 _ h1) (C.1.2.2.2.2 _ h2) (C.1.2.2.2.2 _ h3) (C.1.2.2.2.2 _ h4) hf hlo hc hs d (k H locs ls hP hD hS hl)
theorem gw_copyi (C : Cx p s m args meth c cc nL Ts own D tys A rt) {sp dp n : Int32} {index a0 a : Nat} {c0 c1 : ClassId} {n0 n1 : Nat} {f g : Nat → Int32} {ws' : va_W} (d : decode cc pc = .ok (.invokestatic index, 3)) (q0 q1 t0 t1 : Nat) (h1 : Cond.methodLink own index arraycopyName ∈ Ts) (h2 : Cond.native arraycopyName ∈ Ts) (h3 : Cond.static arraycopyName ∈ Ts) (h4 : Cond.initialized "java/lang/System" ∈ Ts) (ha0 : ws[q0]? = some (a0, .inl (c0, n0, .inl f))) (ha1 : ws[q1]? = some (a, .inl (c1, n1, .inl g))) (ht0 : tys[t0]? = some (c0, .int)) (ht1 : tys[t1]? = some (c1, .int)) (g1 : ¬ sp < 0) (g2 : ¬ dp < 0) (g3 : ¬ n < 0) (g4 : sp.toNatClampNeg + n.toNatClampNeg ≤ n0) (g5 : dp.toNatClampNeg + n.toNatClampNeg ≤ n1) (hf : 1 ≤ R.frames) (hlo : (st.map fun v => v.category).sum + 18 ≤ R.locals) (hset : ws.set q1 (a, .inl (c1, n1, .inl (va_cpy f g sp.toNatClampNeg dp.toNatClampNeg n.toNatClampNeg))) = ws') (k : gw_G p l e R s m args below meth c D A Q nL cells slots ws' lv (pc + 3) st) : gw_G p l e R s m args below meth c D A Q nL cells slots ws lv pc (.int n :: .int dp :: .ref a :: .int sp :: .ref a0 :: st) :=
  fun H locs ls hP hD hS hl => va_copyi C.1.1 C.1.2.1 (by rw [hl.1]; exact C.1.2.2.1) C.1.2.2.2.1 (C.1.2.2.2.2 _ h1) (C.1.2.2.2.2 _ h2) (C.1.2.2.2.2 _ h3) (C.1.2.2.2.2 _ h4) C.2.1 hP hD hS q0 q1 t0 t1 ha0 ha1 ht0 ht1 rfl g1 g2 g3 g4 g5 (fun _ _ => rfl) hf (by show _ + (nativeFrameWords "java/lang/System" "arraycopy" 5 + 11) ≤ _; rw [show nativeFrameWords "java/lang/System" "arraycopy" 5 = 7 from by decide +kernel]; exact hlo) d (fun H1 locs1 hP1 hD1 hS1 => k H1 locs1 ls (by rw [← hset]; exact hP1) (by rw [← hset]; exact hD1) hS1 hl)
theorem gw_copyl (C : Cx p s m args meth c cc nL Ts own D tys A rt) {sp dp n : Int32} {index a0 a : Nat} {c0 c1 : ClassId} {n0 n1 : Nat} {f g : Nat → Int64} {ws' : va_W} (d : decode cc pc = .ok (.invokestatic index, 3)) (q0 q1 t0 t1 : Nat) (h1 : Cond.methodLink own index arraycopyName ∈ Ts) (h2 : Cond.native arraycopyName ∈ Ts) (h3 : Cond.static arraycopyName ∈ Ts) (h4 : Cond.initialized "java/lang/System" ∈ Ts) (ha0 : ws[q0]? = some (a0, .inl (c0, n0, .inr (.inl f)))) (ha1 : ws[q1]? = some (a, .inl (c1, n1, .inr (.inl g)))) (ht0 : tys[t0]? = some (c0, .long)) (ht1 : tys[t1]? = some (c1, .long)) (g1 : ¬ sp < 0) (g2 : ¬ dp < 0) (g3 : ¬ n < 0) (g4 : sp.toNatClampNeg + n.toNatClampNeg ≤ n0) (g5 : dp.toNatClampNeg + n.toNatClampNeg ≤ n1) (hf : 1 ≤ R.frames) (hlo : (st.map fun v => v.category).sum + 18 ≤ R.locals) (hset : ws.set q1 (a, .inl (c1, n1, .inr (.inl (va_cpy f g sp.toNatClampNeg dp.toNatClampNeg n.toNatClampNeg)))) = ws') (k : gw_G p l e R s m args below meth c D A Q nL cells slots ws' lv (pc + 3) st) : gw_G p l e R s m args below meth c D A Q nL cells slots ws lv pc (.int n :: .int dp :: .ref a :: .int sp :: .ref a0 :: st) :=
  fun H locs ls hP hD hS hl => va_copyl C.1.1 C.1.2.1 (by rw [hl.1]; exact C.1.2.2.1) C.1.2.2.2.1 (C.1.2.2.2.2 _ h1) (C.1.2.2.2.2 _ h2) (C.1.2.2.2.2 _ h3) (C.1.2.2.2.2 _ h4) C.2.1 hP hD hS q0 q1 t0 t1 ha0 ha1 ht0 ht1 rfl g1 g2 g3 g4 g5 (fun _ _ => rfl) hf (by show _ + (nativeFrameWords "java/lang/System" "arraycopy" 5 + 11) ≤ _; rw [show nativeFrameWords "java/lang/System" "arraycopy" 5 = 7 from by decide +kernel]; exact hlo) d (fun H1 locs1 hP1 hD1 hS1 => k H1 locs1 ls (by rw [← hset]; exact hP1) (by rw [← hset]; exact hD1) hS1 hl)
end GX
theorem hd_J7_fill_53178 : yJ7_fill_53178.cls = RJ7 ∧ yJ7_fill_53178.cls ≠ "java/lang/invoke/MethodHandle" ∧ yJ7_fill_53178.cls ≠ "java/lang/invoke/VarHandle" ∧ (parseMethodDescriptor yJ7_fill_53178.desc).map (fun d => d.parameters.length) = some 2 := by decide +kernel
set_option maxHeartbeats 4000000 in
set_option maxRecDepth 100000 in
theorem c_J7_fill_53178 (l : Launch) (D : va_G) (cI cJ cO : ClassId) (a n : Nat) (f : Nat → Int32) (v : Int32) (hn : n < 2 ^ 31) : Ct l D (tysA cI cJ cO) yJ7_fill_53178 wsJ7_fill_53178 (rmOf 0 0) [.ref a, .int v] [(a, .inl (cI, n, .inl (f)))] none [(a, .inl (cI, n, .inl (fun _ => v)))] := by
  refine Ct_of (own := RJ7) cJ7_fill_53178 4 none (by decide +kernel) rfl rfl (Nat.le_of_ble_eq_true rfl) ?_
  intro p e s m args below meth c A C hnm
  show gw_G p l e (rmOf 0 0) s m args below meth c D A (CtM D below none [(a, .inl (cI, n, .inl (fun _ => v)))] A args s) 4 0 0 [(a, .inl (cI, n, .inl (f)))] [(0, .ref a), (1, .int v)] 0 []
  refine gw_iconst (v := nI 0) C dJ7_fill_53178_0 rfl ?_
  refine gw_istore_n C dJ7_fill_53178_1 [(2, .int (nI 0)), (0, .ref a), (1, .int v)] rfl (by decide) rfl ?_
  refine gw_aload_n C dJ7_fill_53178_2 1 rfl ?_
  refine gw_alen (v := nI n) C dJ7_fill_53178_3 0 0 rfl rfl rfl ?_
  refine gw_istore_n C dJ7_fill_53178_4 [(3, .int (nI n)), (2, .int (nI 0)), (0, .ref a), (1, .int v)] rfl (by decide) rfl ?_
  refine gw_sub [2, 3, 1, 0] rfl ?_
  have key : ∀ k i : Nat, i + k = n → gw_G p l e (rmOf 0 0) s m args below meth c D A (CtM D below none [(a, .inl (cI, n, .inl (fun _ => v)))] A args s) 4 0 0 [(a, .inl (cI, n, .inl (fun j => if j < i then v else f j)))] [(0, .ref a), (1, .int v), (2, .int (nI i)), (3, .int (nI n))] 5 [] := by
    intro k
    induction k with
    | zero =>
      intro i hi
      refine gw_iload_n C dJ7_fill_53178_5 2 rfl ?_
      refine gw_iload_n C dJ7_fill_53178_6 3 rfl ?_
      refine gw_icmp_ge (Φ := fun _ : Unit => True) (X := ()) (Y := ()) (tgt := 20) C dJ7_fill_53178_7 (by decide) trivial (fun c1 _ => ?_) (fun c1 _ => ?_)
      · refine gw_conv (ws' := [(a, .inl (cI, n, .inl (fun _ => v)))]) ⟨gw_eqv.i (fun k hk => if_pos (by omega)), trivial⟩ ?_
        exact gw_vret C dJ7_fill_53178_20
      · exact absurd (nI_le (by omega) (by omega)) c1
    | succ k ih =>
      intro i hi
      refine gw_iload_n C dJ7_fill_53178_5 2 rfl ?_
      refine gw_iload_n C dJ7_fill_53178_6 3 rfl ?_
      refine gw_icmp_ge (Φ := fun _ : Unit => True) (X := ()) (Y := ()) (tgt := 20) C dJ7_fill_53178_7 (by decide) trivial (fun c1 _ => ?_) (fun c1 _ => ?_)
      · exact absurd c1 (nI_ge (by omega) (by omega))
      · refine gw_aload_n C dJ7_fill_53178_10 0 rfl ?_
        refine gw_iload_n C dJ7_fill_53178_11 2 rfl ?_
        refine gw_iload_n C dJ7_fill_53178_12 1 rfl ?_
        have eu : upd (fun j => if j < i then v else f j) (nI i).toNatClampNeg v = (fun j => if j < i + 1 then v else f j) := by
          rw [nI_clamp (by omega)]
          funext j
          show (if j = i then v else if j < i then v else f j) = _
          by_cases h1 : j = i
          · rw [if_pos h1, if_pos (by omega)]
          · rw [if_neg h1]
            by_cases h2 : j < i
            · rw [if_pos h2, if_pos (by omega)]
            · rw [if_neg h2, if_neg (by omega)]
        refine gw_iast (ws' := [(a, .inl (cI, n, .inl (fun j => if j < (i + 1) then v else f j)))]) C dJ7_fill_53178_13 0 0 rfl rfl (nI_in (by omega) hn) (by rw [eu]; rfl) ?_
        refine gw_iinc (v := nI (i + 1)) C dJ7_fill_53178_14 [(2, .int (nI (i + 1))), (0, .ref a), (1, .int v), (3, .int (nI n))] 2 rfl (nI_succ i).symm (by decide) rfl ?_
        refine gw_goto (tgt := 5) C dJ7_fill_53178_17 (by decide) ?_
        refine gw_sub [1, 2, 0, 3] rfl ?_
        exact ih (i + 1) (by omega)
  have h0 := key n 0 (by omega)
  rw [show (fun j : Nat => if j < 0 then v else f j) = f from funext fun j => if_neg (Nat.not_lt_zero j)] at h0
  exact h0
theorem hd_J7_fill_d0a16 : yJ7_fill_d0a16.cls = RJ7 ∧ yJ7_fill_d0a16.cls ≠ "java/lang/invoke/MethodHandle" ∧ yJ7_fill_d0a16.cls ≠ "java/lang/invoke/VarHandle" ∧ (parseMethodDescriptor yJ7_fill_d0a16.desc).map (fun d => d.parameters.length) = some 2 := by decide +kernel
set_option maxHeartbeats 4000000 in
set_option maxRecDepth 100000 in
theorem c_J7_fill_d0a16 (l : Launch) (D : va_G) (cI cJ cO : ClassId) (a n : Nat) (f : Nat → Int64) (v : Int64) (hn : n < 2 ^ 31) : Ct l D (tysA cI cJ cO) yJ7_fill_d0a16 wsJ7_fill_d0a16 (rmOf 0 0) [.ref a, .long v] [(a, .inl (cJ, n, .inr (.inl (f))))] none [(a, .inl (cJ, n, .inr (.inl (fun _ => v))))] := by
  refine Ct_of (own := RJ7) cJ7_fill_d0a16 5 none (by decide +kernel) rfl rfl (Nat.le_of_ble_eq_true rfl) ?_
  intro p e s m args below meth c A C hnm
  show gw_G p l e (rmOf 0 0) s m args below meth c D A (CtM D below none [(a, .inl (cJ, n, .inr (.inl (fun _ => v))))] A args s) 5 0 0 [(a, .inl (cJ, n, .inr (.inl (f))))] [(0, .ref a), (1, .long v)] 0 []
  refine gw_iconst (v := nI 0) C dJ7_fill_d0a16_0 rfl ?_
  refine gw_istore_n C dJ7_fill_d0a16_1 [(3, .int (nI 0)), (0, .ref a), (1, .long v)] rfl (by decide) rfl ?_
  refine gw_aload_n C dJ7_fill_d0a16_2 1 rfl ?_
  refine gw_alen (v := nI n) C dJ7_fill_d0a16_3 0 1 rfl rfl rfl ?_
  refine gw_istore C dJ7_fill_d0a16_4 [(4, .int (nI n)), (3, .int (nI 0)), (0, .ref a), (1, .long v)] (by decide) rfl ?_
  refine gw_sub [2, 3, 1, 0] rfl ?_
  have key : ∀ k i : Nat, i + k = n → gw_G p l e (rmOf 0 0) s m args below meth c D A (CtM D below none [(a, .inl (cJ, n, .inr (.inl (fun _ => v))))] A args s) 5 0 0 [(a, .inl (cJ, n, .inr (.inl (fun j => if j < i then v else f j))))] [(0, .ref a), (1, .long v), (3, .int (nI i)), (4, .int (nI n))] 6 [] := by
    intro k
    induction k with
    | zero =>
      intro i hi
      refine gw_iload_n C dJ7_fill_d0a16_6 2 rfl ?_
      refine gw_iload C dJ7_fill_d0a16_7 3 rfl ?_
      refine gw_icmp_ge (Φ := fun _ : Unit => True) (X := ()) (Y := ()) (tgt := 22) C dJ7_fill_d0a16_9 (by decide) trivial (fun c1 _ => ?_) (fun c1 _ => ?_)
      · refine gw_conv (ws' := [(a, .inl (cJ, n, .inr (.inl (fun _ => v))))]) ⟨gw_eqv.l (fun k hk => if_pos (by omega)), trivial⟩ ?_
        exact gw_vret C dJ7_fill_d0a16_22
      · exact absurd (nI_le (by omega) (by omega)) c1
    | succ k ih =>
      intro i hi
      refine gw_iload_n C dJ7_fill_d0a16_6 2 rfl ?_
      refine gw_iload C dJ7_fill_d0a16_7 3 rfl ?_
      refine gw_icmp_ge (Φ := fun _ : Unit => True) (X := ()) (Y := ()) (tgt := 22) C dJ7_fill_d0a16_9 (by decide) trivial (fun c1 _ => ?_) (fun c1 _ => ?_)
      · exact absurd c1 (nI_ge (by omega) (by omega))
      · refine gw_aload_n C dJ7_fill_d0a16_12 0 rfl ?_
        refine gw_iload_n C dJ7_fill_d0a16_13 2 rfl ?_
        refine gw_lload_n C dJ7_fill_d0a16_14 1 rfl ?_
        have eu : vp_updL (fun j => if j < i then v else f j) (nI i).toNatClampNeg v = (fun j => if j < i + 1 then v else f j) := by
          rw [nI_clamp (by omega)]
          funext j
          show (if j = i then v else if j < i then v else f j) = _
          by_cases h1 : j = i
          · rw [if_pos h1, if_pos (by omega)]
          · rw [if_neg h1]
            by_cases h2 : j < i
            · rw [if_pos h2, if_pos (by omega)]
            · rw [if_neg h2, if_neg (by omega)]
        refine gw_last (ws' := [(a, .inl (cJ, n, .inr (.inl (fun j => if j < (i + 1) then v else f j))))]) C dJ7_fill_d0a16_15 0 1 rfl rfl (nI_in (by omega) hn) (by rw [eu]; rfl) ?_
        refine gw_iinc (v := nI (i + 1)) C dJ7_fill_d0a16_16 [(3, .int (nI (i + 1))), (0, .ref a), (1, .long v), (4, .int (nI n))] 2 rfl (nI_succ i).symm (by decide) rfl ?_
        refine gw_goto (tgt := 6) C dJ7_fill_d0a16_19 (by decide) ?_
        refine gw_sub [1, 2, 0, 3] rfl ?_
        exact ih (i + 1) (by omega)
  have h0 := key n 0 (by omega)
  rw [show (fun j : Nat => if j < 0 then v else f j) = f from funext fun j => if_neg (Nat.not_lt_zero j)] at h0
  exact h0
theorem hd_X3_copyRow : yX3_copyRow.cls = RX3 ∧ yX3_copyRow.cls ≠ "java/lang/invoke/MethodHandle" ∧ yX3_copyRow.cls ≠ "java/lang/invoke/VarHandle" ∧ (parseMethodDescriptor yX3_copyRow.desc).map (fun d => d.parameters.length) = some 2 := by decide +kernel
set_option maxHeartbeats 4000000 in
set_option maxRecDepth 100000 in
theorem c_X3_copyRow (l : Launch) (D : va_G) (cI cJ cO : ClassId) (a0 a1 n : Nat) (f g : Nat → Int32) (hn : n < 2 ^ 31) : Ct l D (tysA cI cJ cO) yX3_copyRow wsX3_copyRow (rmOf 1 18) [.ref a0, .ref a1] [(a0, .inl (cI, n, .inl f)), (a1, .inl (cI, n, .inl g))] none [(a0, .inl (cI, n, .inl f)), (a1, .inl (cI, n, .inl f))] := by
  refine Ct_of (own := RX3) cX3_copyRow 2 none (by decide +kernel) rfl rfl (Nat.le_of_ble_eq_true rfl) ?_
  intro p e s m args below meth c A C hnm
  have m1 : Cond.methodLink RX3 228 Lib.Math.min.name ∈ wsX3_copyRow := List.mem_of_getElem? (i := 1) rfl
  have m2 : Cond.static Lib.Math.min.name ∈ wsX3_copyRow := List.mem_of_getElem? (i := 2) rfl
  have m3 : Cond.initialized "java/lang/Math" ∈ wsX3_copyRow := List.mem_of_getElem? (i := 3) rfl
  have m4 : Cond.code Lib.Math.min.name Lib.Math.min.code 2 (some .int) ∈ wsX3_copyRow := List.mem_of_getElem? (i := 4) rfl
  have m5 : Cond.methodLink RX3 233 arraycopyName ∈ wsX3_copyRow := List.mem_of_getElem? (i := 5) rfl
  have m6 : Cond.native arraycopyName ∈ wsX3_copyRow := List.mem_of_getElem? (i := 6) rfl
  have m7 : Cond.static arraycopyName ∈ wsX3_copyRow := List.mem_of_getElem? (i := 7) rfl
  have m8 : Cond.initialized "java/lang/System" ∈ wsX3_copyRow := List.mem_of_getElem? (i := 8) rfl
  have em : (if nI n < nI n then nI n else nI n) = nI n := by split <;> rfl
  show gw_G p l e (rmOf 1 18) s m args below meth c D A (CtM D below none [(a0, .inl (cI, n, .inl f)), (a1, .inl (cI, n, .inl f))] A args s) 2 0 0 [(a0, .inl (cI, n, .inl f)), (a1, .inl (cI, n, .inl g))] [(0, .ref a0), (1, .ref a1)] 0 []
  refine gw_aload_n C dX3_copyRow_0 0 rfl ?_
  refine gw_iconst (v := nI 0) C dX3_copyRow_1 rfl ?_
  refine gw_aload_n C dX3_copyRow_2 1 rfl ?_
  refine gw_iconst (v := nI 0) C dX3_copyRow_3 rfl ?_
  refine gw_aload_n C dX3_copyRow_4 0 rfl ?_
  refine gw_alen (v := nI n) C dX3_copyRow_5 0 0 rfl rfl rfl ?_
  refine gw_aload_n C dX3_copyRow_6 1 rfl ?_
  refine gw_alen (v := nI n) C dX3_copyRow_7 1 0 rfl rfl rfl ?_
  refine gw_mmin C dX3_copyRow_8 m1 m2 m3 m4 (Nat.le_of_ble_eq_true rfl) (Nat.le_of_ble_eq_true rfl) (Nat.zero_le _) (Nat.zero_le _) ?_
  rw [em]
  have hc0 : (nI 0).toNatClampNeg = 0 := nI_clamp (by decide)
  have hcn : (nI n).toNatClampNeg = n := nI_clamp hn
  refine gw_copyi (ws' := [(a0, .inl (cI, n, .inl f)), (a1, .inl (cI, n, .inl (va_cpy f g 0 0 n)))]) C dX3_copyRow_11 0 1 0 0 m5 m6 m7 m8 rfl rfl rfl rfl (nI_pos (by decide)) (nI_pos (by decide)) (nI_pos hn) (by rw [hc0, hcn]; omega) (by rw [hc0, hcn]; omega) (Nat.le_of_ble_eq_true rfl) (Nat.le_of_ble_eq_true rfl) (by rw [hc0, hcn]; rfl) ?_
  refine gw_conv (ws' := [(a0, .inl (cI, n, .inl f)), (a1, .inl (cI, n, .inl f))]) ⟨gw_eqv.rf, gw_eqv.i (fun k hk => ?_), trivial⟩ ?_
  · show (if 0 ≤ k ∧ k < 0 + n then f (0 + (k - 0)) else g k) = f k
    rw [if_pos (by omega)]; congr 1; omega
  exact gw_vret C dX3_copyRow_14
theorem hd_X0_copyFrom : yX0_copyFrom.cls = RX0 ∧ yX0_copyFrom.cls ≠ "java/lang/invoke/MethodHandle" ∧ yX0_copyFrom.cls ≠ "java/lang/invoke/VarHandle" ∧ (parseMethodDescriptor yX0_copyFrom.desc).map (fun d => d.parameters.length) = some 1 := by decide +kernel
set_option maxHeartbeats 4000000 in
set_option maxRecDepth 100000 in
theorem c_X0_copyFrom (l : Launch) (D : va_G) (cI cJ cO : ClassId) (e0 e1 e2 d0 d1 d2 : Nat) (t u : ES) : Ct l D (tysA cI cJ cO) yX0_copyFrom wsX0_copyFrom (rmOf 2 39) [.ref e0, .ref d0] (wE cI cJ e0 e1 e2 t ++ wE cI cJ d0 d1 d2 u) none (wE cI cJ e0 e1 e2 u ++ wE cI cJ d0 d1 d2 u) := by
  refine Ct_of (own := RX0) cX0_copyFrom 2 none (by decide +kernel) rfl rfl (Nat.le_of_ble_eq_true rfl) ?_
  intro p e s m args below meth c A C hnm
  have iX0 : ∀ w ∈ u_ws RX0 TX0 2, w ∈ wsX0_copyFrom := fun w h => List.mem_cons_of_mem _ (List.mem_append_right _ h)
  have f9 : Cond.fieldLink RX0 9 (TX0 0).1 (TX0 0).2.1 (TX0 0).2.2.1 ∈ wsX0_copyFrom := List.mem_of_getElem? (i := 1) rfl
  have f15 : Cond.fieldLink RX0 15 (TX0 1).1 (TX0 1).2.1 (TX0 1).2.2.1 ∈ wsX0_copyFrom := List.mem_of_getElem? (i := 2) rfl
  have m1 : Cond.methodLink RX0 32 Lib.Math.min.name ∈ wsX0_copyFrom := List.mem_of_getElem? (i := 3) rfl
  have m2 : Cond.static Lib.Math.min.name ∈ wsX0_copyFrom := List.mem_of_getElem? (i := 4) rfl
  have m3 : Cond.initialized "java/lang/Math" ∈ wsX0_copyFrom := List.mem_of_getElem? (i := 5) rfl
  have m4 : Cond.code Lib.Math.min.name Lib.Math.min.code 2 (some .int) ∈ wsX0_copyFrom := List.mem_of_getElem? (i := 6) rfl
  have m5 : Cond.methodLink RX0 38 arraycopyName ∈ wsX0_copyFrom := List.mem_of_getElem? (i := 7) rfl
  have m6 : Cond.native arraycopyName ∈ wsX0_copyFrom := List.mem_of_getElem? (i := 8) rfl
  have m7 : Cond.static arraycopyName ∈ wsX0_copyFrom := List.mem_of_getElem? (i := 9) rfl
  have m8 : Cond.initialized "java/lang/System" ∈ wsX0_copyFrom := List.mem_of_getElem? (i := 10) rfl
  have n_X3_copyRow := gw_cn (R := (rmOf 2 39)) (rm := rmOf 1 18) (index := 28) (n := 2) C gX0_copyFrom_X3_copyRow_n28 rfl rfl rfl (by simp [nestW]) (List.mem_of_getElem? (i := 12) rfl) (List.mem_of_getElem? (i := 11) rfl) hd_X3_copyRow.2 ⟨Nat.le_of_ble_eq_true rfl, Nat.le_of_ble_eq_true rfl⟩
  have em : (if nI 40 < nI 40 then nI 40 else nI 40) = nI 40 := by split <;> rfl
  show gw_G p l e (rmOf 2 39) s m args below meth c D A (CtM D below none (wE cI cJ e0 e1 e2 u ++ wE cI cJ d0 d1 d2 u) A args s) 2 0 0 (wE cI cJ e0 e1 e2 t ++ wE cI cJ d0 d1 d2 u) [(0, .ref e0), (1, .ref d0)] 0 []
  refine gw_aload_n C dX0_copyFrom_0 1 rfl ?_
  refine gw_get C dX0_copyFrom_1 3 0 0 rfl rfl iX0 (by decide) f9 rfl ?_
  refine gw_aload_n C dX0_copyFrom_4 0 rfl ?_
  refine gw_get C dX0_copyFrom_5 0 0 0 rfl rfl iX0 (by decide) f9 rfl ?_
  refine gw_sub_call (st2 := []) (ws' := wE cI cJ e0 e1 e2 (sEU t (eU u)) ++ wE cI cJ d0 d1 d2 u) C [4, 1] [0, 2, 3, 5] [0, 5, 1, 2, 4, 3] rfl rfl rfl rfl (by decide) rfl rfl (run_SN (rest := []) C (c_X3_copyRow l D cI cJ cO d1 e1 40 (eU u) (eU t) (by decide)) n_X3_copyRow rfl rfl (Nat.le_of_ble_eq_true rfl) dX0_copyFrom_8 ⟨Nat.zero_le _, Nat.zero_le _⟩) rfl ?_
  refine gw_aload_n C dX0_copyFrom_11 1 rfl ?_
  refine gw_get C dX0_copyFrom_12 3 0 1 rfl rfl iX0 (by decide) f15 rfl ?_
  refine gw_iconst (v := nI 0) C dX0_copyFrom_15 rfl ?_
  refine gw_aload_n C dX0_copyFrom_16 0 rfl ?_
  refine gw_get C dX0_copyFrom_17 0 0 1 rfl rfl iX0 (by decide) f15 rfl ?_
  refine gw_iconst (v := nI 0) C dX0_copyFrom_20 rfl ?_
  refine gw_aload_n C dX0_copyFrom_21 1 rfl ?_
  refine gw_get C dX0_copyFrom_22 3 0 1 rfl rfl iX0 (by decide) f15 rfl ?_
  refine gw_alen (v := nI 40) C dX0_copyFrom_25 5 1 rfl rfl rfl ?_
  refine gw_aload_n C dX0_copyFrom_26 0 rfl ?_
  refine gw_get C dX0_copyFrom_27 0 0 1 rfl rfl iX0 (by decide) f15 rfl ?_
  refine gw_alen (v := nI 40) C dX0_copyFrom_30 2 1 rfl rfl rfl ?_
  refine gw_mmin C dX0_copyFrom_31 m1 m2 m3 m4 (Nat.le_of_ble_eq_true rfl) (Nat.le_of_ble_eq_true rfl) (Nat.zero_le _) (Nat.zero_le _) ?_
  rw [em]
  have hc0 : (nI 0).toNatClampNeg = 0 := nI_clamp (by decide)
  have hcn : (nI 40).toNatClampNeg = 40 := nI_clamp (by decide)
  refine gw_copyl (ws' := wE cI cJ e0 e1 e2 (eU u, va_cpy (eX u) (eX t) 0 0 40) ++ wE cI cJ d0 d1 d2 u) C dX0_copyFrom_34 5 2 1 1 m5 m6 m7 m8 rfl rfl rfl rfl (nI_pos (by decide)) (nI_pos (by decide)) (nI_pos (by decide)) (by rw [hc0, hcn]; omega) (by rw [hc0, hcn]; omega) (Nat.le_of_ble_eq_true rfl) (Nat.le_of_ble_eq_true rfl) (by rw [hc0, hcn]; rfl) ?_
  refine gw_conv (ws' := (wE cI cJ e0 e1 e2 u ++ wE cI cJ d0 d1 d2 u)) ⟨gw_eqv.rf, gw_eqv.rf, gw_eqv.l (fun k hk => ?_), gw_eqv.rf, gw_eqv.rf, gw_eqv.rf, trivial⟩ ?_
  · show (if 0 ≤ k ∧ k < 0 + 40 then eX u (0 + (k - 0)) else eX t k) = eX u k
    rw [if_pos (by omega)]; congr 1; omega
  exact gw_vret C dX0_copyFrom_37
