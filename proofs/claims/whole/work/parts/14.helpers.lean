/-! the law's helpers: a call of the class, its exceptions caught -/
def xfH (s : State) : Prop := va_Nc (gw_xn 2) (gw_xn 1) s ∧ va_Nc (gw_xn 1) (gw_xn 3) s
def CtPH (D : va_G) (tys : List (ClassId × FieldType)) (av : List Value) (W0 : va_W) (sz : Nat) : Array Value → State → Prop := fun a U => CtPX D tys av W0 sz a U ∧ xfH U
def CtH (l : Launch) (D : va_G) (tys : List (ClassId × FieldType)) (y : MethodName) (ws : List Cond) (rm : Room) (av : List Value) (W0 : va_W) (r : Option Value) (W1 : va_W) (mc ms : Nat) : Prop :=
  l.stackTraces = false → ∀ sz : Nat, Met l y ws rm (CtPH D tys av W0 sz) (CtQ D r W1 (va_A W0 sz)) mc ms (va_A W0 sz)
def gw_XN : String → State → State → Prop := fun _ _ _ => False
abbrev CtMH (D : va_G) (below : List Frame) (r : Option Value) (W1 : va_W) (A : Nat → Prop) (args : Array Value) (s : State) (mc ms : Nat) : State → Prop := vx_MQ below (CtQ D r W1 A) gw_XN args s mc ms A
theorem gw_metOf {l : Launch} {y : MethodName} {ws : List Cond} {rm : Room} {Pc : Array Value → State → Prop} {Qc : Array Value → State → Outcome → State → Prop} {mc ms : Nat} {free : Addr → Prop} (h : vx_Met l y ws rm Pc Qc gw_XN mc ms free) : Met l y ws rm Pc Qc mc ms free := by
  intro p e h1 h2 h3 s m args below hf ha hp hk
  obtain ⟨n, o, a1, a2, a3, a4⟩ := h p e h1 h2 h3 s m args below hf ha hp hk
  refine ⟨n, o, a1, a2, a3, ?_⟩
  rcases a4 with ⟨b1, b2⟩ | ⟨q, rfl, E, ce, L, hx, _⟩
  · exact ⟨b1, b2⟩
  · exact absurd hx id
theorem CtH_of {l : Launch} {own : String} {D : va_G} {tys : List (ClassId × FieldType)} {y : MethodName} {wsy ws' : List Cond} {rm : Room} {av : List Value} {W0 W1 : va_W} {r : Option Value} {mc ms : Nat} (cc : ByteArray) (nL : Nat) (ret : Option FieldType) (hh : List (Nat × Nat × Nat × Nat)) (hy : plainName y.cls = true) (hown : y.cls = own) (hw : wsy = Cond.codeWith y cc nL ret hh :: ws') (hlen : (lg_sl av).length ≤ nL)
    (body : ∀ p e s m args below meth c (A : Nat → Prop), Cx p s m args meth c cc nL wsy own D tys A ret → l.stackTraces = false → Xf0 s A → xfH s → c.exceptionTable.toList = tableOf hh → gw_G p l e rm s m args below meth c D A (CtMH D below r W1 A args s mc ms) nL 0 0 W0 (lv_args 0 av) 0 []) : CtH l D tys y wsy rm av W0 r W1 mc ms := by
  intro htr sz
  refine gw_metOf (vx_ofWH (cc := cc) (maxL := nL) (ret := ret) (hh := hh) hy hw ?_)
  subst hown
  intro p e s m args below meth c s₁ B hml hv
  obtain ⟨⟨⟨rfl, hsz, hP, hK, hD0⟩, hX⟩, hN⟩ := hv
  have hts := atoms_spec (ws := wsy) B.pre
  have hown : s.vm.findClass y.cls = some m.cls := findClass_of_methodNamed B.named
  have htab : c.exceptionTable.toList = tableOf hh := vx_table (x := y) B (hts (Cond.codeWith y cc nL ret hh) (by rw [hw]; exact List.mem_cons_self))
  subst hsz
  rw [lg_entry_eq]
  exact body p e s m av.toArray below meth c (va_A W0 s.heap.size) ⟨⟨B.exec, B.bytes, hml, hown, hts⟩, hK.1, fun q h => Or.inr h, B.notSynchronized, B.returns, hK.2⟩ htr hX hN htab s.heap [] _ hP (hD0.self (sz := s.heap.size)) va_S.rf (lv_entry av hlen)
section GH
variable {p : Program} {l : Launch} {e : Env} {R : Room} {s : State} {m : MethodId} {args : Array Value} {below : List Frame} {meth : Method} {c : Code} {D : va_G} {A : Nat → Prop} {Q : State → Prop} {nL cells slots : Nat} {ws : va_W} {lv lv' : List (Nat × Value)} {pc : Nat} {st : List Value}
variable {cc : ByteArray} {Ts : List Cond} {own : String} {tys : List (ClassId × FieldType)} {rt : Option FieldType}
theorem gw_iretH {v : Int32} (C : Cx p s m args meth c cc nL Ts own D tys A (some .int)) (d : decode cc pc = .ok (.ireturn, 1)) : gw_G p l e R s m args below meth c D A (CtMH D below (some (.int v)) ws A args s cells slots) nL cells slots ws lv pc [.int v] :=
  fun H locs ls hP hD hS hl => vx_ret (W.iret C.1.1 C.1.2.1 C.2.2.2.2.1 (fun t ht hW => ⟨⟨rfl, by rw [ht]; exact hP, hD⟩, hS.F ht⟩) hS.2.2 d C.2.2.2.1)
theorem gw_back (C : Cx p s m args meth c cc nL Ts own D tys A rt) {W0 W1 v ws' : va_W} {r : Option Value} {rest : List Value} (hr : Rn p l e R s m args below meth c D nL cells slots W0 r W1 lv pc st rest) (hw : v ++ W0 = ws) (hw' : v ++ W1 = ws') {st2 : List Value} (hs2 : r.toList ++ rest = st2) (k : gw_G p l e R s m args below meth c D A Q nL cells slots ws' lv (pc + 3) st2) : gw_G p l e R s m args below meth c D A Q nL cells slots ws lv pc st := by
  subst hw
  subst hw'
  exact gw_perm0 List.perm_append_comm (gw_front C hr rfl rfl hs2 (gw_perm0 List.perm_append_comm k))
theorem gw_catch (C : Cx p s m args meth c cc nL Ts own D tys A rt) (htr : l.stackTraces = false) (XF : Xf0 s A) {y : MethodName} {wsy : List Cond} {rm : Room} {b index maxL n : Nat} {As rest : List Value} {v W0 W1 : va_W} {E Cn : String} {ret} {bytes : ByteArray} {fs : List Value} {q : vw_C} (hM : CtT l D tys y wsy rm (.ref b :: As) W0 E W1) (cw : CallW R s args own Cn index y bytes maxL ret wsy rm 1 6 n) (q0 ci : Nat) (hb : W0[q0]? = some (b, .inr (ci, fs))) (hc : vwCl[ci]? = some q) (hq : q.1 = Cn) (hn : As.length = n) (hst : st = As.reverse ++ .ref b :: rest) (hrs : (rest.map fun v => v.category).sum ≤ 8) (d : decode cc pc = .ok (.invokevirtual index, 3)) (hcs : cells + 1 ≤ R.cells ∧ slots + 6 ≤ R.slots) (hw : v ++ W0 = ws)
    (pre : List ExceptionTableEntry) (x : ExceptionTableEntry) (suf : List ExceptionTableEntry) (hsplit : c.exceptionTable.toList = pre ++ x :: suf) (hpass : ∀ z ∈ pre, covers z pc = false ∨ (z.catchType ≠ 0 ∧ ∃ nm : String, (Cond.classLink own z.catchType nm).before args s = true ∧ va_Nc E nm s)) (hx : covers x pc = true) (h0 : x.catchType ≠ 0) (hlink : (Cond.classLink own x.catchType E).before args s = true) (hcast : Cond.castable E E ∈ xW)
    (k : ∀ q9 : Nat, gw_G p l e R s m args below meth c D A Q nL (cells + 1) (slots + 6) (v ++ W1) lv x.handlerPc [.ref q9]) : gw_G p l e R s m args below meth c D A Q nL cells slots ws lv pc st := by
  subst hw
  subst hq
  intro H locs ls hP hD hS hl T hT X
  obtain ⟨hd1, hd2⟩ := gw_Diff.mp hD
  have hP0 : va_P D vwCl W0 H := gw_Piff.mpr fun q hq => gw_Piff.mp hP q (List.mem_append_right _ hq)
  have hPv : va_P D vwCl v H := gw_Piff.mpr fun q hq => gw_Piff.mp hP q (List.mem_append_left _ hq)
  rw [List.map_append, List.nodup_append] at hd1
  have hD0 : va_D A W0 := gw_Diff.mpr ⟨hd1.2.1, fun q hq => hd2 q (List.mem_append_right _ hq)⟩
  have hDv : va_D A v := gw_Diff.mpr ⟨hd1.1, fun q hq => hd2 q (List.mem_append_left _ hq)⟩
  have hF : ∀ q, va_A W0 H.size q → A q := by
    rintro q (⟨k0, e0, h⟩ | h)
    · exact hD0.2 k0 (q, e0) h
    · exact C.2.2.1 q (Nat.le_trans hS.1 h)
  have hXF : ∀ U : State, U.heap = H → s.WarmedH U.vm → Xf0 U (va_A W0 H.size) := by
    intro U hU hW
    refine ⟨?_, ?_, fun q hq => ?_, fun w hw => xW_warm hW w hw (XF.2.2.2 w hw)⟩
    · rw [hU]; exact vx_Zq.moved hW.alike ((vx_Zq.kept XF.1 (fun a h1 h2 => hS.2.1 a h1 h2)).narrow hF)
    · rw [hU]; exact vx_Zq.moved hW.alike ((vx_Zq.kept XF.2.1 (fun a h1 h2 => hS.2.1 a h1 h2)).narrow hF)
    · obtain ⟨a, h⟩ := XF.2.2.1 q hq
      exact ⟨a, vk_R.warm hW h⟩
  have hrun := vx_runV (e := e) (below := below) (meth := meth) (As := As) (rest := rest) (g := F0 m pc ls st) (H := H) (locs := locs) (cells := cells) (slots := slots) C.1 (hM htr H.size) cw ⟨CtPX_blind _ _ _ _ _, va_recv C.2.1 hP0 hc hb, fun U hU hW => ⟨⟨rfl, by rw [hU], by rw [hU]; exact hP0, ⟨va_K.moved hW.alike C.2.1, nestW_warm hW C.2.2.2.2.2⟩, hD0.weaken (fun _ _ _ _ => trivial)⟩, hXF U hU hW⟩⟩ rfl hn hl.1 hst (lv_room hrs) d hcs
  rcases hrun T hT X with ⟨v9, st₀, t, T', L, h0', X', hL, e1, e2, hf, stp⟩ | ⟨q9, st₀, t, T', L, E', ce, h0', X', hL, e1, e2, ⟨hE, hP1, hD1, hz, hk⟩, hce, hcv, hcl, stp⟩
  · exact absurd hf id
  subst hE
  rw [h0'] at hz hk
  rw [← e1] at hz hk hP1 hce
  have apart : ∀ q ∈ v, q.1 < H.size ∧ ¬ va_A W0 H.size q.1 := by
    intro q hq
    obtain ⟨i, hi⟩ := List.getElem?_of_mem hq
    have hlt := (hPv i q hi).lt
    refine ⟨hlt, ?_⟩
    rintro (⟨k0, e0, h⟩ | h)
    · exact hd1.2.2 q.1 (List.mem_map.mpr ⟨q, hq, rfl⟩) q.1 (List.mem_map.mpr ⟨_, List.mem_of_getElem? h, rfl⟩) rfl
    · omega
  have hPn : va_P D vwCl (v ++ W1) T'.heap := by
    refine va_P.app (gw_Piff.mpr fun q hq => ?_) hP1
    exact (gw_Piff.mp hPv q hq).kept (hk q.1 (apart q hq).1 (apart q hq).2)
  have hDn : va_D A (v ++ W1) := by
    refine va_D.app hDv (hD1.weaken (fun k0 q _ h => hF q.1 h)) (fun i j x y hx hy hxy => ?_)
    exact (apart x (List.mem_of_getElem? hx)).2 (by rw [hxy]; exact hD1.2 j y hy)
  have hSn : va_S A s.heap T'.heap (locs ++ L) := ⟨Nat.le_trans hS.1 hz, fun q h1 h2 => by
    rw [hk q (Nat.lt_of_lt_of_le h1 hS.1) (fun z => h2 (hF q z))]
    exact hS.2.1 q h1 h2, fun q hq => by
      rcases List.mem_append.mp hq with h | h
      · exact hS.2.2 q h
      · exact hF _ (hL q h)⟩
  have hk9 := vx_catch (e := e) (below := below) (meth := meth) (R := R) (l := l) (p := p) (H := T'.heap) (locs := locs ++ L) (cells := cells + 1) (slots := slots + 6) (Q := Q) (ls := ls) (rest := rest) (pc := pc) C.1.2.2.2.1 pre x suf hsplit hpass hx h0 hlink (va_Nw.use (xW_ot _ hcast) (XF.2.2.2 _ hcast)) hce hcv hcl (k q9 T'.heap (locs ++ L) ls hPn hDn hSn hl)
  obtain ⟨t2, a1, b1⟩ := hk9 T' rfl X'
  exact ⟨t2, stp.trans a1, b1⟩
end GH
theorem xW_c3 : Cond.castable (gw_xn 3) (gw_xn 3) ∈ xW := by decide +kernel
theorem xW_c2 : Cond.castable (gw_xn 2) (gw_xn 2) ∈ xW := by decide +kernel
theorem xW_c1 : Cond.castable (gw_xn 1) (gw_xn 1) ∈ xW := by decide +kernel
set_option maxHeartbeats 4000000 in
set_option maxRecDepth 100000 in
theorem c_L_append (l : Launch) (D : va_G) (cI cJ cO : ClassId) (aP : Nat) (bT bR : Nat → Nat) (aS ao : Nat) (g : Nat → Int64) (t : QS) (p1 : Int32) {o : Int32 × QS} (h : fP_append p1 t = some (.inr o)) : CtH l D (tysA cI cJ cO) yL_append wsL_append (rmOf 2 44) [.ref aP, .int p1, .ref ao] ([(ao, .inl (cJ, 1, .inr (.inl g)))] ++ wQ cI cJ aP bT bR aS t) (some (.int (nI 0))) ([(ao, .inl (cJ, 1, .inr (.inl (vp_updL g 0 (o.1.toInt64)))))] ++ wQ cI cJ aP bT bR aS o.2) 0 0 := by
  refine CtH_of (own := RL) cL_append 4 (some .int) [(0, 9, 12, 13), (0, 9, 15, 15)] (by decide +kernel) rfl rfl (Nat.le_of_ble_eq_true rfl) ?_
  intro p e s m args below meth c A C htr XF XH htab
  have w_x := cwV (R := (rmOf 2 44)) (rm := rmOf 1 23) (s := s) (args := args) 1 C.1.2.2.2.2 gL_append_X3_append rfl rfl rfl hd_X3_append ⟨(Nat.le_of_ble_eq_true rfl), (Nat.le_of_ble_eq_true rfl)⟩
  show gw_G p l e (rmOf 2 44) s m args below meth c D A (CtMH D below (some (.int (nI 0))) ([(ao, .inl (cJ, 1, .inr (.inl (vp_updL g 0 (o.1.toInt64)))))] ++ wQ cI cJ aP bT bR aS o.2) A args s 0 0) 4 0 0 ([(ao, .inl (cJ, 1, .inr (.inl g)))] ++ wQ cI cJ aP bT bR aS t) [(0, .ref aP), (1, .int p1), (2, .ref ao)] 0 []
  refine gw_aload_n C dL_append_0 2 rfl ?_
  refine gw_iconst (v := nI 0) C dL_append_1 rfl ?_
  refine gw_aload_n C dL_append_2 0 rfl ?_
  refine gw_iload_n C dL_append_3 1 rfl ?_
  refine gw_back (st2 := [.int o.1, .int (nI 0), .ref ao]) (v := [(ao, .inl (cJ, 1, .inr (.inl g)))]) (ws' := ([(ao, .inl (cJ, 1, .inr (.inl g)))] ++ wQ cI cJ aP bT bR aS o.2)) C (run_V (rest := [.int (nI 0), .ref ao]) C (c_X3_append l D cI cJ cO aP bT bR aS t p1 h) w_x 0 2 rfl rfl rfl rfl rfl (Nat.le_of_ble_eq_true rfl) dL_append_4 ⟨Nat.zero_le _, Nat.zero_le _⟩) rfl rfl rfl ?_
  refine gw_i2l C dL_append_7 ?_
  refine gw_last (ws' := ([(ao, .inl (cJ, 1, .inr (.inl (vp_updL g 0 (o.1.toInt64)))))] ++ wQ cI cJ aP bT bR aS o.2)) C dL_append_8 0 1 rfl rfl (nI_in (by decide) (by decide)) (by rw [nI_clamp (by decide)]; rfl) ?_
  refine gw_goto (tgt := 18) C dL_append_9 (by decide) ?_
  refine gw_iconst (v := nI 0) C dL_append_18 rfl ?_
  exact gw_iretH C dL_append_19
set_option maxHeartbeats 4000000 in
set_option maxRecDepth 100000 in
theorem c_L_append_T1 (l : Launch) (D : va_G) (cI cJ cO : ClassId) (aP : Nat) (bT bR : Nat → Nat) (aS ao : Nat) (g : Nat → Int64) (t : QS) (p1 : Int32) {t' : QS} (h : fP_append p1 t = some (.inl (1, t'))) : CtH l D (tysA cI cJ cO) yL_append wsL_append ({ frames := 7, cells := 1, slots := 6, locals := 116 } : Room) [.ref aP, .int p1, .ref ao] ([(ao, .inl (cJ, 1, .inr (.inl g)))] ++ wQ cI cJ aP bT bR aS t) (some (.int (nI 1))) ([(ao, .inl (cJ, 1, .inr (.inl g)))] ++ wQ cI cJ aP bT bR aS t') 1 6 := by
  refine CtH_of (own := RL) cL_append 4 (some .int) [(0, 9, 12, 13), (0, 9, 15, 15)] (by decide +kernel) rfl rfl (Nat.le_of_ble_eq_true rfl) ?_
  intro p e s m args below meth c A C htr XF XH htab
  have w_x := cwV (R := ({ frames := 7, cells := 1, slots := 6, locals := 116 } : Room)) (rm := rmOfX 6 95) (s := s) (args := args) 1 C.1.2.2.2.2 gL_append_X3_append rfl rfl rfl hd_X3_append ⟨(Nat.le_of_ble_eq_true rfl), (Nat.le_of_ble_eq_true rfl)⟩
  show gw_G p l e ({ frames := 7, cells := 1, slots := 6, locals := 116 } : Room) s m args below meth c D A (CtMH D below (some (.int (nI 1))) ([(ao, .inl (cJ, 1, .inr (.inl g)))] ++ wQ cI cJ aP bT bR aS t') A args s 1 6) 4 0 0 ([(ao, .inl (cJ, 1, .inr (.inl g)))] ++ wQ cI cJ aP bT bR aS t) [(0, .ref aP), (1, .int p1), (2, .ref ao)] 0 []
  refine gw_aload_n C dL_append_0 2 rfl ?_
  refine gw_iconst (v := nI 0) C dL_append_1 rfl ?_
  refine gw_aload_n C dL_append_2 0 rfl ?_
  refine gw_iload_n C dL_append_3 1 rfl ?_
  refine gw_catch (E := gw_xn 1) (rest := [.int (nI 0), .ref ao]) (v := [(ao, .inl (cJ, 1, .inr (.inl g)))]) C htr XF (c_X3_append_T l D cI cJ cO aP bT bR aS t p1 h) w_x 0 2 rfl rfl rfl rfl rfl (Nat.le_of_ble_eq_true rfl) dL_append_4 ⟨(Nat.le_of_ble_eq_true rfl), (Nat.le_of_ble_eq_true rfl)⟩ rfl [] ⟨0, 9, 12, 13⟩ [⟨0, 9, 15, 15⟩] htab (fun z hz => absurd hz List.not_mem_nil) (by decide) (by decide) (C.1.2.2.2.2 (Cond.classLink RL 13 (gw_xn 1)) (List.mem_of_getElem? (i := 1) rfl)) xW_c1 (fun q9 => ?_)
  refine gw_astore_n C dL_append_12 [(3, .ref q9), (0, .ref aP), (1, .int p1), (2, .ref ao)] rfl (by decide) rfl ?_
  refine gw_iconst (v := nI 1) C dL_append_13 rfl ?_
  exact gw_iretH C dL_append_14
set_option maxHeartbeats 4000000 in
set_option maxRecDepth 100000 in
theorem c_L_append_T2 (l : Launch) (D : va_G) (cI cJ cO : ClassId) (aP : Nat) (bT bR : Nat → Nat) (aS ao : Nat) (g : Nat → Int64) (t : QS) (p1 : Int32) {t' : QS} (h : fP_append p1 t = some (.inl (2, t'))) : CtH l D (tysA cI cJ cO) yL_append wsL_append ({ frames := 7, cells := 1, slots := 6, locals := 116 } : Room) [.ref aP, .int p1, .ref ao] ([(ao, .inl (cJ, 1, .inr (.inl g)))] ++ wQ cI cJ aP bT bR aS t) (some (.int (nI 2))) ([(ao, .inl (cJ, 1, .inr (.inl g)))] ++ wQ cI cJ aP bT bR aS t') 1 6 := by
  refine CtH_of (own := RL) cL_append 4 (some .int) [(0, 9, 12, 13), (0, 9, 15, 15)] (by decide +kernel) rfl rfl (Nat.le_of_ble_eq_true rfl) ?_
  intro p e s m args below meth c A C htr XF XH htab
  have w_x := cwV (R := ({ frames := 7, cells := 1, slots := 6, locals := 116 } : Room)) (rm := rmOfX 6 95) (s := s) (args := args) 1 C.1.2.2.2.2 gL_append_X3_append rfl rfl rfl hd_X3_append ⟨(Nat.le_of_ble_eq_true rfl), (Nat.le_of_ble_eq_true rfl)⟩
  show gw_G p l e ({ frames := 7, cells := 1, slots := 6, locals := 116 } : Room) s m args below meth c D A (CtMH D below (some (.int (nI 2))) ([(ao, .inl (cJ, 1, .inr (.inl g)))] ++ wQ cI cJ aP bT bR aS t') A args s 1 6) 4 0 0 ([(ao, .inl (cJ, 1, .inr (.inl g)))] ++ wQ cI cJ aP bT bR aS t) [(0, .ref aP), (1, .int p1), (2, .ref ao)] 0 []
  refine gw_aload_n C dL_append_0 2 rfl ?_
  refine gw_iconst (v := nI 0) C dL_append_1 rfl ?_
  refine gw_aload_n C dL_append_2 0 rfl ?_
  refine gw_iload_n C dL_append_3 1 rfl ?_
  refine gw_catch (E := gw_xn 2) (rest := [.int (nI 0), .ref ao]) (v := [(ao, .inl (cJ, 1, .inr (.inl g)))]) C htr XF (c_X3_append_T l D cI cJ cO aP bT bR aS t p1 h) w_x 0 2 rfl rfl rfl rfl rfl (Nat.le_of_ble_eq_true rfl) dL_append_4 ⟨(Nat.le_of_ble_eq_true rfl), (Nat.le_of_ble_eq_true rfl)⟩ rfl [⟨0, 9, 12, 13⟩] ⟨0, 9, 15, 15⟩ [] htab (fun z hz => by rw [List.mem_singleton.mp hz]; exact Or.inr ⟨by decide, gw_xn 1, C.1.2.2.2.2 _ (List.mem_of_getElem? (i := 1) rfl), XH.1⟩) (by decide) (by decide) (C.1.2.2.2.2 (Cond.classLink RL 15 (gw_xn 2)) (List.mem_of_getElem? (i := 2) rfl)) xW_c2 (fun q9 => ?_)
  refine gw_astore_n C dL_append_15 [(3, .ref q9), (0, .ref aP), (1, .int p1), (2, .ref ao)] rfl (by decide) rfl ?_
  refine gw_iconst (v := nI 2) C dL_append_16 rfl ?_
  exact gw_iretH C dL_append_17
set_option maxHeartbeats 4000000 in
set_option maxRecDepth 100000 in
theorem c_L_drop (l : Launch) (D : va_G) (cI cJ cO : ClassId) (aP : Nat) (bT bR : Nat → Nat) (aS ao : Nat) (g : Nat → Int64) (t : QS) {o : Int32 × QS} (h : fP_drop t = some (.inr o)) : CtH l D (tysA cI cJ cO) yL_drop wsL_drop (rmOf 3 64) [.ref aP, .ref ao] ([(ao, .inl (cJ, 1, .inr (.inl g)))] ++ wQ cI cJ aP bT bR aS t) (some (.int (nI 0))) ([(ao, .inl (cJ, 1, .inr (.inl (vp_updL g 0 (o.1.toInt64)))))] ++ wQ cI cJ aP bT bR aS o.2) 0 0 := by
  refine CtH_of (own := RL) cL_drop 3 (some .int) [(0, 8, 11, 15)] (by decide +kernel) rfl rfl (Nat.le_of_ble_eq_true rfl) ?_
  intro p e s m args below meth c A C htr XF XH htab
  have w_x := cwV (R := (rmOf 3 64)) (rm := rmOf 2 43) (s := s) (args := args) 0 C.1.2.2.2.2 gL_drop_X3_drop rfl rfl rfl hd_X3_drop ⟨(Nat.le_of_ble_eq_true rfl), (Nat.le_of_ble_eq_true rfl)⟩
  show gw_G p l e (rmOf 3 64) s m args below meth c D A (CtMH D below (some (.int (nI 0))) ([(ao, .inl (cJ, 1, .inr (.inl (vp_updL g 0 (o.1.toInt64)))))] ++ wQ cI cJ aP bT bR aS o.2) A args s 0 0) 3 0 0 ([(ao, .inl (cJ, 1, .inr (.inl g)))] ++ wQ cI cJ aP bT bR aS t) [(0, .ref aP), (1, .ref ao)] 0 []
  refine gw_aload_n C dL_drop_0 1 rfl ?_
  refine gw_iconst (v := nI 0) C dL_drop_1 rfl ?_
  refine gw_aload_n C dL_drop_2 0 rfl ?_
  refine gw_back (st2 := [.int o.1, .int (nI 0), .ref ao]) (v := [(ao, .inl (cJ, 1, .inr (.inl g)))]) (ws' := ([(ao, .inl (cJ, 1, .inr (.inl g)))] ++ wQ cI cJ aP bT bR aS o.2)) C (run_V (rest := [.int (nI 0), .ref ao]) C (c_X3_drop l D cI cJ cO aP bT bR aS t h) w_x 0 2 rfl rfl rfl rfl rfl (Nat.le_of_ble_eq_true rfl) dL_drop_3 ⟨Nat.zero_le _, Nat.zero_le _⟩) rfl rfl rfl ?_
  refine gw_i2l C dL_drop_6 ?_
  refine gw_last (ws' := ([(ao, .inl (cJ, 1, .inr (.inl (vp_updL g 0 (o.1.toInt64)))))] ++ wQ cI cJ aP bT bR aS o.2)) C dL_drop_7 0 1 rfl rfl (nI_in (by decide) (by decide)) (by rw [nI_clamp (by decide)]; rfl) ?_
  refine gw_goto (tgt := 14) C dL_drop_8 (by decide) ?_
  refine gw_iconst (v := nI 0) C dL_drop_14 rfl ?_
  exact gw_iretH C dL_drop_15
set_option maxHeartbeats 4000000 in
set_option maxRecDepth 100000 in
theorem c_L_drop_T1 (l : Launch) (D : va_G) (cI cJ cO : ClassId) (aP : Nat) (bT bR : Nat → Nat) (aS ao : Nat) (g : Nat → Int64) (t : QS) {t' : QS} (h : fP_drop t = some (.inl (2, t'))) : CtH l D (tysA cI cJ cO) yL_drop wsL_drop ({ frames := 7, cells := 1, slots := 6, locals := 116 } : Room) [.ref aP, .ref ao] ([(ao, .inl (cJ, 1, .inr (.inl g)))] ++ wQ cI cJ aP bT bR aS t) (some (.int (nI 1))) ([(ao, .inl (cJ, 1, .inr (.inl g)))] ++ wQ cI cJ aP bT bR aS t') 1 6 := by
  refine CtH_of (own := RL) cL_drop 3 (some .int) [(0, 8, 11, 15)] (by decide +kernel) rfl rfl (Nat.le_of_ble_eq_true rfl) ?_
  intro p e s m args below meth c A C htr XF XH htab
  have w_x := cwV (R := ({ frames := 7, cells := 1, slots := 6, locals := 116 } : Room)) (rm := rmOfX 6 95) (s := s) (args := args) 0 C.1.2.2.2.2 gL_drop_X3_drop rfl rfl rfl hd_X3_drop ⟨(Nat.le_of_ble_eq_true rfl), (Nat.le_of_ble_eq_true rfl)⟩
  show gw_G p l e ({ frames := 7, cells := 1, slots := 6, locals := 116 } : Room) s m args below meth c D A (CtMH D below (some (.int (nI 1))) ([(ao, .inl (cJ, 1, .inr (.inl g)))] ++ wQ cI cJ aP bT bR aS t') A args s 1 6) 3 0 0 ([(ao, .inl (cJ, 1, .inr (.inl g)))] ++ wQ cI cJ aP bT bR aS t) [(0, .ref aP), (1, .ref ao)] 0 []
  refine gw_aload_n C dL_drop_0 1 rfl ?_
  refine gw_iconst (v := nI 0) C dL_drop_1 rfl ?_
  refine gw_aload_n C dL_drop_2 0 rfl ?_
  refine gw_catch (E := gw_xn 2) (rest := [.int (nI 0), .ref ao]) (v := [(ao, .inl (cJ, 1, .inr (.inl g)))]) C htr XF (c_X3_drop_T l D cI cJ cO aP bT bR aS t h) w_x 0 2 rfl rfl rfl rfl rfl (Nat.le_of_ble_eq_true rfl) dL_drop_3 ⟨(Nat.le_of_ble_eq_true rfl), (Nat.le_of_ble_eq_true rfl)⟩ rfl [] ⟨0, 8, 11, 15⟩ [] htab (fun z hz => absurd hz List.not_mem_nil) (by decide) (by decide) (C.1.2.2.2.2 (Cond.classLink RL 15 (gw_xn 2)) (List.mem_of_getElem? (i := 1) rfl)) xW_c2 (fun q9 => ?_)
  refine gw_astore_n C dL_drop_11 [(2, .ref q9), (0, .ref aP), (1, .ref ao)] rfl (by decide) rfl ?_
  refine gw_iconst (v := nI 1) C dL_drop_12 rfl ?_
  exact gw_iretH C dL_drop_13
set_option maxHeartbeats 4000000 in
set_option maxRecDepth 100000 in
theorem c_L_cell (l : Launch) (D : va_G) (cI cJ cO : ClassId) (aP : Nat) (bT bR : Nat → Nat) (aS ao : Nat) (g : Nat → Int64) (t : QS) (p1 : Int32) (p2 : Int32) {o : Int32} (h : fP_cell p1 p2 t = some (.inr o)) : CtH l D (tysA cI cJ cO) yL_cell wsL_cell (rmOf 4 86) [.ref aP, .int p1, .int p2, .ref ao] ([(ao, .inl (cJ, 1, .inr (.inl g)))] ++ wQ cI cJ aP bT bR aS t) (some (.int (nI 0))) ([(ao, .inl (cJ, 1, .inr (.inl (vp_updL g 0 (o.toInt64)))))] ++ wQ cI cJ aP bT bR aS t) 0 0 := by
  refine CtH_of (own := RL) cL_cell 5 (some .int) [(0, 10, 13, 37), (0, 10, 17, 13)] (by decide +kernel) rfl rfl (Nat.le_of_ble_eq_true rfl) ?_
  intro p e s m args below meth c A C htr XF XH htab
  have w_x := cwV (R := (rmOf 4 86)) (rm := rmOf 3 64) (s := s) (args := args) 2 C.1.2.2.2.2 gL_cell_X3_cell rfl rfl rfl hd_X3_cell ⟨(Nat.le_of_ble_eq_true rfl), (Nat.le_of_ble_eq_true rfl)⟩
  show gw_G p l e (rmOf 4 86) s m args below meth c D A (CtMH D below (some (.int (nI 0))) ([(ao, .inl (cJ, 1, .inr (.inl (vp_updL g 0 (o.toInt64)))))] ++ wQ cI cJ aP bT bR aS t) A args s 0 0) 5 0 0 ([(ao, .inl (cJ, 1, .inr (.inl g)))] ++ wQ cI cJ aP bT bR aS t) [(0, .ref aP), (1, .int p1), (2, .int p2), (3, .ref ao)] 0 []
  refine gw_aload_n C dL_cell_0 3 rfl ?_
  refine gw_iconst (v := nI 0) C dL_cell_1 rfl ?_
  refine gw_aload_n C dL_cell_2 0 rfl ?_
  refine gw_iload_n C dL_cell_3 1 rfl ?_
  refine gw_iload_n C dL_cell_4 2 rfl ?_
  refine gw_back (st2 := [.int o, .int (nI 0), .ref ao]) (v := [(ao, .inl (cJ, 1, .inr (.inl g)))]) (ws' := ([(ao, .inl (cJ, 1, .inr (.inl g)))] ++ wQ cI cJ aP bT bR aS t)) C (run_V (rest := [.int (nI 0), .ref ao]) C (c_X3_cell l D cI cJ cO aP bT bR aS t p1 p2 h) w_x 0 2 rfl rfl rfl rfl rfl (Nat.le_of_ble_eq_true rfl) dL_cell_5 ⟨Nat.zero_le _, Nat.zero_le _⟩) rfl rfl rfl ?_
  refine gw_i2l C dL_cell_8 ?_
  refine gw_last (ws' := ([(ao, .inl (cJ, 1, .inr (.inl (vp_updL g 0 (o.toInt64)))))] ++ wQ cI cJ aP bT bR aS t)) C dL_cell_9 0 1 rfl rfl (nI_in (by decide) (by decide)) (by rw [nI_clamp (by decide)]; rfl) ?_
  refine gw_goto (tgt := 21) C dL_cell_10 (by decide) ?_
  refine gw_iconst (v := nI 0) C dL_cell_21 rfl ?_
  exact gw_iretH C dL_cell_22
set_option maxHeartbeats 4000000 in
set_option maxRecDepth 100000 in
theorem c_L_cell_T1 (l : Launch) (D : va_G) (cI cJ cO : ClassId) (aP : Nat) (bT bR : Nat → Nat) (aS ao : Nat) (g : Nat → Int64) (t : QS) (p1 : Int32) (p2 : Int32) (h : fP_cell p1 p2 t = some (.inl 3)) : CtH l D (tysA cI cJ cO) yL_cell wsL_cell ({ frames := 7, cells := 1, slots := 6, locals := 117 } : Room) [.ref aP, .int p1, .int p2, .ref ao] ([(ao, .inl (cJ, 1, .inr (.inl g)))] ++ wQ cI cJ aP bT bR aS t) (some (.int (nI 1))) ([(ao, .inl (cJ, 1, .inr (.inl g)))] ++ wQ cI cJ aP bT bR aS t) 1 6 := by
  refine CtH_of (own := RL) cL_cell 5 (some .int) [(0, 10, 13, 37), (0, 10, 17, 13)] (by decide +kernel) rfl rfl (Nat.le_of_ble_eq_true rfl) ?_
  intro p e s m args below meth c A C htr XF XH htab
  have w_x := cwV (R := ({ frames := 7, cells := 1, slots := 6, locals := 117 } : Room)) (rm := rmOfX 6 95) (s := s) (args := args) 2 C.1.2.2.2.2 gL_cell_X3_cell rfl rfl rfl hd_X3_cell ⟨(Nat.le_of_ble_eq_true rfl), (Nat.le_of_ble_eq_true rfl)⟩
  show gw_G p l e ({ frames := 7, cells := 1, slots := 6, locals := 117 } : Room) s m args below meth c D A (CtMH D below (some (.int (nI 1))) ([(ao, .inl (cJ, 1, .inr (.inl g)))] ++ wQ cI cJ aP bT bR aS t) A args s 1 6) 5 0 0 ([(ao, .inl (cJ, 1, .inr (.inl g)))] ++ wQ cI cJ aP bT bR aS t) [(0, .ref aP), (1, .int p1), (2, .int p2), (3, .ref ao)] 0 []
  refine gw_aload_n C dL_cell_0 3 rfl ?_
  refine gw_iconst (v := nI 0) C dL_cell_1 rfl ?_
  refine gw_aload_n C dL_cell_2 0 rfl ?_
  refine gw_iload_n C dL_cell_3 1 rfl ?_
  refine gw_iload_n C dL_cell_4 2 rfl ?_
  refine gw_catch (E := gw_xn 3) (rest := [.int (nI 0), .ref ao]) (v := [(ao, .inl (cJ, 1, .inr (.inl g)))]) C htr XF (c_X3_cell_T l D cI cJ cO aP bT bR aS t p1 p2 h) w_x 0 2 rfl rfl rfl rfl rfl (Nat.le_of_ble_eq_true rfl) dL_cell_5 ⟨(Nat.le_of_ble_eq_true rfl), (Nat.le_of_ble_eq_true rfl)⟩ rfl [] ⟨0, 10, 13, 37⟩ [⟨0, 10, 17, 13⟩] htab (fun z hz => absurd hz List.not_mem_nil) (by decide) (by decide) (C.1.2.2.2.2 (Cond.classLink RL 37 (gw_xn 3)) (List.mem_of_getElem? (i := 1) rfl)) xW_c3 (fun q9 => ?_)
  refine gw_astore C dL_cell_13 [(4, .ref q9), (0, .ref aP), (1, .int p1), (2, .int p2), (3, .ref ao)] (by decide) rfl ?_
  refine gw_iconst (v := nI 1) C dL_cell_15 rfl ?_
  exact gw_iretH C dL_cell_16
set_option maxHeartbeats 4000000 in
set_option maxRecDepth 100000 in
theorem c_L_cell_T2 (l : Launch) (D : va_G) (cI cJ cO : ClassId) (aP : Nat) (bT bR : Nat → Nat) (aS ao : Nat) (g : Nat → Int64) (t : QS) (p1 : Int32) (p2 : Int32) (h : fP_cell p1 p2 t = some (.inl 1)) : CtH l D (tysA cI cJ cO) yL_cell wsL_cell ({ frames := 7, cells := 1, slots := 6, locals := 117 } : Room) [.ref aP, .int p1, .int p2, .ref ao] ([(ao, .inl (cJ, 1, .inr (.inl g)))] ++ wQ cI cJ aP bT bR aS t) (some (.int (nI 2))) ([(ao, .inl (cJ, 1, .inr (.inl g)))] ++ wQ cI cJ aP bT bR aS t) 1 6 := by
  refine CtH_of (own := RL) cL_cell 5 (some .int) [(0, 10, 13, 37), (0, 10, 17, 13)] (by decide +kernel) rfl rfl (Nat.le_of_ble_eq_true rfl) ?_
  intro p e s m args below meth c A C htr XF XH htab
  have w_x := cwV (R := ({ frames := 7, cells := 1, slots := 6, locals := 117 } : Room)) (rm := rmOfX 6 95) (s := s) (args := args) 2 C.1.2.2.2.2 gL_cell_X3_cell rfl rfl rfl hd_X3_cell ⟨(Nat.le_of_ble_eq_true rfl), (Nat.le_of_ble_eq_true rfl)⟩
  show gw_G p l e ({ frames := 7, cells := 1, slots := 6, locals := 117 } : Room) s m args below meth c D A (CtMH D below (some (.int (nI 2))) ([(ao, .inl (cJ, 1, .inr (.inl g)))] ++ wQ cI cJ aP bT bR aS t) A args s 1 6) 5 0 0 ([(ao, .inl (cJ, 1, .inr (.inl g)))] ++ wQ cI cJ aP bT bR aS t) [(0, .ref aP), (1, .int p1), (2, .int p2), (3, .ref ao)] 0 []
  refine gw_aload_n C dL_cell_0 3 rfl ?_
  refine gw_iconst (v := nI 0) C dL_cell_1 rfl ?_
  refine gw_aload_n C dL_cell_2 0 rfl ?_
  refine gw_iload_n C dL_cell_3 1 rfl ?_
  refine gw_iload_n C dL_cell_4 2 rfl ?_
  refine gw_catch (E := gw_xn 1) (rest := [.int (nI 0), .ref ao]) (v := [(ao, .inl (cJ, 1, .inr (.inl g)))]) C htr XF (c_X3_cell_T l D cI cJ cO aP bT bR aS t p1 p2 h) w_x 0 2 rfl rfl rfl rfl rfl (Nat.le_of_ble_eq_true rfl) dL_cell_5 ⟨(Nat.le_of_ble_eq_true rfl), (Nat.le_of_ble_eq_true rfl)⟩ rfl [⟨0, 10, 13, 37⟩] ⟨0, 10, 17, 13⟩ [] htab (fun z hz => by rw [List.mem_singleton.mp hz]; exact Or.inr ⟨by decide, gw_xn 3, C.1.2.2.2.2 _ (List.mem_of_getElem? (i := 1) rfl), XH.2⟩) (by decide) (by decide) (C.1.2.2.2.2 (Cond.classLink RL 13 (gw_xn 1)) (List.mem_of_getElem? (i := 2) rfl)) xW_c1 (fun q9 => ?_)
  refine gw_astore C dL_cell_17 [(4, .ref q9), (0, .ref aP), (1, .int p1), (2, .int p2), (3, .ref ao)] (by decide) rfl ?_
  refine gw_iconst (v := nI 2) C dL_cell_19 rfl ?_
  exact gw_iretH C dL_cell_20
set_option maxHeartbeats 4000000 in
set_option maxRecDepth 100000 in
theorem c_L_end (l : Launch) (D : va_G) (cI cJ cO : ClassId) (aP : Nat) (bT bR : Nat → Nat) (aS ao : Nat) (g : Nat → Int64) (t : QS) (p1 : Int32) (p2 : Int32) {o : Int32} (h : fP_end p1 p2 t = some (.inr o)) : CtH l D (tysA cI cJ cO) yL_end wsL_end (rmOf 4 89) [.ref aP, .int p1, .int p2, .ref ao] ([(ao, .inl (cJ, 1, .inr (.inl g)))] ++ wQ cI cJ aP bT bR aS t) (some (.int (nI 0))) ([(ao, .inl (cJ, 1, .inr (.inl (vp_updL g 0 (o.toInt64)))))] ++ wQ cI cJ aP bT bR aS t) 0 0 := by
  refine CtH_of (own := RL) cL_end 5 (some .int) [(0, 10, 13, 37), (0, 10, 17, 13)] (by decide +kernel) rfl rfl (Nat.le_of_ble_eq_true rfl) ?_
  intro p e s m args below meth c A C htr XF XH htab
  have w_x := cwV (R := (rmOf 4 89)) (rm := rmOf 3 66) (s := s) (args := args) 2 C.1.2.2.2.2 gL_end_X3_end rfl rfl rfl hd_X3_end ⟨(Nat.le_of_ble_eq_true rfl), (Nat.le_of_ble_eq_true rfl)⟩
  show gw_G p l e (rmOf 4 89) s m args below meth c D A (CtMH D below (some (.int (nI 0))) ([(ao, .inl (cJ, 1, .inr (.inl (vp_updL g 0 (o.toInt64)))))] ++ wQ cI cJ aP bT bR aS t) A args s 0 0) 5 0 0 ([(ao, .inl (cJ, 1, .inr (.inl g)))] ++ wQ cI cJ aP bT bR aS t) [(0, .ref aP), (1, .int p1), (2, .int p2), (3, .ref ao)] 0 []
  refine gw_aload_n C dL_end_0 3 rfl ?_
  refine gw_iconst (v := nI 0) C dL_end_1 rfl ?_
  refine gw_aload_n C dL_end_2 0 rfl ?_
  refine gw_iload_n C dL_end_3 1 rfl ?_
  refine gw_iload_n C dL_end_4 2 rfl ?_
  refine gw_back (st2 := [.int o, .int (nI 0), .ref ao]) (v := [(ao, .inl (cJ, 1, .inr (.inl g)))]) (ws' := ([(ao, .inl (cJ, 1, .inr (.inl g)))] ++ wQ cI cJ aP bT bR aS t)) C (run_V (rest := [.int (nI 0), .ref ao]) C (c_X3_end l D cI cJ cO aP bT bR aS t p1 p2 h) w_x 0 2 rfl rfl rfl rfl rfl (Nat.le_of_ble_eq_true rfl) dL_end_5 ⟨Nat.zero_le _, Nat.zero_le _⟩) rfl rfl rfl ?_
  refine gw_i2l C dL_end_8 ?_
  refine gw_last (ws' := ([(ao, .inl (cJ, 1, .inr (.inl (vp_updL g 0 (o.toInt64)))))] ++ wQ cI cJ aP bT bR aS t)) C dL_end_9 0 1 rfl rfl (nI_in (by decide) (by decide)) (by rw [nI_clamp (by decide)]; rfl) ?_
  refine gw_goto (tgt := 21) C dL_end_10 (by decide) ?_
  refine gw_iconst (v := nI 0) C dL_end_21 rfl ?_
  exact gw_iretH C dL_end_22
set_option maxHeartbeats 4000000 in
set_option maxRecDepth 100000 in
theorem c_L_end_T1 (l : Launch) (D : va_G) (cI cJ cO : ClassId) (aP : Nat) (bT bR : Nat → Nat) (aS ao : Nat) (g : Nat → Int64) (t : QS) (p1 : Int32) (p2 : Int32) (h : fP_end p1 p2 t = some (.inl 3)) : CtH l D (tysA cI cJ cO) yL_end wsL_end ({ frames := 7, cells := 1, slots := 6, locals := 118 } : Room) [.ref aP, .int p1, .int p2, .ref ao] ([(ao, .inl (cJ, 1, .inr (.inl g)))] ++ wQ cI cJ aP bT bR aS t) (some (.int (nI 1))) ([(ao, .inl (cJ, 1, .inr (.inl g)))] ++ wQ cI cJ aP bT bR aS t) 1 6 := by
  refine CtH_of (own := RL) cL_end 5 (some .int) [(0, 10, 13, 37), (0, 10, 17, 13)] (by decide +kernel) rfl rfl (Nat.le_of_ble_eq_true rfl) ?_
  intro p e s m args below meth c A C htr XF XH htab
  have w_x := cwV (R := ({ frames := 7, cells := 1, slots := 6, locals := 118 } : Room)) (rm := rmOfX 6 95) (s := s) (args := args) 2 C.1.2.2.2.2 gL_end_X3_end rfl rfl rfl hd_X3_end ⟨(Nat.le_of_ble_eq_true rfl), (Nat.le_of_ble_eq_true rfl)⟩
  show gw_G p l e ({ frames := 7, cells := 1, slots := 6, locals := 118 } : Room) s m args below meth c D A (CtMH D below (some (.int (nI 1))) ([(ao, .inl (cJ, 1, .inr (.inl g)))] ++ wQ cI cJ aP bT bR aS t) A args s 1 6) 5 0 0 ([(ao, .inl (cJ, 1, .inr (.inl g)))] ++ wQ cI cJ aP bT bR aS t) [(0, .ref aP), (1, .int p1), (2, .int p2), (3, .ref ao)] 0 []
  refine gw_aload_n C dL_end_0 3 rfl ?_
  refine gw_iconst (v := nI 0) C dL_end_1 rfl ?_
  refine gw_aload_n C dL_end_2 0 rfl ?_
  refine gw_iload_n C dL_end_3 1 rfl ?_
  refine gw_iload_n C dL_end_4 2 rfl ?_
  refine gw_catch (E := gw_xn 3) (rest := [.int (nI 0), .ref ao]) (v := [(ao, .inl (cJ, 1, .inr (.inl g)))]) C htr XF (c_X3_end_T l D cI cJ cO aP bT bR aS t p1 p2 h) w_x 0 2 rfl rfl rfl rfl rfl (Nat.le_of_ble_eq_true rfl) dL_end_5 ⟨(Nat.le_of_ble_eq_true rfl), (Nat.le_of_ble_eq_true rfl)⟩ rfl [] ⟨0, 10, 13, 37⟩ [⟨0, 10, 17, 13⟩] htab (fun z hz => absurd hz List.not_mem_nil) (by decide) (by decide) (C.1.2.2.2.2 (Cond.classLink RL 37 (gw_xn 3)) (List.mem_of_getElem? (i := 1) rfl)) xW_c3 (fun q9 => ?_)
  refine gw_astore C dL_end_13 [(4, .ref q9), (0, .ref aP), (1, .int p1), (2, .int p2), (3, .ref ao)] (by decide) rfl ?_
  refine gw_iconst (v := nI 1) C dL_end_15 rfl ?_
  exact gw_iretH C dL_end_16
set_option maxHeartbeats 4000000 in
set_option maxRecDepth 100000 in
theorem c_L_end_T2 (l : Launch) (D : va_G) (cI cJ cO : ClassId) (aP : Nat) (bT bR : Nat → Nat) (aS ao : Nat) (g : Nat → Int64) (t : QS) (p1 : Int32) (p2 : Int32) (h : fP_end p1 p2 t = some (.inl 1)) : CtH l D (tysA cI cJ cO) yL_end wsL_end ({ frames := 7, cells := 1, slots := 6, locals := 118 } : Room) [.ref aP, .int p1, .int p2, .ref ao] ([(ao, .inl (cJ, 1, .inr (.inl g)))] ++ wQ cI cJ aP bT bR aS t) (some (.int (nI 2))) ([(ao, .inl (cJ, 1, .inr (.inl g)))] ++ wQ cI cJ aP bT bR aS t) 1 6 := by
  refine CtH_of (own := RL) cL_end 5 (some .int) [(0, 10, 13, 37), (0, 10, 17, 13)] (by decide +kernel) rfl rfl (Nat.le_of_ble_eq_true rfl) ?_
  intro p e s m args below meth c A C htr XF XH htab
  have w_x := cwV (R := ({ frames := 7, cells := 1, slots := 6, locals := 118 } : Room)) (rm := rmOfX 6 95) (s := s) (args := args) 2 C.1.2.2.2.2 gL_end_X3_end rfl rfl rfl hd_X3_end ⟨(Nat.le_of_ble_eq_true rfl), (Nat.le_of_ble_eq_true rfl)⟩
  show gw_G p l e ({ frames := 7, cells := 1, slots := 6, locals := 118 } : Room) s m args below meth c D A (CtMH D below (some (.int (nI 2))) ([(ao, .inl (cJ, 1, .inr (.inl g)))] ++ wQ cI cJ aP bT bR aS t) A args s 1 6) 5 0 0 ([(ao, .inl (cJ, 1, .inr (.inl g)))] ++ wQ cI cJ aP bT bR aS t) [(0, .ref aP), (1, .int p1), (2, .int p2), (3, .ref ao)] 0 []
  refine gw_aload_n C dL_end_0 3 rfl ?_
  refine gw_iconst (v := nI 0) C dL_end_1 rfl ?_
  refine gw_aload_n C dL_end_2 0 rfl ?_
  refine gw_iload_n C dL_end_3 1 rfl ?_
  refine gw_iload_n C dL_end_4 2 rfl ?_
  refine gw_catch (E := gw_xn 1) (rest := [.int (nI 0), .ref ao]) (v := [(ao, .inl (cJ, 1, .inr (.inl g)))]) C htr XF (c_X3_end_T l D cI cJ cO aP bT bR aS t p1 p2 h) w_x 0 2 rfl rfl rfl rfl rfl (Nat.le_of_ble_eq_true rfl) dL_end_5 ⟨(Nat.le_of_ble_eq_true rfl), (Nat.le_of_ble_eq_true rfl)⟩ rfl [⟨0, 10, 13, 37⟩] ⟨0, 10, 17, 13⟩ [] htab (fun z hz => by rw [List.mem_singleton.mp hz]; exact Or.inr ⟨by decide, gw_xn 3, C.1.2.2.2.2 _ (List.mem_of_getElem? (i := 1) rfl), XH.2⟩) (by decide) (by decide) (C.1.2.2.2.2 (Cond.classLink RL 13 (gw_xn 1)) (List.mem_of_getElem? (i := 2) rfl)) xW_c1 (fun q9 => ?_)
  refine gw_astore C dL_end_17 [(4, .ref q9), (0, .ref aP), (1, .int p1), (2, .int p2), (3, .ref ao)] (by decide) rfl ?_
  refine gw_iconst (v := nI 2) C dL_end_19 rfl ?_
  exact gw_iretH C dL_end_20
set_option maxHeartbeats 4000000 in
set_option maxRecDepth 100000 in
theorem c_L_letter (l : Launch) (D : va_G) (cI cJ cO : ClassId) (aP : Nat) (bT bR : Nat → Nat) (aS ao : Nat) (g : Nat → Int64) (t : QS) (p1 : Int32) (p2 : Int32) {o : Int32} (h : fP_letter p1 p2 t = some (.inr o)) : CtH l D (tysA cI cJ cO) yL_letter wsL_letter (rmOf 3 66) [.ref aP, .int p1, .int p2, .ref ao] ([(ao, .inl (cJ, 1, .inr (.inl g)))] ++ wQ cI cJ aP bT bR aS t) (some (.int (nI 0))) ([(ao, .inl (cJ, 1, .inr (.inl (vp_updL g 0 (o.toInt64)))))] ++ wQ cI cJ aP bT bR aS t) 0 0 := by
  refine CtH_of (own := RL) cL_letter 5 (some .int) [(0, 10, 13, 37), (0, 10, 17, 13)] (by decide +kernel) rfl rfl (Nat.le_of_ble_eq_true rfl) ?_
  intro p e s m args below meth c A C htr XF XH htab
  have w_x := cwV (R := (rmOf 3 66)) (rm := rmOf 2 43) (s := s) (args := args) 2 C.1.2.2.2.2 gL_letter_X3_letter rfl rfl rfl hd_X3_letter ⟨(Nat.le_of_ble_eq_true rfl), (Nat.le_of_ble_eq_true rfl)⟩
  show gw_G p l e (rmOf 3 66) s m args below meth c D A (CtMH D below (some (.int (nI 0))) ([(ao, .inl (cJ, 1, .inr (.inl (vp_updL g 0 (o.toInt64)))))] ++ wQ cI cJ aP bT bR aS t) A args s 0 0) 5 0 0 ([(ao, .inl (cJ, 1, .inr (.inl g)))] ++ wQ cI cJ aP bT bR aS t) [(0, .ref aP), (1, .int p1), (2, .int p2), (3, .ref ao)] 0 []
  refine gw_aload_n C dL_letter_0 3 rfl ?_
  refine gw_iconst (v := nI 0) C dL_letter_1 rfl ?_
  refine gw_aload_n C dL_letter_2 0 rfl ?_
  refine gw_iload_n C dL_letter_3 1 rfl ?_
  refine gw_iload_n C dL_letter_4 2 rfl ?_
  refine gw_back (st2 := [.int o, .int (nI 0), .ref ao]) (v := [(ao, .inl (cJ, 1, .inr (.inl g)))]) (ws' := ([(ao, .inl (cJ, 1, .inr (.inl g)))] ++ wQ cI cJ aP bT bR aS t)) C (run_V (rest := [.int (nI 0), .ref ao]) C (c_X3_letter l D cI cJ cO aP bT bR aS t p1 p2 h) w_x 0 2 rfl rfl rfl rfl rfl (Nat.le_of_ble_eq_true rfl) dL_letter_5 ⟨Nat.zero_le _, Nat.zero_le _⟩) rfl rfl rfl ?_
  refine gw_i2l C dL_letter_8 ?_
  refine gw_last (ws' := ([(ao, .inl (cJ, 1, .inr (.inl (vp_updL g 0 (o.toInt64)))))] ++ wQ cI cJ aP bT bR aS t)) C dL_letter_9 0 1 rfl rfl (nI_in (by decide) (by decide)) (by rw [nI_clamp (by decide)]; rfl) ?_
  refine gw_goto (tgt := 21) C dL_letter_10 (by decide) ?_
  refine gw_iconst (v := nI 0) C dL_letter_21 rfl ?_
  exact gw_iretH C dL_letter_22
set_option maxHeartbeats 4000000 in
set_option maxRecDepth 100000 in
theorem c_L_letter_T1 (l : Launch) (D : va_G) (cI cJ cO : ClassId) (aP : Nat) (bT bR : Nat → Nat) (aS ao : Nat) (g : Nat → Int64) (t : QS) (p1 : Int32) (p2 : Int32) (h : fP_letter p1 p2 t = some (.inl 3)) : CtH l D (tysA cI cJ cO) yL_letter wsL_letter ({ frames := 7, cells := 1, slots := 6, locals := 118 } : Room) [.ref aP, .int p1, .int p2, .ref ao] ([(ao, .inl (cJ, 1, .inr (.inl g)))] ++ wQ cI cJ aP bT bR aS t) (some (.int (nI 1))) ([(ao, .inl (cJ, 1, .inr (.inl g)))] ++ wQ cI cJ aP bT bR aS t) 1 6 := by
  refine CtH_of (own := RL) cL_letter 5 (some .int) [(0, 10, 13, 37), (0, 10, 17, 13)] (by decide +kernel) rfl rfl (Nat.le_of_ble_eq_true rfl) ?_
  intro p e s m args below meth c A C htr XF XH htab
  have w_x := cwV (R := ({ frames := 7, cells := 1, slots := 6, locals := 118 } : Room)) (rm := rmOfX 6 95) (s := s) (args := args) 2 C.1.2.2.2.2 gL_letter_X3_letter rfl rfl rfl hd_X3_letter ⟨(Nat.le_of_ble_eq_true rfl), (Nat.le_of_ble_eq_true rfl)⟩
  show gw_G p l e ({ frames := 7, cells := 1, slots := 6, locals := 118 } : Room) s m args below meth c D A (CtMH D below (some (.int (nI 1))) ([(ao, .inl (cJ, 1, .inr (.inl g)))] ++ wQ cI cJ aP bT bR aS t) A args s 1 6) 5 0 0 ([(ao, .inl (cJ, 1, .inr (.inl g)))] ++ wQ cI cJ aP bT bR aS t) [(0, .ref aP), (1, .int p1), (2, .int p2), (3, .ref ao)] 0 []
  refine gw_aload_n C dL_letter_0 3 rfl ?_
  refine gw_iconst (v := nI 0) C dL_letter_1 rfl ?_
  refine gw_aload_n C dL_letter_2 0 rfl ?_
  refine gw_iload_n C dL_letter_3 1 rfl ?_
  refine gw_iload_n C dL_letter_4 2 rfl ?_
  refine gw_catch (E := gw_xn 3) (rest := [.int (nI 0), .ref ao]) (v := [(ao, .inl (cJ, 1, .inr (.inl g)))]) C htr XF (c_X3_letter_T l D cI cJ cO aP bT bR aS t p1 p2 h) w_x 0 2 rfl rfl rfl rfl rfl (Nat.le_of_ble_eq_true rfl) dL_letter_5 ⟨(Nat.le_of_ble_eq_true rfl), (Nat.le_of_ble_eq_true rfl)⟩ rfl [] ⟨0, 10, 13, 37⟩ [⟨0, 10, 17, 13⟩] htab (fun z hz => absurd hz List.not_mem_nil) (by decide) (by decide) (C.1.2.2.2.2 (Cond.classLink RL 37 (gw_xn 3)) (List.mem_of_getElem? (i := 1) rfl)) xW_c3 (fun q9 => ?_)
  refine gw_astore C dL_letter_13 [(4, .ref q9), (0, .ref aP), (1, .int p1), (2, .int p2), (3, .ref ao)] (by decide) rfl ?_
  refine gw_iconst (v := nI 1) C dL_letter_15 rfl ?_
  exact gw_iretH C dL_letter_16
set_option maxHeartbeats 4000000 in
set_option maxRecDepth 100000 in
theorem c_L_letter_T2 (l : Launch) (D : va_G) (cI cJ cO : ClassId) (aP : Nat) (bT bR : Nat → Nat) (aS ao : Nat) (g : Nat → Int64) (t : QS) (p1 : Int32) (p2 : Int32) (h : fP_letter p1 p2 t = some (.inl 1)) : CtH l D (tysA cI cJ cO) yL_letter wsL_letter ({ frames := 7, cells := 1, slots := 6, locals := 118 } : Room) [.ref aP, .int p1, .int p2, .ref ao] ([(ao, .inl (cJ, 1, .inr (.inl g)))] ++ wQ cI cJ aP bT bR aS t) (some (.int (nI 2))) ([(ao, .inl (cJ, 1, .inr (.inl g)))] ++ wQ cI cJ aP bT bR aS t) 1 6 := by
  refine CtH_of (own := RL) cL_letter 5 (some .int) [(0, 10, 13, 37), (0, 10, 17, 13)] (by decide +kernel) rfl rfl (Nat.le_of_ble_eq_true rfl) ?_
  intro p e s m args below meth c A C htr XF XH htab
  have w_x := cwV (R := ({ frames := 7, cells := 1, slots := 6, locals := 118 } : Room)) (rm := rmOfX 6 95) (s := s) (args := args) 2 C.1.2.2.2.2 gL_letter_X3_letter rfl rfl rfl hd_X3_letter ⟨(Nat.le_of_ble_eq_true rfl), (Nat.le_of_ble_eq_true rfl)⟩
  show gw_G p l e ({ frames := 7, cells := 1, slots := 6, locals := 118 } : Room) s m args below meth c D A (CtMH D below (some (.int (nI 2))) ([(ao, .inl (cJ, 1, .inr (.inl g)))] ++ wQ cI cJ aP bT bR aS t) A args s 1 6) 5 0 0 ([(ao, .inl (cJ, 1, .inr (.inl g)))] ++ wQ cI cJ aP bT bR aS t) [(0, .ref aP), (1, .int p1), (2, .int p2), (3, .ref ao)] 0 []
  refine gw_aload_n C dL_letter_0 3 rfl ?_
  refine gw_iconst (v := nI 0) C dL_letter_1 rfl ?_
  refine gw_aload_n C dL_letter_2 0 rfl ?_
  refine gw_iload_n C dL_letter_3 1 rfl ?_
  refine gw_iload_n C dL_letter_4 2 rfl ?_
  refine gw_catch (E := gw_xn 1) (rest := [.int (nI 0), .ref ao]) (v := [(ao, .inl (cJ, 1, .inr (.inl g)))]) C htr XF (c_X3_letter_T l D cI cJ cO aP bT bR aS t p1 p2 h) w_x 0 2 rfl rfl rfl rfl rfl (Nat.le_of_ble_eq_true rfl) dL_letter_5 ⟨(Nat.le_of_ble_eq_true rfl), (Nat.le_of_ble_eq_true rfl)⟩ rfl [⟨0, 10, 13, 37⟩] ⟨0, 10, 17, 13⟩ [] htab (fun z hz => by rw [List.mem_singleton.mp hz]; exact Or.inr ⟨by decide, gw_xn 3, C.1.2.2.2.2 _ (List.mem_of_getElem? (i := 1) rfl), XH.2⟩) (by decide) (by decide) (C.1.2.2.2.2 (Cond.classLink RL 13 (gw_xn 1)) (List.mem_of_getElem? (i := 2) rfl)) xW_c1 (fun q9 => ?_)
  refine gw_astore C dL_letter_17 [(4, .ref q9), (0, .ref aP), (1, .int p1), (2, .int p2), (3, .ref ao)] (by decide) rfl ?_
  refine gw_iconst (v := nI 2) C dL_letter_19 rfl ?_
  exact gw_iretH C dL_letter_20
set_option maxHeartbeats 4000000 in
set_option maxRecDepth 100000 in
theorem c_L_count (l : Launch) (D : va_G) (cI cJ cO : ClassId) (aP : Nat) (bT bR : Nat → Nat) (aS ao : Nat) (g : Nat → Int64) (t : QS) (p1 : Int32) {o : Int32} (h : fP_count p1 t = some (.inr o)) : CtH l D (tysA cI cJ cO) yL_count wsL_count (rmOf 5 109) [.ref aP, .int p1, .ref ao] ([(ao, .inl (cJ, 1, .inr (.inl g)))] ++ wQ cI cJ aP bT bR aS t) (some (.int (nI 0))) ([(ao, .inl (cJ, 1, .inr (.inl (vp_updL g 0 (o.toInt64)))))] ++ wQ cI cJ aP bT bR aS t) 0 0 := by
  refine CtH_of (own := RL) cL_count 4 (some .int) [(0, 9, 12, 13)] (by decide +kernel) rfl rfl (Nat.le_of_ble_eq_true rfl) ?_
  intro p e s m args below meth c A C htr XF XH htab
  have w_x := cwV (R := (rmOf 5 109)) (rm := rmOf 4 88) (s := s) (args := args) 1 C.1.2.2.2.2 gL_count_X3_count rfl rfl rfl hd_X3_count ⟨(Nat.le_of_ble_eq_true rfl), (Nat.le_of_ble_eq_true rfl)⟩
  show gw_G p l e (rmOf 5 109) s m args below meth c D A (CtMH D below (some (.int (nI 0))) ([(ao, .inl (cJ, 1, .inr (.inl (vp_updL g 0 (o.toInt64)))))] ++ wQ cI cJ aP bT bR aS t) A args s 0 0) 4 0 0 ([(ao, .inl (cJ, 1, .inr (.inl g)))] ++ wQ cI cJ aP bT bR aS t) [(0, .ref aP), (1, .int p1), (2, .ref ao)] 0 []
  refine gw_aload_n C dL_count_0 2 rfl ?_
  refine gw_iconst (v := nI 0) C dL_count_1 rfl ?_
  refine gw_aload_n C dL_count_2 0 rfl ?_
  refine gw_iload_n C dL_count_3 1 rfl ?_
  refine gw_back (st2 := [.int o, .int (nI 0), .ref ao]) (v := [(ao, .inl (cJ, 1, .inr (.inl g)))]) (ws' := ([(ao, .inl (cJ, 1, .inr (.inl g)))] ++ wQ cI cJ aP bT bR aS t)) C (run_V (rest := [.int (nI 0), .ref ao]) C (c_X3_count l D cI cJ cO aP bT bR aS t p1 h) w_x 0 2 rfl rfl rfl rfl rfl (Nat.le_of_ble_eq_true rfl) dL_count_4 ⟨Nat.zero_le _, Nat.zero_le _⟩) rfl rfl rfl ?_
  refine gw_i2l C dL_count_7 ?_
  refine gw_last (ws' := ([(ao, .inl (cJ, 1, .inr (.inl (vp_updL g 0 (o.toInt64)))))] ++ wQ cI cJ aP bT bR aS t)) C dL_count_8 0 1 rfl rfl (nI_in (by decide) (by decide)) (by rw [nI_clamp (by decide)]; rfl) ?_
  refine gw_goto (tgt := 15) C dL_count_9 (by decide) ?_
  refine gw_iconst (v := nI 0) C dL_count_15 rfl ?_
  exact gw_iretH C dL_count_16
set_option maxHeartbeats 4000000 in
set_option maxRecDepth 100000 in
theorem c_L_count_T1 (l : Launch) (D : va_G) (cI cJ cO : ClassId) (aP : Nat) (bT bR : Nat → Nat) (aS ao : Nat) (g : Nat → Int64) (t : QS) (p1 : Int32) (h : fP_count p1 t = some (.inl 1)) : CtH l D (tysA cI cJ cO) yL_count wsL_count ({ frames := 7, cells := 1, slots := 6, locals := 116 } : Room) [.ref aP, .int p1, .ref ao] ([(ao, .inl (cJ, 1, .inr (.inl g)))] ++ wQ cI cJ aP bT bR aS t) (some (.int (nI 1))) ([(ao, .inl (cJ, 1, .inr (.inl g)))] ++ wQ cI cJ aP bT bR aS t) 1 6 := by
  refine CtH_of (own := RL) cL_count 4 (some .int) [(0, 9, 12, 13)] (by decide +kernel) rfl rfl (Nat.le_of_ble_eq_true rfl) ?_
  intro p e s m args below meth c A C htr XF XH htab
  have w_x := cwV (R := ({ frames := 7, cells := 1, slots := 6, locals := 116 } : Room)) (rm := rmOfX 6 95) (s := s) (args := args) 1 C.1.2.2.2.2 gL_count_X3_count rfl rfl rfl hd_X3_count ⟨(Nat.le_of_ble_eq_true rfl), (Nat.le_of_ble_eq_true rfl)⟩
  show gw_G p l e ({ frames := 7, cells := 1, slots := 6, locals := 116 } : Room) s m args below meth c D A (CtMH D below (some (.int (nI 1))) ([(ao, .inl (cJ, 1, .inr (.inl g)))] ++ wQ cI cJ aP bT bR aS t) A args s 1 6) 4 0 0 ([(ao, .inl (cJ, 1, .inr (.inl g)))] ++ wQ cI cJ aP bT bR aS t) [(0, .ref aP), (1, .int p1), (2, .ref ao)] 0 []
  refine gw_aload_n C dL_count_0 2 rfl ?_
  refine gw_iconst (v := nI 0) C dL_count_1 rfl ?_
  refine gw_aload_n C dL_count_2 0 rfl ?_
  refine gw_iload_n C dL_count_3 1 rfl ?_
  refine gw_catch (E := gw_xn 1) (rest := [.int (nI 0), .ref ao]) (v := [(ao, .inl (cJ, 1, .inr (.inl g)))]) C htr XF (c_X3_count_T l D cI cJ cO aP bT bR aS t p1 h) w_x 0 2 rfl rfl rfl rfl rfl (Nat.le_of_ble_eq_true rfl) dL_count_4 ⟨(Nat.le_of_ble_eq_true rfl), (Nat.le_of_ble_eq_true rfl)⟩ rfl [] ⟨0, 9, 12, 13⟩ [] htab (fun z hz => absurd hz List.not_mem_nil) (by decide) (by decide) (C.1.2.2.2.2 (Cond.classLink RL 13 (gw_xn 1)) (List.mem_of_getElem? (i := 1) rfl)) xW_c1 (fun q9 => ?_)
  refine gw_astore_n C dL_count_12 [(3, .ref q9), (0, .ref aP), (1, .int p1), (2, .ref ao)] rfl (by decide) rfl ?_
  refine gw_iconst (v := nI 1) C dL_count_13 rfl ?_
  exact gw_iretH C dL_count_14
set_option maxHeartbeats 4000000 in
set_option maxRecDepth 100000 in
theorem c_L_word (l : Launch) (D : va_G) (cI cJ cO : ClassId) (aP : Nat) (bT bR : Nat → Nat) (aS ao : Nat) (g : Nat → Int64) (t : QS) (p1 : Int32) (p2 : Int32) {o : Int32} (h : fP_word p1 p2 t = some (.inr o)) : CtH l D (tysA cI cJ cO) yL_word wsL_word (rmOf 5 120) [.ref aP, .int p1, .int p2, .ref ao] ([(ao, .inl (cJ, 1, .inr (.inl g)))] ++ wQ cI cJ aP bT bR aS t) (some (.int (nI 0))) ([(ao, .inl (cJ, 1, .inr (.inl (vp_updL g 0 (o.toInt64)))))] ++ wQ cI cJ aP bT bR aS t) 0 0 := by
  refine CtH_of (own := RL) cL_word 5 (some .int) [(0, 10, 13, 13)] (by decide +kernel) rfl rfl (Nat.le_of_ble_eq_true rfl) ?_
  intro p e s m args below meth c A C htr XF XH htab
  have w_x := cwV (R := (rmOf 5 120)) (rm := rmOf 4 96) (s := s) (args := args) 2 C.1.2.2.2.2 gL_word_X3_word rfl rfl rfl hd_X3_word ⟨(Nat.le_of_ble_eq_true rfl), (Nat.le_of_ble_eq_true rfl)⟩
  show gw_G p l e (rmOf 5 120) s m args below meth c D A (CtMH D below (some (.int (nI 0))) ([(ao, .inl (cJ, 1, .inr (.inl (vp_updL g 0 (o.toInt64)))))] ++ wQ cI cJ aP bT bR aS t) A args s 0 0) 5 0 0 ([(ao, .inl (cJ, 1, .inr (.inl g)))] ++ wQ cI cJ aP bT bR aS t) [(0, .ref aP), (1, .int p1), (2, .int p2), (3, .ref ao)] 0 []
  refine gw_aload_n C dL_word_0 3 rfl ?_
  refine gw_iconst (v := nI 0) C dL_word_1 rfl ?_
  refine gw_aload_n C dL_word_2 0 rfl ?_
  refine gw_iload_n C dL_word_3 1 rfl ?_
  refine gw_iload_n C dL_word_4 2 rfl ?_
  refine gw_back (st2 := [.int o, .int (nI 0), .ref ao]) (v := [(ao, .inl (cJ, 1, .inr (.inl g)))]) (ws' := ([(ao, .inl (cJ, 1, .inr (.inl g)))] ++ wQ cI cJ aP bT bR aS t)) C (run_V (rest := [.int (nI 0), .ref ao]) C (c_X3_word l D cI cJ cO aP bT bR aS t p1 p2 h) w_x 0 2 rfl rfl rfl rfl rfl (Nat.le_of_ble_eq_true rfl) dL_word_5 ⟨Nat.zero_le _, Nat.zero_le _⟩) rfl rfl rfl ?_
  refine gw_i2l C dL_word_8 ?_
  refine gw_last (ws' := ([(ao, .inl (cJ, 1, .inr (.inl (vp_updL g 0 (o.toInt64)))))] ++ wQ cI cJ aP bT bR aS t)) C dL_word_9 0 1 rfl rfl (nI_in (by decide) (by decide)) (by rw [nI_clamp (by decide)]; rfl) ?_
  refine gw_goto (tgt := 17) C dL_word_10 (by decide) ?_
  refine gw_iconst (v := nI 0) C dL_word_17 rfl ?_
  exact gw_iretH C dL_word_18
set_option maxHeartbeats 4000000 in
set_option maxRecDepth 100000 in
theorem c_L_word_T1 (l : Launch) (D : va_G) (cI cJ cO : ClassId) (aP : Nat) (bT bR : Nat → Nat) (aS ao : Nat) (g : Nat → Int64) (t : QS) (p1 : Int32) (p2 : Int32) (h : fP_word p1 p2 t = some (.inl 1)) : CtH l D (tysA cI cJ cO) yL_word wsL_word ({ frames := 7, cells := 1, slots := 6, locals := 120 } : Room) [.ref aP, .int p1, .int p2, .ref ao] ([(ao, .inl (cJ, 1, .inr (.inl g)))] ++ wQ cI cJ aP bT bR aS t) (some (.int (nI 1))) ([(ao, .inl (cJ, 1, .inr (.inl g)))] ++ wQ cI cJ aP bT bR aS t) 1 6 := by
  refine CtH_of (own := RL) cL_word 5 (some .int) [(0, 10, 13, 13)] (by decide +kernel) rfl rfl (Nat.le_of_ble_eq_true rfl) ?_
  intro p e s m args below meth c A C htr XF XH htab
  have w_x := cwV (R := ({ frames := 7, cells := 1, slots := 6, locals := 120 } : Room)) (rm := rmOfX 6 96) (s := s) (args := args) 2 C.1.2.2.2.2 gL_word_X3_word rfl rfl rfl hd_X3_word ⟨(Nat.le_of_ble_eq_true rfl), (Nat.le_of_ble_eq_true rfl)⟩
  show gw_G p l e ({ frames := 7, cells := 1, slots := 6, locals := 120 } : Room) s m args below meth c D A (CtMH D below (some (.int (nI 1))) ([(ao, .inl (cJ, 1, .inr (.inl g)))] ++ wQ cI cJ aP bT bR aS t) A args s 1 6) 5 0 0 ([(ao, .inl (cJ, 1, .inr (.inl g)))] ++ wQ cI cJ aP bT bR aS t) [(0, .ref aP), (1, .int p1), (2, .int p2), (3, .ref ao)] 0 []
  refine gw_aload_n C dL_word_0 3 rfl ?_
  refine gw_iconst (v := nI 0) C dL_word_1 rfl ?_
  refine gw_aload_n C dL_word_2 0 rfl ?_
  refine gw_iload_n C dL_word_3 1 rfl ?_
  refine gw_iload_n C dL_word_4 2 rfl ?_
  refine gw_catch (E := gw_xn 1) (rest := [.int (nI 0), .ref ao]) (v := [(ao, .inl (cJ, 1, .inr (.inl g)))]) C htr XF (c_X3_word_T l D cI cJ cO aP bT bR aS t p1 p2 h) w_x 0 2 rfl rfl rfl rfl rfl (Nat.le_of_ble_eq_true rfl) dL_word_5 ⟨(Nat.le_of_ble_eq_true rfl), (Nat.le_of_ble_eq_true rfl)⟩ rfl [] ⟨0, 10, 13, 13⟩ [] htab (fun z hz => absurd hz List.not_mem_nil) (by decide) (by decide) (C.1.2.2.2.2 (Cond.classLink RL 13 (gw_xn 1)) (List.mem_of_getElem? (i := 1) rfl)) xW_c1 (fun q9 => ?_)
  refine gw_astore C dL_word_13 [(4, .ref q9), (0, .ref aP), (1, .int p1), (2, .int p2), (3, .ref ao)] (by decide) rfl ?_
  refine gw_iconst (v := nI 1) C dL_word_15 rfl ?_
  exact gw_iretH C dL_word_16
set_option maxHeartbeats 4000000 in
set_option maxRecDepth 100000 in
theorem c_L_ifAdded (l : Launch) (D : va_G) (cI cJ cO : ClassId) (aP : Nat) (bT bR : Nat → Nat) (aS ao : Nat) (g : Nat → Int64) (t : QS) (p1 : Int32) {o : Int32 × QS} (h : fP_ifAdded p1 t = some (.inr o)) : CtH l D (tysA cI cJ cO) yL_ifAdded wsL_ifAdded (rmOf 7 176) [.ref aP, .int p1, .ref ao] ([(ao, .inl (cJ, 1, .inr (.inl g)))] ++ wQ cI cJ aP bT bR aS t) (some (.int (nI 0))) ([(ao, .inl (cJ, 1, .inr (.inl (vp_updL g 0 (o.1.toInt64)))))] ++ wQ cI cJ aP bT bR aS o.2) 0 0 := by
  refine CtH_of (own := RL) cL_ifAdded 4 (some .int) [(0, 9, 12, 13)] (by decide +kernel) rfl rfl (Nat.le_of_ble_eq_true rfl) ?_
  intro p e s m args below meth c A C htr XF XH htab
  have w_x := cwV (R := (rmOf 7 176)) (rm := rmOf 6 155) (s := s) (args := args) 1 C.1.2.2.2.2 gL_ifAdded_X3_ifAdded rfl rfl rfl hd_X3_ifAdded ⟨(Nat.le_of_ble_eq_true rfl), (Nat.le_of_ble_eq_true rfl)⟩
  show gw_G p l e (rmOf 7 176) s m args below meth c D A (CtMH D below (some (.int (nI 0))) ([(ao, .inl (cJ, 1, .inr (.inl (vp_updL g 0 (o.1.toInt64)))))] ++ wQ cI cJ aP bT bR aS o.2) A args s 0 0) 4 0 0 ([(ao, .inl (cJ, 1, .inr (.inl g)))] ++ wQ cI cJ aP bT bR aS t) [(0, .ref aP), (1, .int p1), (2, .ref ao)] 0 []
  refine gw_aload_n C dL_ifAdded_0 2 rfl ?_
  refine gw_iconst (v := nI 0) C dL_ifAdded_1 rfl ?_
  refine gw_aload_n C dL_ifAdded_2 0 rfl ?_
  refine gw_iload_n C dL_ifAdded_3 1 rfl ?_
  refine gw_back (st2 := [.int o.1, .int (nI 0), .ref ao]) (v := [(ao, .inl (cJ, 1, .inr (.inl g)))]) (ws' := ([(ao, .inl (cJ, 1, .inr (.inl g)))] ++ wQ cI cJ aP bT bR aS o.2)) C (run_V (rest := [.int (nI 0), .ref ao]) C (c_X3_ifAdded l D cI cJ cO aP bT bR aS t p1 h) w_x 0 2 rfl rfl rfl rfl rfl (Nat.le_of_ble_eq_true rfl) dL_ifAdded_4 ⟨Nat.zero_le _, Nat.zero_le _⟩) rfl rfl rfl ?_
  refine gw_i2l C dL_ifAdded_7 ?_
  refine gw_last (ws' := ([(ao, .inl (cJ, 1, .inr (.inl (vp_updL g 0 (o.1.toInt64)))))] ++ wQ cI cJ aP bT bR aS o.2)) C dL_ifAdded_8 0 1 rfl rfl (nI_in (by decide) (by decide)) (by rw [nI_clamp (by decide)]; rfl) ?_
  refine gw_goto (tgt := 15) C dL_ifAdded_9 (by decide) ?_
  refine gw_iconst (v := nI 0) C dL_ifAdded_15 rfl ?_
  exact gw_iretH C dL_ifAdded_16
set_option maxHeartbeats 4000000 in
set_option maxRecDepth 100000 in
theorem c_L_ifAdded_T1 (l : Launch) (D : va_G) (cI cJ cO : ClassId) (aP : Nat) (bT bR : Nat → Nat) (aS ao : Nat) (g : Nat → Int64) (t : QS) (p1 : Int32) {t' : QS} (h : fP_ifAdded p1 t = some (.inl (1, t'))) : CtH l D (tysA cI cJ cO) yL_ifAdded wsL_ifAdded ({ frames := 7, cells := 1, slots := 6, locals := 176 } : Room) [.ref aP, .int p1, .ref ao] ([(ao, .inl (cJ, 1, .inr (.inl g)))] ++ wQ cI cJ aP bT bR aS t) (some (.int (nI 1))) ([(ao, .inl (cJ, 1, .inr (.inl g)))] ++ wQ cI cJ aP bT bR aS t') 1 6 := by
  refine CtH_of (own := RL) cL_ifAdded 4 (some .int) [(0, 9, 12, 13)] (by decide +kernel) rfl rfl (Nat.le_of_ble_eq_true rfl) ?_
  intro p e s m args below meth c A C htr XF XH htab
  have w_x := cwV (R := ({ frames := 7, cells := 1, slots := 6, locals := 176 } : Room)) (rm := rmOfX 6 155) (s := s) (args := args) 1 C.1.2.2.2.2 gL_ifAdded_X3_ifAdded rfl rfl rfl hd_X3_ifAdded ⟨(Nat.le_of_ble_eq_true rfl), (Nat.le_of_ble_eq_true rfl)⟩
  show gw_G p l e ({ frames := 7, cells := 1, slots := 6, locals := 176 } : Room) s m args below meth c D A (CtMH D below (some (.int (nI 1))) ([(ao, .inl (cJ, 1, .inr (.inl g)))] ++ wQ cI cJ aP bT bR aS t') A args s 1 6) 4 0 0 ([(ao, .inl (cJ, 1, .inr (.inl g)))] ++ wQ cI cJ aP bT bR aS t) [(0, .ref aP), (1, .int p1), (2, .ref ao)] 0 []
  refine gw_aload_n C dL_ifAdded_0 2 rfl ?_
  refine gw_iconst (v := nI 0) C dL_ifAdded_1 rfl ?_
  refine gw_aload_n C dL_ifAdded_2 0 rfl ?_
  refine gw_iload_n C dL_ifAdded_3 1 rfl ?_
  refine gw_catch (E := gw_xn 1) (rest := [.int (nI 0), .ref ao]) (v := [(ao, .inl (cJ, 1, .inr (.inl g)))]) C htr XF (c_X3_ifAdded_T l D cI cJ cO aP bT bR aS t p1 h) w_x 0 2 rfl rfl rfl rfl rfl (Nat.le_of_ble_eq_true rfl) dL_ifAdded_4 ⟨(Nat.le_of_ble_eq_true rfl), (Nat.le_of_ble_eq_true rfl)⟩ rfl [] ⟨0, 9, 12, 13⟩ [] htab (fun z hz => absurd hz List.not_mem_nil) (by decide) (by decide) (C.1.2.2.2.2 (Cond.classLink RL 13 (gw_xn 1)) (List.mem_of_getElem? (i := 1) rfl)) xW_c1 (fun q9 => ?_)
  refine gw_astore_n C dL_ifAdded_12 [(3, .ref q9), (0, .ref aP), (1, .int p1), (2, .ref ao)] rfl (by decide) rfl ?_
  refine gw_iconst (v := nI 1) C dL_ifAdded_13 rfl ?_
  exact gw_iretH C dL_ifAdded_14
set_option maxHeartbeats 4000000 in
set_option maxRecDepth 100000 in
theorem c_L_add (l : Launch) (D : va_G) (cI cJ cO : ClassId) (aP : Nat) (bT bR : Nat → Nat) (aS ao : Nat) (g : Nat → Int64) (t : PS) {o : Int32 × PS} (h : fP_add t = some (.inr o)) : CtH l D (tysA cI cJ cO) yL_add wsL_add (rmOf 7 182) [.ref aP, .ref ao] ([(ao, .inl (cJ, 1, .inr (.inl g)))] ++ wP cI cJ cO aP bT bR aS t) (some (.int (nI 0))) ([(ao, .inl (cJ, 1, .inr (.inl (vp_updL g 0 (o.1.toInt64)))))] ++ wP cI cJ cO aP bT bR aS o.2) 0 0 := by
  refine CtH_of (own := RL) cL_add 3 (some .int) [(0, 8, 11, 13), (0, 8, 14, 15)] (by decide +kernel) rfl rfl (Nat.le_of_ble_eq_true rfl) ?_
  intro p e s m args below meth c A C htr XF XH htab
  have w_x := cwV (R := (rmOf 7 182)) (rm := rmOf 6 161) (s := s) (args := args) 0 C.1.2.2.2.2 gL_add_X3_add rfl rfl rfl hd_X3_add ⟨(Nat.le_of_ble_eq_true rfl), (Nat.le_of_ble_eq_true rfl)⟩
  show gw_G p l e (rmOf 7 182) s m args below meth c D A (CtMH D below (some (.int (nI 0))) ([(ao, .inl (cJ, 1, .inr (.inl (vp_updL g 0 (o.1.toInt64)))))] ++ wP cI cJ cO aP bT bR aS o.2) A args s 0 0) 3 0 0 ([(ao, .inl (cJ, 1, .inr (.inl g)))] ++ wP cI cJ cO aP bT bR aS t) [(0, .ref aP), (1, .ref ao)] 0 []
  refine gw_aload_n C dL_add_0 1 rfl ?_
  refine gw_iconst (v := nI 0) C dL_add_1 rfl ?_
  refine gw_aload_n C dL_add_2 0 rfl ?_
  refine gw_back (st2 := [.int o.1, .int (nI 0), .ref ao]) (v := [(ao, .inl (cJ, 1, .inr (.inl g)))]) (ws' := ([(ao, .inl (cJ, 1, .inr (.inl g)))] ++ wP cI cJ cO aP bT bR aS o.2)) C (run_V (rest := [.int (nI 0), .ref ao]) C (c_X3_add l D cI cJ cO aP bT bR aS t h) w_x 0 2 rfl rfl rfl rfl rfl (Nat.le_of_ble_eq_true rfl) dL_add_3 ⟨Nat.zero_le _, Nat.zero_le _⟩) rfl rfl rfl ?_
  refine gw_i2l C dL_add_6 ?_
  refine gw_last (ws' := ([(ao, .inl (cJ, 1, .inr (.inl (vp_updL g 0 (o.1.toInt64)))))] ++ wP cI cJ cO aP bT bR aS o.2)) C dL_add_7 0 1 rfl rfl (nI_in (by decide) (by decide)) (by rw [nI_clamp (by decide)]; rfl) ?_
  refine gw_goto (tgt := 17) C dL_add_8 (by decide) ?_
  refine gw_iconst (v := nI 0) C dL_add_17 rfl ?_
  exact gw_iretH C dL_add_18
set_option maxHeartbeats 4000000 in
set_option maxRecDepth 100000 in
theorem c_L_add_T1 (l : Launch) (D : va_G) (cI cJ cO : ClassId) (aP : Nat) (bT bR : Nat → Nat) (aS ao : Nat) (g : Nat → Int64) (t : PS) {t' : PS} (h : fP_add t = some (.inl (1, t'))) : CtH l D (tysA cI cJ cO) yL_add wsL_add ({ frames := 7, cells := 1, slots := 6, locals := 182 } : Room) [.ref aP, .ref ao] ([(ao, .inl (cJ, 1, .inr (.inl g)))] ++ wP cI cJ cO aP bT bR aS t) (some (.int (nI 1))) ([(ao, .inl (cJ, 1, .inr (.inl g)))] ++ wP cI cJ cO aP bT bR aS t') 1 6 := by
  refine CtH_of (own := RL) cL_add 3 (some .int) [(0, 8, 11, 13), (0, 8, 14, 15)] (by decide +kernel) rfl rfl (Nat.le_of_ble_eq_true rfl) ?_
  intro p e s m args below meth c A C htr XF XH htab
  have w_x := cwV (R := ({ frames := 7, cells := 1, slots := 6, locals := 182 } : Room)) (rm := rmOfX 6 161) (s := s) (args := args) 0 C.1.2.2.2.2 gL_add_X3_add rfl rfl rfl hd_X3_add ⟨(Nat.le_of_ble_eq_true rfl), (Nat.le_of_ble_eq_true rfl)⟩
  show gw_G p l e ({ frames := 7, cells := 1, slots := 6, locals := 182 } : Room) s m args below meth c D A (CtMH D below (some (.int (nI 1))) ([(ao, .inl (cJ, 1, .inr (.inl g)))] ++ wP cI cJ cO aP bT bR aS t') A args s 1 6) 3 0 0 ([(ao, .inl (cJ, 1, .inr (.inl g)))] ++ wP cI cJ cO aP bT bR aS t) [(0, .ref aP), (1, .ref ao)] 0 []
  refine gw_aload_n C dL_add_0 1 rfl ?_
  refine gw_iconst (v := nI 0) C dL_add_1 rfl ?_
  refine gw_aload_n C dL_add_2 0 rfl ?_
  refine gw_catch (E := gw_xn 1) (rest := [.int (nI 0), .ref ao]) (v := [(ao, .inl (cJ, 1, .inr (.inl g)))]) C htr XF (c_X3_add_T l D cI cJ cO aP bT bR aS t h) w_x 0 2 rfl rfl rfl rfl rfl (Nat.le_of_ble_eq_true rfl) dL_add_3 ⟨(Nat.le_of_ble_eq_true rfl), (Nat.le_of_ble_eq_true rfl)⟩ rfl [] ⟨0, 8, 11, 13⟩ [⟨0, 8, 14, 15⟩] htab (fun z hz => absurd hz List.not_mem_nil) (by decide) (by decide) (C.1.2.2.2.2 (Cond.classLink RL 13 (gw_xn 1)) (List.mem_of_getElem? (i := 1) rfl)) xW_c1 (fun q9 => ?_)
  refine gw_astore_n C dL_add_11 [(2, .ref q9), (0, .ref aP), (1, .ref ao)] rfl (by decide) rfl ?_
  refine gw_iconst (v := nI 1) C dL_add_12 rfl ?_
  exact gw_iretH C dL_add_13
set_option maxHeartbeats 4000000 in
set_option maxRecDepth 100000 in
theorem c_L_add_T2 (l : Launch) (D : va_G) (cI cJ cO : ClassId) (aP : Nat) (bT bR : Nat → Nat) (aS ao : Nat) (g : Nat → Int64) (t : PS) {t' : PS} (h : fP_add t = some (.inl (2, t'))) : CtH l D (tysA cI cJ cO) yL_add wsL_add ({ frames := 7, cells := 1, slots := 6, locals := 182 } : Room) [.ref aP, .ref ao] ([(ao, .inl (cJ, 1, .inr (.inl g)))] ++ wP cI cJ cO aP bT bR aS t) (some (.int (nI 2))) ([(ao, .inl (cJ, 1, .inr (.inl g)))] ++ wP cI cJ cO aP bT bR aS t') 1 6 := by
  refine CtH_of (own := RL) cL_add 3 (some .int) [(0, 8, 11, 13), (0, 8, 14, 15)] (by decide +kernel) rfl rfl (Nat.le_of_ble_eq_true rfl) ?_
  intro p e s m args below meth c A C htr XF XH htab
  have w_x := cwV (R := ({ frames := 7, cells := 1, slots := 6, locals := 182 } : Room)) (rm := rmOfX 6 161) (s := s) (args := args) 0 C.1.2.2.2.2 gL_add_X3_add rfl rfl rfl hd_X3_add ⟨(Nat.le_of_ble_eq_true rfl), (Nat.le_of_ble_eq_true rfl)⟩
  show gw_G p l e ({ frames := 7, cells := 1, slots := 6, locals := 182 } : Room) s m args below meth c D A (CtMH D below (some (.int (nI 2))) ([(ao, .inl (cJ, 1, .inr (.inl g)))] ++ wP cI cJ cO aP bT bR aS t') A args s 1 6) 3 0 0 ([(ao, .inl (cJ, 1, .inr (.inl g)))] ++ wP cI cJ cO aP bT bR aS t) [(0, .ref aP), (1, .ref ao)] 0 []
  refine gw_aload_n C dL_add_0 1 rfl ?_
  refine gw_iconst (v := nI 0) C dL_add_1 rfl ?_
  refine gw_aload_n C dL_add_2 0 rfl ?_
  refine gw_catch (E := gw_xn 2) (rest := [.int (nI 0), .ref ao]) (v := [(ao, .inl (cJ, 1, .inr (.inl g)))]) C htr XF (c_X3_add_T l D cI cJ cO aP bT bR aS t h) w_x 0 2 rfl rfl rfl rfl rfl (Nat.le_of_ble_eq_true rfl) dL_add_3 ⟨(Nat.le_of_ble_eq_true rfl), (Nat.le_of_ble_eq_true rfl)⟩ rfl [⟨0, 8, 11, 13⟩] ⟨0, 8, 14, 15⟩ [] htab (fun z hz => by rw [List.mem_singleton.mp hz]; exact Or.inr ⟨by decide, gw_xn 1, C.1.2.2.2.2 _ (List.mem_of_getElem? (i := 1) rfl), XH.1⟩) (by decide) (by decide) (C.1.2.2.2.2 (Cond.classLink RL 15 (gw_xn 2)) (List.mem_of_getElem? (i := 2) rfl)) xW_c2 (fun q9 => ?_)
  refine gw_astore_n C dL_add_14 [(2, .ref q9), (0, .ref aP), (1, .ref ao)] rfl (by decide) rfl ?_
  refine gw_iconst (v := nI 2) C dL_add_15 rfl ?_
  exact gw_iretH C dL_add_16
set_option maxHeartbeats 4000000 in
set_option maxRecDepth 100000 in
theorem c_L_remove (l : Launch) (D : va_G) (cI cJ cO : ClassId) (aP : Nat) (bT bR : Nat → Nat) (aS ao : Nat) (g : Nat → Int64) (t : PS) {o : Int32 × PS} (h : fP_remove t = some (.inr o)) : CtH l D (tysA cI cJ cO) yL_remove wsL_remove (rmOf 6 182) [.ref aP, .ref ao] ([(ao, .inl (cJ, 1, .inr (.inl g)))] ++ wP cI cJ cO aP bT bR aS t) (some (.int (nI 0))) ([(ao, .inl (cJ, 1, .inr (.inl (vp_updL g 0 (o.1.toInt64)))))] ++ wP cI cJ cO aP bT bR aS o.2) 0 0 := by
  refine CtH_of (own := RL) cL_remove 3 (some .int) [(0, 8, 11, 13), (0, 8, 14, 15)] (by decide +kernel) rfl rfl (Nat.le_of_ble_eq_true rfl) ?_
  intro p e s m args below meth c A C htr XF XH htab
  have w_x := cwV (R := (rmOf 6 182)) (rm := rmOf 5 161) (s := s) (args := args) 0 C.1.2.2.2.2 gL_remove_X3_remove rfl rfl rfl hd_X3_remove ⟨(Nat.le_of_ble_eq_true rfl), (Nat.le_of_ble_eq_true rfl)⟩
  show gw_G p l e (rmOf 6 182) s m args below meth c D A (CtMH D below (some (.int (nI 0))) ([(ao, .inl (cJ, 1, .inr (.inl (vp_updL g 0 (o.1.toInt64)))))] ++ wP cI cJ cO aP bT bR aS o.2) A args s 0 0) 3 0 0 ([(ao, .inl (cJ, 1, .inr (.inl g)))] ++ wP cI cJ cO aP bT bR aS t) [(0, .ref aP), (1, .ref ao)] 0 []
  refine gw_aload_n C dL_remove_0 1 rfl ?_
  refine gw_iconst (v := nI 0) C dL_remove_1 rfl ?_
  refine gw_aload_n C dL_remove_2 0 rfl ?_
  refine gw_back (st2 := [.int o.1, .int (nI 0), .ref ao]) (v := [(ao, .inl (cJ, 1, .inr (.inl g)))]) (ws' := ([(ao, .inl (cJ, 1, .inr (.inl g)))] ++ wP cI cJ cO aP bT bR aS o.2)) C (run_V (rest := [.int (nI 0), .ref ao]) C (c_X3_remove l D cI cJ cO aP bT bR aS t h) w_x 0 2 rfl rfl rfl rfl rfl (Nat.le_of_ble_eq_true rfl) dL_remove_3 ⟨Nat.zero_le _, Nat.zero_le _⟩) rfl rfl rfl ?_
  refine gw_i2l C dL_remove_6 ?_
  refine gw_last (ws' := ([(ao, .inl (cJ, 1, .inr (.inl (vp_updL g 0 (o.1.toInt64)))))] ++ wP cI cJ cO aP bT bR aS o.2)) C dL_remove_7 0 1 rfl rfl (nI_in (by decide) (by decide)) (by rw [nI_clamp (by decide)]; rfl) ?_
  refine gw_goto (tgt := 17) C dL_remove_8 (by decide) ?_
  refine gw_iconst (v := nI 0) C dL_remove_17 rfl ?_
  exact gw_iretH C dL_remove_18
set_option maxHeartbeats 4000000 in
set_option maxRecDepth 100000 in
theorem c_L_remove_T1 (l : Launch) (D : va_G) (cI cJ cO : ClassId) (aP : Nat) (bT bR : Nat → Nat) (aS ao : Nat) (g : Nat → Int64) (t : PS) {t' : PS} (h : fP_remove t = some (.inl (1, t'))) : CtH l D (tysA cI cJ cO) yL_remove wsL_remove ({ frames := 7, cells := 1, slots := 6, locals := 182 } : Room) [.ref aP, .ref ao] ([(ao, .inl (cJ, 1, .inr (.inl g)))] ++ wP cI cJ cO aP bT bR aS t) (some (.int (nI 1))) ([(ao, .inl (cJ, 1, .inr (.inl g)))] ++ wP cI cJ cO aP bT bR aS t') 1 6 := by
  refine CtH_of (own := RL) cL_remove 3 (some .int) [(0, 8, 11, 13), (0, 8, 14, 15)] (by decide +kernel) rfl rfl (Nat.le_of_ble_eq_true rfl) ?_
  intro p e s m args below meth c A C htr XF XH htab
  have w_x := cwV (R := ({ frames := 7, cells := 1, slots := 6, locals := 182 } : Room)) (rm := rmOfX 6 161) (s := s) (args := args) 0 C.1.2.2.2.2 gL_remove_X3_remove rfl rfl rfl hd_X3_remove ⟨(Nat.le_of_ble_eq_true rfl), (Nat.le_of_ble_eq_true rfl)⟩
  show gw_G p l e ({ frames := 7, cells := 1, slots := 6, locals := 182 } : Room) s m args below meth c D A (CtMH D below (some (.int (nI 1))) ([(ao, .inl (cJ, 1, .inr (.inl g)))] ++ wP cI cJ cO aP bT bR aS t') A args s 1 6) 3 0 0 ([(ao, .inl (cJ, 1, .inr (.inl g)))] ++ wP cI cJ cO aP bT bR aS t) [(0, .ref aP), (1, .ref ao)] 0 []
  refine gw_aload_n C dL_remove_0 1 rfl ?_
  refine gw_iconst (v := nI 0) C dL_remove_1 rfl ?_
  refine gw_aload_n C dL_remove_2 0 rfl ?_
  refine gw_catch (E := gw_xn 1) (rest := [.int (nI 0), .ref ao]) (v := [(ao, .inl (cJ, 1, .inr (.inl g)))]) C htr XF (c_X3_remove_T l D cI cJ cO aP bT bR aS t h) w_x 0 2 rfl rfl rfl rfl rfl (Nat.le_of_ble_eq_true rfl) dL_remove_3 ⟨(Nat.le_of_ble_eq_true rfl), (Nat.le_of_ble_eq_true rfl)⟩ rfl [] ⟨0, 8, 11, 13⟩ [⟨0, 8, 14, 15⟩] htab (fun z hz => absurd hz List.not_mem_nil) (by decide) (by decide) (C.1.2.2.2.2 (Cond.classLink RL 13 (gw_xn 1)) (List.mem_of_getElem? (i := 1) rfl)) xW_c1 (fun q9 => ?_)
  refine gw_astore_n C dL_remove_11 [(2, .ref q9), (0, .ref aP), (1, .ref ao)] rfl (by decide) rfl ?_
  refine gw_iconst (v := nI 1) C dL_remove_12 rfl ?_
  exact gw_iretH C dL_remove_13
set_option maxHeartbeats 4000000 in
set_option maxRecDepth 100000 in
theorem c_L_remove_T2 (l : Launch) (D : va_G) (cI cJ cO : ClassId) (aP : Nat) (bT bR : Nat → Nat) (aS ao : Nat) (g : Nat → Int64) (t : PS) {t' : PS} (h : fP_remove t = some (.inl (2, t'))) : CtH l D (tysA cI cJ cO) yL_remove wsL_remove ({ frames := 7, cells := 1, slots := 6, locals := 182 } : Room) [.ref aP, .ref ao] ([(ao, .inl (cJ, 1, .inr (.inl g)))] ++ wP cI cJ cO aP bT bR aS t) (some (.int (nI 2))) ([(ao, .inl (cJ, 1, .inr (.inl g)))] ++ wP cI cJ cO aP bT bR aS t') 1 6 := by
  refine CtH_of (own := RL) cL_remove 3 (some .int) [(0, 8, 11, 13), (0, 8, 14, 15)] (by decide +kernel) rfl rfl (Nat.le_of_ble_eq_true rfl) ?_
  intro p e s m args below meth c A C htr XF XH htab
  have w_x := cwV (R := ({ frames := 7, cells := 1, slots := 6, locals := 182 } : Room)) (rm := rmOfX 6 161) (s := s) (args := args) 0 C.1.2.2.2.2 gL_remove_X3_remove rfl rfl rfl hd_X3_remove ⟨(Nat.le_of_ble_eq_true rfl), (Nat.le_of_ble_eq_true rfl)⟩
  show gw_G p l e ({ frames := 7, cells := 1, slots := 6, locals := 182 } : Room) s m args below meth c D A (CtMH D below (some (.int (nI 2))) ([(ao, .inl (cJ, 1, .inr (.inl g)))] ++ wP cI cJ cO aP bT bR aS t') A args s 1 6) 3 0 0 ([(ao, .inl (cJ, 1, .inr (.inl g)))] ++ wP cI cJ cO aP bT bR aS t) [(0, .ref aP), (1, .ref ao)] 0 []
  refine gw_aload_n C dL_remove_0 1 rfl ?_
  refine gw_iconst (v := nI 0) C dL_remove_1 rfl ?_
  refine gw_aload_n C dL_remove_2 0 rfl ?_
  refine gw_catch (E := gw_xn 2) (rest := [.int (nI 0), .ref ao]) (v := [(ao, .inl (cJ, 1, .inr (.inl g)))]) C htr XF (c_X3_remove_T l D cI cJ cO aP bT bR aS t h) w_x 0 2 rfl rfl rfl rfl rfl (Nat.le_of_ble_eq_true rfl) dL_remove_3 ⟨(Nat.le_of_ble_eq_true rfl), (Nat.le_of_ble_eq_true rfl)⟩ rfl [⟨0, 8, 11, 13⟩] ⟨0, 8, 14, 15⟩ [] htab (fun z hz => by rw [List.mem_singleton.mp hz]; exact Or.inr ⟨by decide, gw_xn 1, C.1.2.2.2.2 _ (List.mem_of_getElem? (i := 1) rfl), XH.1⟩) (by decide) (by decide) (C.1.2.2.2.2 (Cond.classLink RL 15 (gw_xn 2)) (List.mem_of_getElem? (i := 2) rfl)) xW_c2 (fun q9 => ?_)
  refine gw_astore_n C dL_remove_14 [(2, .ref q9), (0, .ref aP), (1, .ref ao)] rfl (by decide) rfl ?_
  refine gw_iconst (v := nI 2) C dL_remove_15 rfl ?_
  exact gw_iretH C dL_remove_16
set_option maxHeartbeats 4000000 in
set_option maxRecDepth 100000 in
theorem c_L_pack (l : Launch) (D : va_G) (cI cJ cO : ClassId) (aP : Nat) (bT bR : Nat → Nat) (aS ao : Nat) (g : Nat → Int64) (t : PS) {o : Int32 × PS} (h : fP_pack t = some (.inr o)) : CtH l D (tysA cI cJ cO) yL_pack wsL_pack (rmOf 7 183) [.ref aP, .ref ao] ([(ao, .inl (cJ, 1, .inr (.inl g)))] ++ wP cI cJ cO aP bT bR aS t) (some (.int (nI 0))) ([(ao, .inl (cJ, 1, .inr (.inl (vp_updL g 0 (o.1.toInt64)))))] ++ wP cI cJ cO aP bT bR aS o.2) 0 0 := by
  refine CtH_of (own := RL) cL_pack 3 (some .int) [(0, 8, 11, 15)] (by decide +kernel) rfl rfl (Nat.le_of_ble_eq_true rfl) ?_
  intro p e s m args below meth c A C htr XF XH htab
  have w_x := cwV (R := (rmOf 7 183)) (rm := rmOf 6 161) (s := s) (args := args) 0 C.1.2.2.2.2 gL_pack_X3_pack rfl rfl rfl hd_X3_pack ⟨(Nat.le_of_ble_eq_true rfl), (Nat.le_of_ble_eq_true rfl)⟩
  show gw_G p l e (rmOf 7 183) s m args below meth c D A (CtMH D below (some (.int (nI 0))) ([(ao, .inl (cJ, 1, .inr (.inl (vp_updL g 0 (o.1.toInt64)))))] ++ wP cI cJ cO aP bT bR aS o.2) A args s 0 0) 3 0 0 ([(ao, .inl (cJ, 1, .inr (.inl g)))] ++ wP cI cJ cO aP bT bR aS t) [(0, .ref aP), (1, .ref ao)] 0 []
  refine gw_aload_n C dL_pack_0 1 rfl ?_
  refine gw_iconst (v := nI 0) C dL_pack_1 rfl ?_
  refine gw_aload_n C dL_pack_2 0 rfl ?_
  refine gw_back (st2 := [.int o.1, .int (nI 0), .ref ao]) (v := [(ao, .inl (cJ, 1, .inr (.inl g)))]) (ws' := ([(ao, .inl (cJ, 1, .inr (.inl g)))] ++ wP cI cJ cO aP bT bR aS o.2)) C (run_V (rest := [.int (nI 0), .ref ao]) C (c_X3_pack l D cI cJ cO aP bT bR aS t h) w_x 0 2 rfl rfl rfl rfl rfl (Nat.le_of_ble_eq_true rfl) dL_pack_3 ⟨Nat.zero_le _, Nat.zero_le _⟩) rfl rfl rfl ?_
  refine gw_i2l C dL_pack_6 ?_
  refine gw_last (ws' := ([(ao, .inl (cJ, 1, .inr (.inl (vp_updL g 0 (o.1.toInt64)))))] ++ wP cI cJ cO aP bT bR aS o.2)) C dL_pack_7 0 1 rfl rfl (nI_in (by decide) (by decide)) (by rw [nI_clamp (by decide)]; rfl) ?_
  refine gw_goto (tgt := 14) C dL_pack_8 (by decide) ?_
  refine gw_iconst (v := nI 0) C dL_pack_14 rfl ?_
  exact gw_iretH C dL_pack_15
set_option maxHeartbeats 4000000 in
set_option maxRecDepth 100000 in
theorem c_L_pack_T1 (l : Launch) (D : va_G) (cI cJ cO : ClassId) (aP : Nat) (bT bR : Nat → Nat) (aS ao : Nat) (g : Nat → Int64) (t : PS) {t' : PS} (h : fP_pack t = some (.inl (2, t'))) : CtH l D (tysA cI cJ cO) yL_pack wsL_pack ({ frames := 7, cells := 1, slots := 6, locals := 183 } : Room) [.ref aP, .ref ao] ([(ao, .inl (cJ, 1, .inr (.inl g)))] ++ wP cI cJ cO aP bT bR aS t) (some (.int (nI 1))) ([(ao, .inl (cJ, 1, .inr (.inl g)))] ++ wP cI cJ cO aP bT bR aS t') 1 6 := by
  refine CtH_of (own := RL) cL_pack 3 (some .int) [(0, 8, 11, 15)] (by decide +kernel) rfl rfl (Nat.le_of_ble_eq_true rfl) ?_
  intro p e s m args below meth c A C htr XF XH htab
  have w_x := cwV (R := ({ frames := 7, cells := 1, slots := 6, locals := 183 } : Room)) (rm := rmOfX 6 161) (s := s) (args := args) 0 C.1.2.2.2.2 gL_pack_X3_pack rfl rfl rfl hd_X3_pack ⟨(Nat.le_of_ble_eq_true rfl), (Nat.le_of_ble_eq_true rfl)⟩
  show gw_G p l e ({ frames := 7, cells := 1, slots := 6, locals := 183 } : Room) s m args below meth c D A (CtMH D below (some (.int (nI 1))) ([(ao, .inl (cJ, 1, .inr (.inl g)))] ++ wP cI cJ cO aP bT bR aS t') A args s 1 6) 3 0 0 ([(ao, .inl (cJ, 1, .inr (.inl g)))] ++ wP cI cJ cO aP bT bR aS t) [(0, .ref aP), (1, .ref ao)] 0 []
  refine gw_aload_n C dL_pack_0 1 rfl ?_
  refine gw_iconst (v := nI 0) C dL_pack_1 rfl ?_
  refine gw_aload_n C dL_pack_2 0 rfl ?_
  refine gw_catch (E := gw_xn 2) (rest := [.int (nI 0), .ref ao]) (v := [(ao, .inl (cJ, 1, .inr (.inl g)))]) C htr XF (c_X3_pack_T l D cI cJ cO aP bT bR aS t h) w_x 0 2 rfl rfl rfl rfl rfl (Nat.le_of_ble_eq_true rfl) dL_pack_3 ⟨(Nat.le_of_ble_eq_true rfl), (Nat.le_of_ble_eq_true rfl)⟩ rfl [] ⟨0, 8, 11, 15⟩ [] htab (fun z hz => absurd hz List.not_mem_nil) (by decide) (by decide) (C.1.2.2.2.2 (Cond.classLink RL 15 (gw_xn 2)) (List.mem_of_getElem? (i := 1) rfl)) xW_c2 (fun q9 => ?_)
  refine gw_astore_n C dL_pack_11 [(2, .ref q9), (0, .ref aP), (1, .ref ao)] rfl (by decide) rfl ?_
  refine gw_iconst (v := nI 1) C dL_pack_12 rfl ?_
  exact gw_iretH C dL_pack_13
set_option maxHeartbeats 4000000 in
set_option maxRecDepth 100000 in
theorem c_L_undo (l : Launch) (D : va_G) (cI cJ cO : ClassId) (aP : Nat) (bT bR : Nat → Nat) (aS ao : Nat) (g : Nat → Int64) (q : QS) (v : VS) (n : Nat) (hn : n < 6) (hq : qN q = nI (n + 1)) : CtH l D (tysA cI cJ cO) yL_undo wsL_undo (rmOf 5 131) [.ref aP, .ref ao] ([(ao, .inl (cJ, 1, .inr (.inl g)))] ++ wP cI cJ cO aP bT bR aS (q, v)) (some (.int (nI 0))) ([(ao, .inl (cJ, 1, .inr (.inl (vp_updL g 0 ((nI n).toInt64)))))] ++ wP cI cJ cO aP bT bR aS (sQT (sQN q (nI n)) (v.2 n), v)) 0 0 := by
  refine CtH_of (own := RL) cL_undo 3 (some .int) [(0, 8, 11, 15)] (by decide +kernel) rfl rfl (Nat.le_of_ble_eq_true rfl) ?_
  intro p e s m args below meth c A C htr XF XH htab
  have w_x := cwV (R := (rmOf 5 131)) (rm := rmOf 4 110) (s := s) (args := args) 0 C.1.2.2.2.2 gL_undo_X3_undo rfl rfl rfl hd_X3_undo ⟨(Nat.le_of_ble_eq_true rfl), (Nat.le_of_ble_eq_true rfl)⟩
  show gw_G p l e (rmOf 5 131) s m args below meth c D A (CtMH D below (some (.int (nI 0))) ([(ao, .inl (cJ, 1, .inr (.inl (vp_updL g 0 ((nI n).toInt64)))))] ++ wP cI cJ cO aP bT bR aS (sQT (sQN q (nI n)) (v.2 n), v)) A args s 0 0) 3 0 0 ([(ao, .inl (cJ, 1, .inr (.inl g)))] ++ wP cI cJ cO aP bT bR aS (q, v)) [(0, .ref aP), (1, .ref ao)] 0 []
  refine gw_aload_n C dL_undo_0 1 rfl ?_
  refine gw_iconst (v := nI 0) C dL_undo_1 rfl ?_
  refine gw_aload_n C dL_undo_2 0 rfl ?_
  refine gw_back (st2 := [.int (nI n), .int (nI 0), .ref ao]) (v := [(ao, .inl (cJ, 1, .inr (.inl g)))]) (ws' := ([(ao, .inl (cJ, 1, .inr (.inl g)))] ++ wP cI cJ cO aP bT bR aS (sQT (sQN q (nI n)) (v.2 n), v))) C (run_V (rest := [.int (nI 0), .ref ao]) C (c_X3_undo l D cI cJ cO aP bT bR aS q v n hn hq) w_x 0 2 rfl rfl rfl rfl rfl (Nat.le_of_ble_eq_true rfl) dL_undo_3 ⟨Nat.zero_le _, Nat.zero_le _⟩) rfl rfl rfl ?_
  refine gw_i2l C dL_undo_6 ?_
  refine gw_last (ws' := ([(ao, .inl (cJ, 1, .inr (.inl (vp_updL g 0 ((nI n).toInt64)))))] ++ wP cI cJ cO aP bT bR aS (sQT (sQN q (nI n)) (v.2 n), v))) C dL_undo_7 0 1 rfl rfl (nI_in (by decide) (by decide)) (by rw [nI_clamp (by decide)]; rfl) ?_
  refine gw_goto (tgt := 14) C dL_undo_8 (by decide) ?_
  refine gw_iconst (v := nI 0) C dL_undo_14 rfl ?_
  exact gw_iretH C dL_undo_15
set_option maxHeartbeats 4000000 in
set_option maxRecDepth 100000 in
theorem c_L_undo_T1 (l : Launch) (D : va_G) (cI cJ cO : ClassId) (aP : Nat) (bT bR : Nat → Nat) (aS ao : Nat) (g : Nat → Int64) (q : QS) (v : VS) (hq : qN q = nI 0) : CtH l D (tysA cI cJ cO) yL_undo wsL_undo ({ frames := 7, cells := 1, slots := 6, locals := 131 } : Room) [.ref aP, .ref ao] ([(ao, .inl (cJ, 1, .inr (.inl g)))] ++ wP cI cJ cO aP bT bR aS (q, v)) (some (.int (nI 1))) ([(ao, .inl (cJ, 1, .inr (.inl g)))] ++ wP cI cJ cO aP bT bR aS (q, v)) 1 6 := by
  refine CtH_of (own := RL) cL_undo 3 (some .int) [(0, 8, 11, 15)] (by decide +kernel) rfl rfl (Nat.le_of_ble_eq_true rfl) ?_
  intro p e s m args below meth c A C htr XF XH htab
  have w_x := cwV (R := ({ frames := 7, cells := 1, slots := 6, locals := 131 } : Room)) (rm := rmOfX 6 110) (s := s) (args := args) 0 C.1.2.2.2.2 gL_undo_X3_undo rfl rfl rfl hd_X3_undo ⟨(Nat.le_of_ble_eq_true rfl), (Nat.le_of_ble_eq_true rfl)⟩
  show gw_G p l e ({ frames := 7, cells := 1, slots := 6, locals := 131 } : Room) s m args below meth c D A (CtMH D below (some (.int (nI 1))) ([(ao, .inl (cJ, 1, .inr (.inl g)))] ++ wP cI cJ cO aP bT bR aS (q, v)) A args s 1 6) 3 0 0 ([(ao, .inl (cJ, 1, .inr (.inl g)))] ++ wP cI cJ cO aP bT bR aS (q, v)) [(0, .ref aP), (1, .ref ao)] 0 []
  refine gw_aload_n C dL_undo_0 1 rfl ?_
  refine gw_iconst (v := nI 0) C dL_undo_1 rfl ?_
  refine gw_aload_n C dL_undo_2 0 rfl ?_
  refine gw_catch (E := gw_xn 2) (rest := [.int (nI 0), .ref ao]) (v := [(ao, .inl (cJ, 1, .inr (.inl g)))]) C htr XF (c_X3_undo_T l D cI cJ cO aP bT bR aS q v hq) w_x 0 2 rfl rfl rfl rfl rfl (Nat.le_of_ble_eq_true rfl) dL_undo_3 ⟨(Nat.le_of_ble_eq_true rfl), (Nat.le_of_ble_eq_true rfl)⟩ rfl [] ⟨0, 8, 11, 15⟩ [] htab (fun z hz => absurd hz List.not_mem_nil) (by decide) (by decide) (C.1.2.2.2.2 (Cond.classLink RL 15 (gw_xn 2)) (List.mem_of_getElem? (i := 1) rfl)) xW_c2 (fun q9 => ?_)
  refine gw_astore_n C dL_undo_11 [(2, .ref q9), (0, .ref aP), (1, .ref ao)] rfl (by decide) rfl ?_
  refine gw_iconst (v := nI 1) C dL_undo_12 rfl ?_
  exact gw_iretH C dL_undo_13
