/-! THE CLAIM OUT OF ONE WALK OF THE LAW'S BODY. Your part is whole_start (and what it stands on); all else here is the same for every law, but numbers. -/
def R_law : String := "PackedWordsLaw"
def lw_P (b : Addr) (xs : List Int32) (args : Array Value) (s : State) : Prop := args = #[.ref b] ∧ s.IntsAt b xs ∧ xs.length ≤ 1536 ∧ (Jvm.Cond.and given_1 narrow_1).before args s = true
/-- what a walk over the start with the record d0 says of its end, said of the start itself -/
theorem lw_closed {s t : State} {o : Outcome} {d0 : Drawn} {L : List Loc} {k n : Nat} (hd0 : s.drawn.sameBut d0 lw_cs) (hv : ∃ v, o = .returned v) (hW : (s.setDrawn d0).WarmedH t.vm) (hs : (s.setDrawn d0).sameButNew ({ t with vm := s.vm } : State) L k n) : State.butDraws s t lw_cs (fun t1 => Framed s o t1 L k n) := by
  have h2 : t.drawn = d0 := congrArg State.drawn hs.1
  refine ⟨⟨hv, hW, State.sameButNew.setDrawn hs s.drawn⟩, ?_, by decide⟩
  rw [h2]
  exact hd0
def lw_Q (_ : Array Value) (s : State) (o : Outcome) (t : State) : Prop := o = .returned (some (.int 1)) ∧ State.butDraws s t lw_cs (fun t1 => Framed s o t1 [] 601024 7293034)
def lw_Z (below : List Frame) (a : Array Value) (s : State) : State → Prop := fun t => ∃ o, t.status = .running ∧ Ended t below o ∧ lw_Q a s o t
/-- the law's own end, with 1 on the stack, nothing written that was there before, its room as the claim has it; d0: the record of draws at this point (at the entry s.drawn: begin with 'refine W.base ?_' and 'have hd0 := Drawn.sameBut.refl s.drawn lw_cs') -/
theorem lw_ret {p : Program} {l : Launch} {e : Env} {s : State} {m : MethodId} {below : List Frame} {meth : Method} {c : Code} {b : Nat} {d0 : Drawn} (hd0 : s.drawn.sameBut d0 lw_cs) (hx : p.tables.exec = Jvm.exec) (hb : c.code = code) (hr : meth.sig.returnType = ret) (hlocks : meth.locks = false) {pc : Nat} {H : Heap} {ls : Array Slot} (hdg : decode code pc = .ok (.ireturn, 1)) : W p l e room_1 (s.setDrawn d0) m #[Value.ref b] below meth c H [] 601024 7293034 (lw_Z below #[Value.ref b] s) (F0 m pc ls [.int 1]) := by
  intro T hT X
  obtain ⟨fs, hret, hrun, hended, hW, hframe⟩ := X.leave (v := some (.int 1)) (hlocks := hlocks) (fun h => by rw [hr] at h; cases h)
  have hmeth' : T.vm.method? m = some meth := X.method'
  refine ⟨T.setFrames fs, ?_, .returned (some (.int 1)), hrun, hended, rfl, lw_closed hd0 ⟨_, rfl⟩ hW hframe⟩
  jvm_step X.here [X.here.top, hx, hb, hdg, hmeth', hr, ret, narrow_b1]
  (try refine ⟨rfl, ?_⟩); (try refine ⟨rfl, ?_⟩)
  first | (intro acts; rw [hret _ acts rfl rfl rfl]) | rw [hret _ _ rfl rfl rfl]
  exact Steps.refl _
/-- what holds at the law's entry: the machine, the code, the tables' words (any of lw_tbl by 'hts w (by decide +kernel)'), the script of L ints xs at the cell b, what the Statement gives of the start (any of its parts by flat_of_before) -/
def lw_At (p : Program) (s : State) (m : MethodId) (meth : Method) (c : Code) (b L : Nat) (xs : Nat → Int32) : Prop :=
  p.tables.exec = Jvm.exec ∧ c.code = code ∧ meth.sig.returnType = ret ∧ c.maxLocals = 9 ∧ s.vm.findClass R_law = some m.cls ∧ (∀ w ∈ lw_tbl, w.before #[Value.ref b] s = true) ∧ va_X b L xs s s.heap ∧ b < s.heap.size ∧ meth.locks = false ∧ (Jvm.Cond.and given_1 narrow_1).before #[Value.ref b] s = true
set_option maxRecDepth 100000 in
theorem in_nest : ∀ w ∈ nestW, w ∈ lw_tbl := by
  intro w hw
  simp only [nestW, List.mem_cons, List.not_mem_nil, or_false] at hw
  rcases hw with rfl | rfl | rfl | rfl | rfl | rfl | rfl <;> decide +kernel
set_option maxRecDepth 100000 in
theorem in_xW : ∀ w ∈ xW, w ∈ lw_tbl := by decide +kernel
set_option maxRecDepth 100000 in
theorem in_str : ∀ q ∈ strW, Cond.stringRef q.1 q.2.1 q.2.2 ∈ lw_tbl := by decide +kernel
set_option maxRecDepth 100000 in
theorem str_ex {args : Array Value} {s : State} (hs : ∀ w ∈ flatC (Jvm.Cond.and given_1 narrow_1), w.before args s = true) : ∀ q ∈ strW, (Cond.exactly (Term.string q.1 q.2.1) "java/lang/String").before args s = true := by
  intro q hq
  simp only [strW, List.mem_cons, List.not_mem_nil, or_false] at hq
  rcases hq with rfl | rfl | rfl | rfl | rfl | rfl | rfl | rfl | rfl | rfl | rfl | rfl | rfl | rfl | rfl | rfl | rfl <;> exact hs _ (by decide +kernel)
theorem ent_arr {s : State} {args : Array Value} {ty : FieldType} (h : (Cond.arrayClass ty).before args s = true) : ∃ cA, ArrOfT s cA ty ∧ s.vm.findClass ("[" ++ ty.toString) = some cA := by
  obtain ⟨cA, kA, comp, h1, h2, h3⟩ := Cond.arrayClass_spec h
  exact ⟨cA, fun n z => ⟨(fun k h => by cases h), kA, h2, comp, h3⟩, h1⟩
theorem ent_ao {s : State} {args : Array Value} {Cn : String} (h : (Cond.arrayOver (.object Cn)).before args s = true) : ∃ cA, ArrOfT s cA (.object Cn) ∧ va_RA s cA (.object Cn) := by
  obtain ⟨comp, cA, kA, h1, h2, h3, h4, h5⟩ := Cond.arrayOver_spec h
  exact ⟨cA, fun n z => ⟨(fun k h => by cases h), kA, h3, comp, h4⟩, kA, comp, h3, h4, h1, h5⟩
theorem iL_X3 : ∀ w ∈ u_ws RX3 TX3 6, w ∈ wsL_law := fun w h => (ggL_law_X3_init w (List.mem_cons_of_mem _ (List.mem_append_left _ (List.mem_append_right _ h)))).1
theorem iL_X1 : ∀ w ∈ u_ws RX1 TX1 9, w ∈ wsL_law := fun w h => (ggL_law_X3_init w (List.mem_cons_of_mem _ (List.mem_append_left _ (List.mem_append_left _ (List.mem_append_right _ h))))).1
theorem iL_X4 : ∀ w ∈ u_ws RX4 TX4 16, w ∈ wsL_law := fun w h => (ggL_law_X4_init w (List.mem_cons_of_mem _ (List.mem_append_right _ h))).1
theorem iL_X0 : ∀ w ∈ u_ws RX0 TX0 2, w ∈ wsL_law := fun w h => (ggL_law_X3_init w (List.mem_cons_of_mem _ (List.mem_append_right _ h))).1
theorem law_end {p : Program} {l : Launch} {e : Env} {s : State} {m : MethodId} {below : List Frame} {meth : Method} {c : Code} {b : Nat} {D : va_G} {cI cJ cO : ClassId} {rt : Option FieldType} (C : Cx p s m #[Value.ref b] meth c cL_law 9 wsL_law RL D (tysA cI cJ cO) (fun q : Nat => s.heap.size ≤ q) rt) (hr : meth.sig.returnType = ret) {ws : va_W} {lv : List (Nat × Value)} :
    gw_G p l e room_1 s m #[Value.ref b] below meth c D (fun q : Nat => s.heap.size ≤ q) (lw_Z below #[Value.ref b] s) 9 601024 7293034 ws lv 948 [] := by
  refine gw_iconst (v := 1) C dL_law_948 (by decide) ?_
  intro H locs ls hP hD hS hl
  exact va_forget (fun q hq => hS.2.2 q hq) (W.base (lw_ret (Drawn.sameBut.refl s.drawn lw_cs) C.1.1 C.1.2.1 hr C.2.2.2.1 dL_law_949))
set_option maxHeartbeats 8000000 in
set_option maxRecDepth 100000 in
/-- THE LAW, from its entry -/
theorem whole_start {p : Program} {e : Env} {s : State} {m : MethodId} {below : List Frame} {meth : Method} {c : Code} (l : Launch) (hflags : l.flags = flags0) {b L : Nat} {xs : Nat → Int32} (hL : L ≤ 1536) (C0 : lw_At p s m meth c b L xs) : W p l e room_1 s m #[Value.ref b] below meth c s.heap [] 0 0 (lw_Z below #[Value.ref b] s) (entryFrame m ([Value.ref b] : List Value).toArray 9) := by
  obtain ⟨hx, hb, hr, hml, hown, hts, hX, hbl, hlocks, hgv⟩ := id C0
  have hs := flat_of_before _ hgv
  have hbA : ¬ (fun q : Nat => s.heap.size ≤ q) b := Nat.not_le.mpr hbl
  have hAo : ∀ q : Nat, q < s.heap.size → ¬ (fun q : Nat => s.heap.size ≤ q) q := fun q h => Nat.not_le.mpr h
  have htL : ∀ w ∈ wsL_law, w.before #[Value.ref b] s = true := fun w h => hts w (wsL_law_in w h)
  have htr : l.stackTraces = false := by
    show l.stackTraces = false
    unfold Launch.stackTraces
    rw [hflags]
    decide
  obtain ⟨c0, iS0, hKn0⟩ := u_known (C := RX0) (T := TX0) (N := 2) (n := 2) htL iL_X0 (hts (.instantiable RX0 2) (by decide +kernel))
  obtain ⟨c1, iS1, hKn1⟩ := u_known (C := RX1) (T := TX1) (N := 9) (n := 9) htL iL_X1 (hts (.instantiable RX1 9) (by decide +kernel))
  obtain ⟨c3, iS3, hKn3⟩ := u_known (C := RX3) (T := TX3) (N := 6) (n := 6) htL iL_X3 (hts (.instantiable RX3 6) (by decide +kernel))
  obtain ⟨c4, iS4, hKn4⟩ := u_known (C := RX4) (T := TX4) (N := 16) (n := 16) htL iL_X4 (hts (.instantiable RX4 16) (by decide +kernel))
  obtain ⟨cI, hI1, hI2⟩ := ent_arr (hts (.arrayClass .int) (by decide +kernel))
  obtain ⟨cJ, hJ1, hJ2⟩ := ent_arr (hts (.arrayClass .long) (by decide +kernel))
  obtain ⟨cO, hO1, hO2⟩ := ent_ao (hts (.arrayOver (.object "PackedWords$Table")) (by decide +kernel))
  have hao : va_AO "PackedWords$Table" s := va_AO.of (hts (.arrayOver (.object "PackedWords$Table")) (by decide +kernel))
  obtain ⟨D, hKc⟩ : ∃ D : va_G, ∀ (k : Nat) (q : vw_C), vwCl[k]? = some q → u_Kn s q.1 q.2.1 q.2.2 (D.1 k) (D.2 k) := by
    refine ⟨(fun k => if k = 0 then c0 else if k = 1 then c1 else if k = 2 then c3 else c4, fun k => if k = 0 then iS0 else if k = 1 then iS1 else if k = 2 then iS3 else iS4), ?_⟩
    intro k q hq
    match k, hq with
    | 0, hq => obtain rfl : (RX0, TX0, 2) = q := Option.some.inj hq; exact hKn0
    | 1, hq => obtain rfl : (RX1, TX1, 9) = q := Option.some.inj hq; exact hKn1
    | 2, hq => obtain rfl : (RX3, TX3, 6) = q := Option.some.inj hq; exact hKn3
    | 3, hq => obtain rfl : (RX4, TX4, 16) = q := Option.some.inj hq; exact hKn4
    | k + 4, hq => simp [vwCl] at hq
  have hK : va_K D vwCl (tysA cI cJ cO) s := ⟨hKc, fun k q h => by
    match k, h with
    | 0, h => obtain rfl : (cI, FieldType.int) = q := Option.some.inj h; exact ⟨hI1, hI2⟩
    | 1, h => obtain rfl : (cJ, FieldType.long) = q := Option.some.inj h; exact ⟨hJ1, hJ2⟩
    | 2, h => obtain rfl : (cO, FieldType.object "PackedWords$Table") = q := Option.some.inj h; exact ⟨hO1, hO2⟩
    | k + 3, h => simp [tysA] at h⟩
  have C : Cx p s m #[Value.ref b] meth c cL_law 9 wsL_law RL D (tysA cI cJ cO) (fun q : Nat => s.heap.size ≤ q) ret := ⟨⟨hx, hb, hml, hown, htL⟩, hK, fun _ h => h, hlocks, hr, fun w h => va_Nw.of (nestW_ot w h) (hts w (in_nest w h))⟩
  have XF : Xf0 s (fun q : Nat => s.heap.size ≤ q) := by
    refine ⟨vx_Zqof (hts (.laysStatic Bundle.tN "UNASSIGNED_STACK" Bundle.steD) (by decide +kernel)) (hts (.initialized Bundle.tN) (by decide +kernel)) (hs (.isRef (.static Bundle.tN "UNASSIGNED_STACK" Bundle.steD)) (by decide +kernel)) hAo, vx_Zqof (hts (.laysStatic Bundle.tN "SUPPRESSED_SENTINEL" Bundle.listD) (by decide +kernel)) (hts (.initialized Bundle.tN) (by decide +kernel)) (hs (.isRef (.static Bundle.tN "SUPPRESSED_SENTINEL" Bundle.listD)) (by decide +kernel)) hAo, fun q hq => ?_, fun w hw => va_Nw.of (xW_ot w hw) (hts w (in_xW w hw))⟩
    obtain ⟨a, c, cA, kA, q1, -⟩ := Cond.exactly_spec (args := #[Value.ref b]) (first := s) (o := none) (s := s) (idx := []) (str_ex hs q hq)
    exact ⟨a, vk_R.of (hts _ (in_str q hq)) q1⟩
  have XH : xfH s := ⟨va_Nc.of (hs (.not (.castable (gw_xn 2) (gw_xn 1))) (by decide +kernel)), va_Nc.of (hs (.not (.castable (gw_xn 1) (gw_xn 3))) (by decide +kernel))⟩
  have hS : va_S (fun q : Nat => s.heap.size ≤ q) s.heap s.heap [] := va_S.rf
  have hP : va_P D vwCl [] s.heap := fun k q h => by simp at h
  have hD : va_D (fun q : Nat => s.heap.size ≤ q) [] := ⟨fun i j p q h => by simp at h, fun k q h => by simp at h⟩
  have hl := lv_entry ([.ref b]) (n := 9) (Nat.le_of_ble_eq_true rfl)
  rw [lg_entry_eq]
  generalize (lg_sl ([.ref b]) ++ List.replicate (9 - (lg_sl ([.ref b])).length) Slot.unset).toArray = ls at hl ⊢
  have hl : lv_has ls 9 [(0, .ref b)] := hl
  obtain ⟨o, ho, hRl⟩ := s_start
  refine (?_ : gw_G p l e room_1 s m #[Value.ref b] below meth c D (fun q : Nat => s.heap.size ≤ q) (lw_Z below #[Value.ref b] s) 9 0 0 [] [(0, .ref b)] 0 []) s.heap [] ls hP hD hS hl
  have w_3 : CallB room_1 s #[Value.ref b] RL 54 yX3_init cX3_init 2 none wsX3_init (rmOfE 3 89 9694 54) 89 9694 0 ∧ yX3_init.name = "<init>" ∧ (Cond.instanceMethod yX3_init).before #[Value.ref b] s = true := cwI 0 C.1.2.2.2.2 gL_law_X3_init rfl rfl rfl (hts (.initialized RX3) (by decide +kernel)) (hts (.methodLink RL 54 yX3_init) (by decide +kernel)) (hts (.instanceMethod yX3_init) (by decide +kernel)) rfl hd_X3_init ⟨Nat.le_of_ble_eq_true rfl, Nat.le_of_ble_eq_true rfl⟩
  have w_4 : CallB room_1 s #[Value.ref b] RL 57 yX4_init cX4_init 1 none wsX4_init (rmOfE 2 9 13177 50) 9 13177 0 ∧ yX4_init.name = "<init>" ∧ (Cond.instanceMethod yX4_init).before #[Value.ref b] s = true := cwI 0 C.1.2.2.2.2 gL_law_X4_init rfl rfl rfl (hts (.initialized RX4) (by decide +kernel)) (hts (.methodLink RL 57 yX4_init) (by decide +kernel)) (hts (.instanceMethod yX4_init) (by decide +kernel)) rfl hd_X4_init ⟨Nat.le_of_ble_eq_true rfl, Nat.le_of_ble_eq_true rfl⟩
  have m1 : Cond.classLink RL 8 RX3 ∈ wsL_law := by decide +kernel
  have m2 : Cond.instantiable RX3 6 ∈ wsL_law := by decide +kernel
  have m3 : Cond.initialized RX3 ∈ wsL_law := by decide +kernel
  have m4 : Cond.classLink RL 55 RX4 ∈ wsL_law := by decide +kernel
  have m5 : Cond.instantiable RX4 16 ∈ wsL_law := by decide +kernel
  have m6 : Cond.initialized RX4 ∈ wsL_law := by decide +kernel
  have m7 : Cond.arrayClass .long ∈ wsL_law := by decide +kernel
  refine gw_new (Cn := RX3) (T := TX3) (N := 6) C 2 [.null, .null, .null, .int 0, .long 0, .int 0] dL_law_0 iL_X3 tyX3 tyX3_ok m1 m2 m3 rfl (fun j hj => by rcases (show j = 0 ∨ j = 1 ∨ j = 2 ∨ j = 3 ∨ j = 4 ∨ j = 5 by omega) with rfl | rfl | rfl | rfl | rfl | rfl <;> rfl) (Nat.le_of_ble_eq_true rfl) (Nat.le_of_ble_eq_true rfl) (fun q0 => ?_)
  refine gw_dup C dL_law_3 rfl ?_
  refine gw_callE (u := []) (W0 := [(q0, .inr (2, [.null, .null, .null, .int 0, .long 0, .int 0]))]) C hao dL_law_4 (c_X3_init l D cI cJ cO q0) w_3 rfl (Nat.le_of_ble_eq_true rfl) ⟨Nat.le_of_ble_eq_true rfl, Nat.le_of_ble_eq_true rfl⟩ (fun W1 hW1 => ?_)
  obtain ⟨bT, bR, aS, ad, rfl⟩ := hW1
  refine gw_astore_n (lv' := [(1, .ref q0), (0, .ref b)]) C dL_law_7 rfl (by decide) rfl ?_
  refine gw_new (Cn := RX4) (T := TX4) (N := 16) C 3 [.int 0, .null, .null, .int 0, .null, .null, .int 0, .null, .int 0, .null, .null, .int 0, .int 0, .null, .null, .long 0] dL_law_8 iL_X4 tyX4 tyX4_ok m4 m5 m6 rfl (fun j hj => by rcases (show j = 0 ∨ j = 1 ∨ j = 2 ∨ j = 3 ∨ j = 4 ∨ j = 5 ∨ j = 6 ∨ j = 7 ∨ j = 8 ∨ j = 9 ∨ j = 10 ∨ j = 11 ∨ j = 12 ∨ j = 13 ∨ j = 14 ∨ j = 15 by omega) with rfl | rfl | rfl | rfl | rfl | rfl | rfl | rfl | rfl | rfl | rfl | rfl | rfl | rfl | rfl | rfl <;> rfl) (Nat.le_of_ble_eq_true rfl) (Nat.le_of_ble_eq_true rfl) (fun q1 => ?_)
  refine gw_dup C dL_law_11 rfl ?_
  refine gw_callE (u := [] ++ wP cI cJ cO q0 bT bR aS ((newT, newT, 0, 0, 0), (ad, fun _ => newT))) (W0 := [(q1, .inr (3, [.int 0, .null, .null, .int 0, .null, .null, .int 0, .null, .int 0, .null, .null, .int 0, .int 0, .null, .null, .long 0]))]) C hao dL_law_12 (c_X4_init l D cI cJ cO q1 ho) w_4 rfl (Nat.le_of_ble_eq_true rfl) ⟨Nat.le_of_ble_eq_true rfl, Nat.le_of_ble_eq_true rfl⟩ (fun W1 hW1 => ?_)
  obtain ⟨a, o2, ho2, rfl, rfl⟩ := hW1
  have eo : o2 = o := Option.some.inj (ho2.symm.trans ho)
  subst eo
  refine gw_astore_n (lv' := [(2, .ref (a 0)), (1, .ref q0), (0, .ref b)]) C dL_law_15 rfl (by decide) rfl ?_
  refine gw_iconst (v := nI 1) C dL_law_16 rfl ?_
  refine gw_newl C 1 dL_law_17 m7 (nI_pos (by decide)) (nI_clamp (by decide)) rfl (Nat.le_of_ble_eq_true rfl) (Nat.le_of_ble_eq_true rfl) (fun ao => ?_)
  refine gw_astore_n (lv' := [(3, .ref ao), (2, .ref (a 0)), (1, .ref q0), (0, .ref b)]) C dL_law_19 rfl (by decide) rfl ?_
  refine gw_iconst (v := nI 0) C dL_law_20 rfl ?_
  refine gw_istore (lv' := [(4, .int (nI 0)), (3, .ref ao), (2, .ref (a 0)), (1, .ref q0), (0, .ref b)]) C dL_law_21 (by decide) rfl ?_
  refine gw_sub [4, 3, 2, 1, 0] rfl ?_
  refine gw_perm0 (ws' := wL cI cJ cO ao (fun _ => 0) q0 bT bR aS ((newT, newT, 0, 0, 0), (ad, fun _ => newT)) a o2) List.perm_append_comm ?_
  refine gw_wide (cells2 := 200 + 0) (slots2 := 30000 + 6 * 0) (Nat.le_of_ble_eq_true rfl) (Nat.le_of_ble_eq_true rfl) ?_
  exact law_loop C htr XF XH hL hX hbl hbA (fun g q mm i => law_end C hr) (L + 1) 0 (by omega) (Nat.zero_le L) (fun _ => 0) _ _ (hRl ad)
