/-! constructors: what they make -/
def QcE (D : va_G) (Post : va_W → Prop) (A : Nat → Prop) : Array Value → State → Outcome → State → Prop := fun _ st oc t => (oc = .returned none ∧ ∃ W1, Post W1 ∧ va_P D vwCl W1 t.heap ∧ va_D A W1) ∧ va_F A st t
def CtPE (D : va_G) (tys : List (ClassId × FieldType)) (av : List Value) (W0 : va_W) (sz : Nat) : Array Value → State → Prop := fun a U => CtP D tys av W0 sz a U ∧ va_AO "PackedWords$Table" U
def CtE (l : Launch) (D : va_G) (tys : List (ClassId × FieldType)) (y : MethodName) (ws : List Cond) (rm : Room) (av : List Value) (W0 : va_W) (Post : va_W → Prop) (mc ms : Nat) : Prop :=
  ∀ sz : Nat, Met l y ws rm (CtPE D tys av W0 sz) (QcE D Post (va_A W0 sz)) mc ms (va_A W0 sz)
def rmOfE (f mc ms lo : Nat) : Room := { frames := f, cells := mc, slots := ms, locals := lo }
abbrev CtME (D : va_G) (below : List Frame) (Post : va_W → Prop) (A : Nat → Prop) (args : Array Value) (s : State) (mc ms : Nat) : State → Prop := MQ below (QcE D Post A) args s mc ms A
theorem CtPE_blind (D : va_G) (tys : List (ClassId × FieldType)) (av : List Value) (W0 : va_W) (sz : Nat) : FrameBlind (CtPE D tys av W0 sz) := fun a U g mk q => ⟨CtP_blind D tys av W0 sz a U g mk q.1, va_AO.moved (u := U) (U := U.calling g mk a) (Vm.Alike.refl U.vm) q.2⟩
theorem CtE_of {l : Launch} {own : String} {D : va_G} {tys : List (ClassId × FieldType)} {y : MethodName} {wsy ws' : List Cond} {f lo mc ms : Nat} {av : List Value} {W0 : va_W} {Post : va_W → Prop} (cc : ByteArray) (nL : Nat) (hy : plainName y.cls = true) (hown : y.cls = own) (hw : wsy = Cond.code y cc nL none :: ws') (hlen : (lg_sl av).length ≤ nL)
    (body : ∀ p e s m args below meth c (A : Nat → Prop), Cx p s m args meth c cc nL wsy own D tys A none → va_AO "PackedWords$Table" s → (meth.name = y.name) → gw_G p l e (rmOfE f mc ms lo) s m args below meth c D A (CtME D below Post A args s mc ms) nL 0 0 W0 (lv_args 0 av) 0 []) : CtE l D tys y wsy (rmOfE f mc ms lo) av W0 Post mc ms := by
  intro sz
  refine Met.ofW (cc := cc) (maxL := nL) (ret := none) hy hw ?_
  subst hown
  intro p e s m args below meth c s₁ B hml hv
  obtain ⟨⟨rfl, hsz, hP, hK, hD0⟩, hX⟩ := hv
  have hts := atoms_spec (ws := wsy) B.pre
  have hown : s.vm.findClass y.cls = some m.cls := findClass_of_methodNamed B.named
  have hnm : meth.name = y.name := (name_of_methodNamed B.named B.method).1
  subst hsz
  rw [lg_entry_eq]
  exact body p e s m av.toArray below meth c (va_A W0 s.heap.size) ⟨⟨B.exec, B.bytes, hml, hown, hts⟩, hK.1, fun q h => Or.inr h, B.notSynchronized, B.returns, hK.2⟩ hX hnm s.heap [] _ hP (hD0.self (sz := s.heap.size)) va_S.rf (lv_entry av hlen)
theorem gw_rai {U : State} {cA cB : ClassId} (h1 : va_RA U cA .int) (h2 : va_RA U cB .int) : cA = cB := Option.some.inj (Eq.trans (Eq.symm h1) h2)
theorem gw_ral {U : State} {cA cB : ClassId} (h1 : va_RA U cA .long) (h2 : va_RA U cB .long) : cA = cB := Option.some.inj (Eq.trans (Eq.symm h1) h2)
theorem gw_rao {U : State} {cA cB : ClassId} {E : String} (h1 : va_RA U cA (.object E)) (h2 : va_RA U cB (.object E)) : cA = cB := by
  obtain ⟨_, _, _, _, _, h3⟩ := h1
  obtain ⟨_, _, _, _, _, h4⟩ := h2
  exact Option.some.inj (h3.symm.trans h4)
section GC
variable {p : Program} {l : Launch} {e : Env} {R : Room} {s : State} {m : MethodId} {args : Array Value} {below : List Frame} {meth : Method} {c : Code} {D : va_G} {A : Nat → Prop} {Q : State → Prop} {nL cells slots : Nat} {ws : va_W} {lv lv' : List (Nat × Value)} {pc : Nat} {st : List Value}
variable {cc : ByteArray} {Ts : List Cond} {own : String} {rt : Option FieldType} {cI cJ cO : ClassId}
theorem gw_oinit (C : Cx p s m args meth c cc nL Ts own D (tysA cI cJ cO) A rt) {idx b : Nat} (d : decode cc pc = .ok (.invokespecial idx, 3)) (h1 : Cond.methodLink own idx objectInit ∈ Ts) (h2 : Cond.instanceMethod objectInit ∈ Ts) (h3 : Cond.code objectInit ⟨#[0xb1]⟩ 1 none ∈ Ts) (hf : 1 ≤ R.frames) (hlo : (st.map fun v => v.category).sum + 12 ≤ R.locals) (k : gw_G p l e R s m args below meth c D A Q nL cells slots ws lv (pc + 3) st) : gw_G p l e R s m args below meth c D A Q nL cells slots ws lv pc (.ref b :: st) :=
  fun H locs ls hP hD hS hl => W.objInit C.1.1 C.1.2.1 C.1.2.2.2.1 (C.1.2.2.2.2 _ h1) (C.1.2.2.2.2 _ h2) (C.1.2.2.2.2 _ h3) rfl (hl.1.trans C.1.2.2.1.symm) rfl d hf (by show 2 * 0 + _ + 12 ≤ _; omega) (k H locs ls hP hD hS hl)
theorem gw_newi (C : Cx p s m args meth c cc nL Ts own D (tysA cI cJ cO) A rt) {n : Int32} (N : Nat) (d : decode cc pc = .ok (.newarray .int, 2)) (ha : Cond.arrayClass .int ∈ Ts) (hn : ¬ n < 0) (hN : n.toNatClampNeg = N) (hb : Nat.ble (N * 4) 536870912 = true) (hc : cells + 1 ≤ R.cells) (hs : slots + N ≤ R.slots) (k : ∀ q : Nat, gw_G p l e R s m args below meth c D A Q nL (cells + 1) (slots + N) (ws ++ [(q, .inl (cI, N, .inl (fun _ => 0)))]) lv (pc + 2) (.ref q :: st)) : gw_G p l e R s m args below meth c D A Q nL cells slots ws lv pc (.int n :: st) :=
  fun H locs ls hP hD hS hl => va_newa (atype := .int) C.1.1 C.1.2.1 (C.1.2.2.2.2 _ ha) (ty := .int) rfl C.2.1 hP hD hS C.2.2.1 (a0 := (N, .inl (fun _ => 0))) (fun cA => rfl) hn hN (Nat.le_of_ble_eq_true hb) hc hs d (fun q cA H1 hK1 hP1 hD1 hS1 => by
    have e : cA = cI := gw_rai (hK1.2 3 (cA, .int) rfl).2 (C.2.1.2 0 (cI, .int) rfl).2
    subst e
    exact k q H1 locs ls hP1 hD1 hS1 hl)
theorem gw_newl (C : Cx p s m args meth c cc nL Ts own D (tysA cI cJ cO) A rt) {n : Int32} (N : Nat) (d : decode cc pc = .ok (.newarray .long, 2)) (ha : Cond.arrayClass .long ∈ Ts) (hn : ¬ n < 0) (hN : n.toNatClampNeg = N) (hb : Nat.ble (N * 8) 536870912 = true) (hc : cells + 1 ≤ R.cells) (hs : slots + N ≤ R.slots) (k : ∀ q : Nat, gw_G p l e R s m args below meth c D A Q nL (cells + 1) (slots + N) (ws ++ [(q, .inl (cJ, N, .inr (.inl (fun _ => 0))))]) lv (pc + 2) (.ref q :: st)) : gw_G p l e R s m args below meth c D A Q nL cells slots ws lv pc (.int n :: st) :=
  fun H locs ls hP hD hS hl => va_newa (atype := .long) C.1.1 C.1.2.1 (C.1.2.2.2.2 _ ha) (ty := .long) rfl C.2.1 hP hD hS C.2.2.1 (a0 := (N, .inr (.inl (fun _ => 0)))) (fun cA => rfl) hn hN (Nat.le_of_ble_eq_true hb) hc hs d (fun q cA H1 hK1 hP1 hD1 hS1 => by
    have e : cA = cJ := gw_ral (hK1.2 3 (cA, .long) rfl).2 (C.2.1.2 1 (cJ, .long) rfl).2
    subst e
    exact k q H1 locs ls hP1 hD1 hS1 hl)
theorem gw_newq (C : Cx p s m args meth c cc nL Ts own D (tysA cI cJ cO) A rt) (hao : va_AO "PackedWords$Table" s) {n : Int32} {index : Nat} (N : Nat) (d : decode cc pc = .ok (.anewarray index, 3)) (hcl : Cond.classLink own index "PackedWords$Table" ∈ Ts) (hn : ¬ n < 0) (hN : n.toNatClampNeg = N) (hb : Nat.ble (N * 4) 536870912 = true) (hc : cells + 1 ≤ R.cells) (hs : slots + N ≤ R.slots) (k : ∀ q : Nat, gw_G p l e R s m args below meth c D A Q nL (cells + 1) (slots + N) (ws ++ [(q, .inl (cO, N, .inr (.inr (.inr (.inr (fun _ => none))))))]) lv (pc + 3) (.ref q :: st)) : gw_G p l e R s m args below meth c D A Q nL cells slots ws lv pc (.int n :: st) :=
  fun H locs ls hP hD hS hl => va_newq C.1.1 C.1.2.1 C.1.2.2.2.1 (C.1.2.2.2.2 _ hcl) hao C.2.1 hP hD hS C.2.2.1 hn hN (Nat.le_of_ble_eq_true hb) hc hs d (fun q cA H1 hK1 hP1 hD1 hS1 => by
    have e : cA = cO := gw_rao (hK1.2 3 (cA, .object "PackedWords$Table") rfl).2 (C.2.1.2 2 (cO, .object "PackedWords$Table") rfl).2
    subst e
    exact k q H1 locs ls hP1 hD1 hS1 hl)
theorem gw_new (C : Cx p s m args meth c cc nL Ts own D (tysA cI cJ cO) A rt) {index : Nat} {Cn : String} {T : u_T} {N : Nat} (ci : Nat) (fs : List Value) (d : decode cc pc = .ok (.new index, 3)) (hin : ∀ w ∈ u_ws Cn T N, w ∈ Ts) (ty : Nat → FieldType) (hty : ∀ k, k < N → parseFieldDescriptor (T k).2.2.1 = some (ty k)) (h1 : Cond.classLink own index Cn ∈ Ts) (h2 : Cond.instantiable Cn N ∈ Ts) (h3 : Cond.initialized Cn ∈ Ts) (hc : vwCl[ci]? = some (Cn, T, N)) (hfs : ∀ j, j < N → defaultValue (ty j) = vp_V fs j) (hcl : cells + 1 ≤ R.cells) (hsl : slots + N ≤ R.slots) (k : ∀ q : Nat, gw_G p l e R s m args below meth c D A Q nL (cells + 1) (slots + N) (ws ++ [(q, .inr (ci, fs))]) lv (pc + 3) (.ref q :: st)) : gw_G p l e R s m args below meth c D A Q nL cells slots ws lv pc st :=
  fun H locs ls hP hD hS hl => va_new C.1.1 C.1.2.1 C.1.2.2.2.2 hin ty hty C.1.2.2.2.1 (C.1.2.2.2.2 _ h1) (C.1.2.2.2.2 _ h2) (C.1.2.2.2.2 _ h3) C.2.1 hP hD hS C.2.2.1 hc hfs hcl hsl d (fun q H1 hP1 hD1 hS1 => k q H1 locs ls hP1 hD1 hS1 hl)
theorem gw_putF (C : Cx p s m args meth c cc nL Ts own D (tysA cI cJ cO) A rt) (hin2 : meth.name = "<init>") {index : Nat} (d : decode cc pc = .ok (.putfield index, 3)) (q0 ci k0 : Nat) {a : Nat} {Cn : String} {T : u_T} {N : Nat} {fs : List Value} {v : Value} {ws' : va_W} (ty0 : Nat → FieldType) (hty : ∀ k, k < N → parseFieldDescriptor (T k).2.2.1 = some (ty0 k)) (hnm : ∀ a, a < N → ∀ b, b < N → a ≠ b → (T a).2.1 ≠ (T b).2.1) (he : ws[q0]? = some (a, .inr (ci, fs))) (hc : vwCl[ci]? = some (Cn, T, N)) (hin : ∀ w ∈ u_ws Cn T N, w ∈ Ts) (hk : k0 < N) (hlk : Cond.fieldLink own index (T k0).1 (T k0).2.1 (T k0).2.2.1 ∈ Ts) (hfin : (T k0).2.2.2 = true) (hdecl : (T k0).1 = own) {ty : FieldType} (hd : parseFieldDescriptor (T k0).2.2.1 = some ty) (hn : narrow ty v = v) (hfit : fits ty v = true) (hlen : k0 < fs.length) (hset : ws.set q0 (a, .inr (ci, fs.set k0 v)) = ws') (k : gw_G p l e R s m args below meth c D A Q nL cells slots ws' lv (pc + 3) st) : gw_G p l e R s m args below meth c D A Q nL cells slots ws lv pc (v :: .ref a :: st) :=
  fun H locs ls hP hD hS hl => va_putF C.1.1 C.1.2.1 C.1.2.2.2.2 hin ty0 hty hnm C.1.2.2.2.1 C.2.1 hP hD hS q0 he hc k0 hk (C.1.2.2.2.2 _ hlk) (fun _ h9 => h9) hfin hin2 hdecl hd hn hfit hlen d (fun H1 locs1 hP1 hD1 hS1 => k H1 locs1 ls (by rw [← hset]; exact hP1) (by rw [← hset]; exact hD1) hS1 hl)
theorem gw_vretE {Post : va_W → Prop} (C : Cx p s m args meth c cc nL Ts own D (tysA cI cJ cO) A none) (d : decode cc pc = .ok (.return_, 1)) (hp : Post ws) : gw_G p l e R s m args below meth c D A (CtME D below Post A args s cells slots) nL cells slots ws lv pc [] :=
  fun H locs ls hP hD hS hl => W.vret C.1.1 C.1.2.1 C.2.2.2.2.1 (fun t ht hW => ⟨⟨rfl, ws, hp, by rw [ht]; exact hP, hD⟩, hS.F ht⟩) hS.2.2 d C.2.2.2.1
/-- a constructor's call: the new object stands last -/
theorem gw_callE (C : Cx p s m args meth c cc nL Ts own D (tysA cI cJ cO) A rt) (hao : va_AO "PackedWords$Table" s) {y : MethodName} {wsy : List Cond} {rm : Room} {b index maxL mc ms : Nat} {u W0 : va_W} {Post : va_W → Prop} {bytes : ByteArray} (d : decode cc pc = .ok (.invokespecial index, 3)) (hM : CtE l D (tysA cI cJ cO) y wsy rm [.ref b] W0 Post mc ms) (cw : CallB R s args own index y bytes maxL none wsy rm mc ms 0 ∧ y.name = "<init>" ∧ (Cond.instanceMethod y).before args s = true) (hw : u ++ W0 = ws) (hrs : (st.map fun v => v.category).sum ≤ 8) (hcs : cells + mc ≤ R.cells ∧ slots + ms ≤ R.slots) (k : ∀ W1, Post W1 → gw_G p l e R s m args below meth c D A Q nL (cells + mc) (slots + ms) (u ++ W1) lv (pc + 3) st) : gw_G p l e R s m args below meth c D A Q nL cells slots ws lv pc (.ref b :: st) := by
  subst hw
  intro H locs ls hP hD hS hl T hT X
  obtain ⟨hd1, hd2⟩ := gw_Diff.mp hD
  have hP0 : va_P D vwCl W0 H := gw_Piff.mpr fun q hq => gw_Piff.mp hP q (List.mem_append_right _ hq)
  have hPv : va_P D vwCl u H := gw_Piff.mpr fun q hq => gw_Piff.mp hP q (List.mem_append_left _ hq)
  rw [List.map_append, List.nodup_append] at hd1
  have hD0 : va_D A W0 := gw_Diff.mpr ⟨hd1.2.1, fun q hq => hd2 q (List.mem_append_right _ hq)⟩
  have hDv : va_D A u := gw_Diff.mpr ⟨hd1.1, fun q hq => hd2 q (List.mem_append_left _ hq)⟩
  have hF : ∀ q, va_A W0 H.size q → A q := by
    rintro q (⟨k0, e0, h⟩ | h)
    · exact hD0.2 k0 (q, e0) h
    · exact C.2.2.1 q (Nat.le_trans hS.1 h)
  have hrun := va_runI (e := e) (below := below) (meth := meth) (As := []) (rest := st) (g := F0 m pc ls (.ref b :: st)) C.1 (hM H.size) cw ⟨CtPE_blind _ _ _ _ _, fun U hU hW => ⟨⟨rfl, by rw [hU], by rw [hU]; exact hP0, ⟨va_K.moved hW.alike C.2.1, nestW_warm hW C.2.2.2.2.2⟩, hD0.weaken (fun _ _ _ _ => trivial)⟩, va_AO.moved hW.alike hao⟩⟩ rfl rfl hl.1 rfl (lv_room hrs) d hcs (H := H) (locs := locs)
  obtain ⟨v9, st₀, t, T', L, h0, X', hL, e1, e2, ⟨⟨hv, W1, hpost, hP1, hD1⟩, hz, hk⟩, stp⟩ := hrun T hT X
  cases hv
  rw [h0] at hz hk
  rw [← e1] at hz hk hP1
  have apart : ∀ q ∈ u, q.1 < H.size ∧ ¬ va_A W0 H.size q.1 := by
    intro q hq
    obtain ⟨i, hi⟩ := List.getElem?_of_mem hq
    have hlt := (hPv i q hi).lt
    refine ⟨hlt, ?_⟩
    rintro (⟨k0, e0, h⟩ | h)
    · exact hd1.2.2 q.1 (List.mem_map.mpr ⟨q, hq, rfl⟩) q.1 (List.mem_map.mpr ⟨_, List.mem_of_getElem? h, rfl⟩) rfl
    · omega
  have hPn : va_P D vwCl (u ++ W1) T'.heap := by
    refine va_P.app (gw_Piff.mpr fun q hq => ?_) hP1
    exact (gw_Piff.mp hPv q hq).kept (hk q.1 (apart q hq).1 (apart q hq).2)
  have hDn : va_D A (u ++ W1) := by
    refine va_D.app hDv (hD1.weaken (fun k0 q _ h => hF q.1 h)) (fun i j x y hx hy hxy => ?_)
    exact (apart x (List.mem_of_getElem? hx)).2 (by rw [hxy]; exact hD1.2 j y hy)
  have hSn : va_S A s.heap T'.heap (locs ++ L) := ⟨Nat.le_trans hS.1 hz, fun q h1 h2 => by
    rw [hk q (Nat.lt_of_lt_of_le h1 hS.1) (fun z => h2 (hF q z))]
    exact hS.2.1 q h1 h2, fun q hq => by
      rcases List.mem_append.mp hq with h | h
      · exact hS.2.2 q h
      · exact hF _ (hL q h)⟩
  obtain ⟨t2, a1, b1⟩ := k W1 hpost T'.heap (locs ++ L) ls hPn hDn hSn hl T' rfl X'
  exact ⟨t2, stp t2 a1, b1⟩
/-- the same, of a nest mate's private one -/
theorem gw_callEN (C : Cx p s m args meth c cc nL Ts own D (tysA cI cJ cO) A rt) (hao : va_AO "PackedWords$Table" s) {y : MethodName} {wsy : List Cond} {rm : Room} {b index maxL mc ms : Nat} {u W0 : va_W} {Post : va_W → Prop} {bytes : ByteArray} (d : decode cc pc = .ok (.invokespecial index, 3)) (hM : CtE l D (tysA cI cJ cO) y wsy rm [.ref b] W0 Post mc ms) (cw : va_CN R s args own index y "PackedWords" bytes maxL none wsy rm mc ms 0 ∧ y.name = "<init>" ∧ (Cond.instanceMethod y).before args s = true) (hw : u ++ W0 = ws) (hrs : (st.map fun v => v.category).sum ≤ 8) (hcs : cells + mc ≤ R.cells ∧ slots + ms ≤ R.slots) (k : ∀ W1, Post W1 → gw_G p l e R s m args below meth c D A Q nL (cells + mc) (slots + ms) (u ++ W1) lv (pc + 3) st) : gw_G p l e R s m args below meth c D A Q nL cells slots ws lv pc (.ref b :: st) := by
  subst hw
  intro H locs ls hP hD hS hl T hT X
  obtain ⟨hd1, hd2⟩ := gw_Diff.mp hD
  have hP0 : va_P D vwCl W0 H := gw_Piff.mpr fun q hq => gw_Piff.mp hP q (List.mem_append_right _ hq)
  have hPv : va_P D vwCl u H := gw_Piff.mpr fun q hq => gw_Piff.mp hP q (List.mem_append_left _ hq)
  rw [List.map_append, List.nodup_append] at hd1
  have hD0 : va_D A W0 := gw_Diff.mpr ⟨hd1.2.1, fun q hq => hd2 q (List.mem_append_right _ hq)⟩
  have hDv : va_D A u := gw_Diff.mpr ⟨hd1.1, fun q hq => hd2 q (List.mem_append_left _ hq)⟩
  have hF : ∀ q, va_A W0 H.size q → A q := by
    rintro q (⟨k0, e0, h⟩ | h)
    · exact hD0.2 k0 (q, e0) h
    · exact C.2.2.1 q (Nat.le_trans hS.1 h)
  have hrun := va_runIN (e := e) (below := below) (meth := meth) (As := []) (rest := st) (g := F0 m pc ls (.ref b :: st)) C.1 (hM H.size) cw ⟨CtPE_blind _ _ _ _ _, fun U hU hW => ⟨⟨rfl, by rw [hU], by rw [hU]; exact hP0, ⟨va_K.moved hW.alike C.2.1, nestW_warm hW C.2.2.2.2.2⟩, hD0.weaken (fun _ _ _ _ => trivial)⟩, va_AO.moved hW.alike hao⟩⟩ rfl rfl hl.1 rfl (lv_room hrs) d hcs (H := H) (locs := locs)
  obtain ⟨v9, st₀, t, T', L, h0, X', hL, e1, e2, ⟨⟨hv, W1, hpost, hP1, hD1⟩, hz, hk⟩, stp⟩ := hrun T hT X
  cases hv
  rw [h0] at hz hk
  rw [← e1] at hz hk hP1
  have apart : ∀ q ∈ u, q.1 < H.size ∧ ¬ va_A W0 H.size q.1 := by
    intro q hq
    obtain ⟨i, hi⟩ := List.getElem?_of_mem hq
    have hlt := (hPv i q hi).lt
    refine ⟨hlt, ?_⟩
    rintro (⟨k0, e0, h⟩ | h)
    · exact hd1.2.2 q.1 (List.mem_map.mpr ⟨q, hq, rfl⟩) q.1 (List.mem_map.mpr ⟨_, List.mem_of_getElem? h, rfl⟩) rfl
    · omega
  have hPn : va_P D vwCl (u ++ W1) T'.heap := by
    refine va_P.app (gw_Piff.mpr fun q hq => ?_) hP1
    exact (gw_Piff.mp hPv q hq).kept (hk q.1 (apart q hq).1 (apart q hq).2)
  have hDn : va_D A (u ++ W1) := by
    refine va_D.app hDv (hD1.weaken (fun k0 q _ h => hF q.1 h)) (fun i j x y hx hy hxy => ?_)
    exact (apart x (List.mem_of_getElem? hx)).2 (by rw [hxy]; exact hD1.2 j y hy)
  have hSn : va_S A s.heap T'.heap (locs ++ L) := ⟨Nat.le_trans hS.1 hz, fun q h1 h2 => by
    rw [hk q (Nat.lt_of_lt_of_le h1 hS.1) (fun z => h2 (hF q z))]
    exact hS.2.1 q h1 h2, fun q hq => by
      rcases List.mem_append.mp hq with h | h
      · exact hS.2.2 q h
      · exact hF _ (hL q h)⟩
  obtain ⟨t2, a1, b1⟩ := k W1 hpost T'.heap (locs ++ L) ls hPn hDn hSn hl T' rfl X'
  exact ⟨t2, stp t2 a1, b1⟩
end GC
theorem hd_X0_init : yX0_init.cls ≠ "java/lang/invoke/MethodHandle" ∧ yX0_init.cls ≠ "java/lang/invoke/VarHandle" ∧ (parseMethodDescriptor yX0_init.desc).map (fun d => d.parameters.length) = some 0 := by decide +kernel
set_option maxHeartbeats 4000000 in
set_option maxRecDepth 100000 in
theorem c_X0_init (l : Launch) (D : va_G) (cI cJ cO : ClassId) (e0 : Nat) : CtE l D (tysA cI cJ cO) yX0_init wsX0_init (rmOfE 1 2 80 12) [.ref e0] [(e0, .inr (0, [.null, .null]))] (fun W1 => ∃ e1 e2, W1 = wE cI cJ e0 e1 e2 (fun _ => 0, fun _ => 0)) 2 80 := by
  refine CtE_of (own := RX0) cX0_init 1 (by decide +kernel) rfl rfl (Nat.le_of_ble_eq_true rfl) ?_
  intro p e s m args below meth c A C hao hnm
  have iX0 : ∀ w ∈ u_ws RX0 TX0 2, w ∈ wsX0_init := fun w h => List.mem_cons_of_mem _ (List.mem_append_right _ h)
  show gw_G p l e (rmOfE 1 2 80 12) s m args below meth c D A (CtME D below (fun W1 => ∃ e1 e2, W1 = wE cI cJ e0 e1 e2 (fun _ => 0, fun _ => 0)) A args s 2 80) 1 0 0 [(e0, .inr (0, [.null, .null]))] [(0, .ref e0)] 0 []
  refine gw_aload_n C dX0_init_0 0 rfl ?_
  refine gw_oinit C dX0_init_1 (List.mem_of_getElem? (i := 1) rfl) (List.mem_of_getElem? (i := 2) rfl) (List.mem_of_getElem? (i := 3) rfl) (Nat.le_of_ble_eq_true rfl) (Nat.le_of_ble_eq_true rfl) ?_
  refine gw_aload_n C dX0_init_4 0 rfl ?_
  refine gw_bipush (v := nI 40) C dX0_init_5 rfl ?_
  refine gw_newi C 40 dX0_init_7 (List.mem_of_getElem? (i := 4) rfl) (nI_pos (by decide)) (nI_clamp (by decide)) rfl (Nat.le_of_ble_eq_true rfl) (Nat.le_of_ble_eq_true rfl) (fun e1 => ?_)
  refine gw_putF (ws' := [(e0, .inr (0, [.ref e1, .null])), (e1, .inl (cI, 40, .inl (fun _ => 0)))]) (ty := .array .int) C hnm dX0_init_9 0 0 0 tyX0 tyX0_ok nmX0 rfl rfl iX0 (by decide) (List.mem_of_getElem? (i := 5) rfl : Cond.fieldLink RX0 9 (TX0 0).1 (TX0 0).2.1 (TX0 0).2.2.1 ∈ wsX0_init) rfl rfl (tyX0_ok 0 (by decide)) rfl rfl (Nat.le_of_ble_eq_true rfl) rfl ?_
  refine gw_aload_n C dX0_init_12 0 rfl ?_
  refine gw_bipush (v := nI 40) C dX0_init_13 rfl ?_
  refine gw_newl C 40 dX0_init_15 (List.mem_of_getElem? (i := 6) rfl) (nI_pos (by decide)) (nI_clamp (by decide)) rfl (Nat.le_of_ble_eq_true rfl) (Nat.le_of_ble_eq_true rfl) (fun e2 => ?_)
  refine gw_putF (ws' := wE cI cJ e0 e1 e2 (fun _ => 0, fun _ => 0)) (ty := .array .long) C hnm dX0_init_17 0 0 1 tyX0 tyX0_ok nmX0 rfl rfl iX0 (by decide) (List.mem_of_getElem? (i := 7) rfl : Cond.fieldLink RX0 15 (TX0 1).1 (TX0 1).2.1 (TX0 1).2.2.1 ∈ wsX0_init) rfl rfl (tyX0_ok 1 (by decide)) rfl rfl (Nat.le_of_ble_eq_true rfl) rfl ?_
  exact gw_vretE C dX0_init_20 ⟨e1, e2, rfl⟩
theorem hd_X1_init : yX1_init.cls ≠ "java/lang/invoke/MethodHandle" ∧ yX1_init.cls ≠ "java/lang/invoke/VarHandle" ∧ (parseMethodDescriptor yX1_init.desc).map (fun d => d.parameters.length) = some 0 := by decide +kernel
def newT : TS := (fun j => if j = 0 then 1 else 0, fun _ => -1, fun _ => -1, fun _ => 0, fun _ => -1, fun _ => 0, fun _ => 0, 0, fun _ => 0, fun _ => 0)
def adT (b0 b1 b2 b3 b4 b5 b6 b7 b8 b9 b10 : Nat) : Nat → Nat
  | 0 => b0
  | 1 => b1
  | 2 => b2
  | 3 => b3
  | 4 => b4
  | 5 => b5
  | 6 => b6
  | 7 => b7
  | 8 => b8
  | 9 => b9
  | _ => b10
set_option maxHeartbeats 4000000 in
set_option maxRecDepth 100000 in
theorem c_X1_init (l : Launch) (D : va_G) (cI cJ cO : ClassId) (b0 : Nat) : CtE l D (tysA cI cJ cO) yX1_init wsX1_init (rmOfE 2 10 1202 34) [.ref b0] [(b0, .inr (1, [.null, .null, .null, .null, .null, .null, .null, .null, .int 0]))] (fun W1 => ∃ b : Nat → Nat, b 0 = b0 ∧ W1 = wT cI cJ b newT) 10 1202 := by
  refine CtE_of (own := RX1) cX1_init 1 (by decide +kernel) rfl rfl (Nat.le_of_ble_eq_true rfl) ?_
  intro p e s m args below meth c A C hao hnm
  have iX0 : ∀ w ∈ u_ws RX0 TX0 2, w ∈ wsX1_init := fun w h => List.mem_cons_of_mem _ (List.mem_append_left _ (List.mem_append_right _ h))
  have iX1 : ∀ w ∈ u_ws RX1 TX1 9, w ∈ wsX1_init := fun w h => List.mem_cons_of_mem _ (List.mem_append_right _ h)
  have n_X3_put := gw_cn (R := (rmOfE 2 10 1202 34)) (rm := rmOf 0 0) (index := 50) (n := 3) C gX1_init_X3_put_n50 rfl rfl rfl (by simp [nestW]) (List.mem_of_getElem? (i := 28) rfl) (List.mem_of_getElem? (i := 27) rfl) hd_X3_put.2 ⟨(Nat.le_of_ble_eq_true rfl), (Nat.le_of_ble_eq_true rfl)⟩
  have w_fill := va_cwS (R := (rmOfE 2 10 1202 34)) (rm := rmOf 0 0) (s := s) (args := args) 2 C.1.2.2.2.2 gX1_init_J7_fill_53178 rfl rfl rfl hd_J7_fill_53178.2 ⟨(Nat.le_of_ble_eq_true rfl), (Nat.le_of_ble_eq_true rfl)⟩
  show gw_G p l e (rmOfE 2 10 1202 34) s m args below meth c D A (CtME D below (fun W1 => ∃ b : Nat → Nat, b 0 = b0 ∧ W1 = wT cI cJ b newT) A args s 10 1202) 1 0 0 [(b0, .inr (1, [.null, .null, .null, .null, .null, .null, .null, .null, .int 0]))] [(0, .ref b0)] 0 []
  refine gw_aload_n C dX1_init_0 0 rfl ?_
  refine gw_oinit C dX1_init_1 (List.mem_of_getElem? (i := 1) rfl) (List.mem_of_getElem? (i := 2) rfl) (List.mem_of_getElem? (i := 3) rfl) (Nat.le_of_ble_eq_true rfl) (Nat.le_of_ble_eq_true rfl) ?_
  refine gw_aload_n C dX1_init_4 0 rfl ?_
  refine gw_new (Cn := RX0) (T := TX0) (N := 2) C 0 [.null, .null] dX1_init_5 iX0 tyX0 tyX0_ok (List.mem_of_getElem? (i := 4) rfl) (List.mem_of_getElem? (i := 5) rfl) (List.mem_of_getElem? (i := 6) rfl) rfl (fun j hj => by rcases (show j = 0 ∨ j = 1 by omega) with rfl | rfl <;> rfl) (Nat.le_of_ble_eq_true rfl) (Nat.le_of_ble_eq_true rfl) (fun e0 => ?_)
  refine gw_dup C dX1_init_8 rfl ?_
  refine gw_callEN (u := [(b0, .inr (1, [.null, .null, .null, .null, .null, .null, .null, .null, .int 0]))]) (W0 := [(e0, .inr (0, [.null, .null]))]) C hao dX1_init_9 (c_X0_init l D cI cJ cO e0) ⟨va_cnB (host := "PackedWords") (R := (rmOfE 2 10 1202 34)) (rm := rmOfE 1 2 80 12) (index := 11) (s := s) (args := args) 0 C.1.2.2.2.2 gX1_init_X0_init_n11 rfl rfl rfl (C.2.2.2.2.2 _ (by simp [nestW])) (C.1.2.2.2.2 _ (List.mem_of_getElem? (i := 6) rfl)) hd_X0_init ⟨(Nat.le_of_ble_eq_true rfl), (Nat.le_of_ble_eq_true rfl)⟩, rfl, C.1.2.2.2.2 _ (List.mem_of_getElem? (i := 17) rfl)⟩ rfl (Nat.le_of_ble_eq_true rfl) ⟨(Nat.le_of_ble_eq_true rfl), (Nat.le_of_ble_eq_true rfl)⟩ (fun W1 hW1 => ?_)
  obtain ⟨e1, e2, rfl⟩ := hW1
  refine gw_putF (ws' := [(b0, .inr (1, [.ref e0, .null, .null, .null, .null, .null, .null, .null, .int 0]))] ++ wE cI cJ e0 e1 e2 (fun _ => 0, fun _ => 0)) (ty := .object "PackedWords$Ends") C hnm dX1_init_12 0 1 0 tyX1 tyX1_ok nmX1 rfl rfl iX1 (by decide) (List.mem_of_getElem? (i := 7) rfl : Cond.fieldLink RX1 12 (TX1 0).1 (TX1 0).2.1 (TX1 0).2.2.1 ∈ wsX1_init) rfl rfl (tyX1_ok 0 (by decide)) rfl rfl (Nat.le_of_ble_eq_true rfl) rfl ?_
  refine gw_aload_n C dX1_init_15 0 rfl ?_
  refine gw_sipush (v := nI 160) C dX1_init_16 rfl ?_
  refine gw_newi C 160 dX1_init_19 (List.mem_of_getElem? (i := 8) rfl) (nI_pos (by decide)) (nI_clamp (by decide)) rfl (Nat.le_of_ble_eq_true rfl) (Nat.le_of_ble_eq_true rfl) (fun b1 => ?_)
  refine gw_putF (ws' := [(b0, .inr (1, [.ref e0, .ref b1, .null, .null, .null, .null, .null, .null, .int 0]))] ++ wE cI cJ e0 e1 e2 (fun _ => 0, fun _ => 0) ++ [(b1, .inl (cI, 160, .inl (fun _ => 0)))]) (ty := .array .int) C hnm dX1_init_21 0 1 1 tyX1 tyX1_ok nmX1 rfl rfl iX1 (by decide) (List.mem_of_getElem? (i := 9) rfl : Cond.fieldLink RX1 18 (TX1 1).1 (TX1 1).2.1 (TX1 1).2.2.1 ∈ wsX1_init) rfl rfl (tyX1_ok 1 (by decide)) rfl rfl (Nat.le_of_ble_eq_true rfl) rfl ?_
  refine gw_aload_n C dX1_init_24 0 rfl ?_
  refine gw_sipush (v := nI 160) C dX1_init_25 rfl ?_
  refine gw_newi C 160 dX1_init_28 (List.mem_of_getElem? (i := 8) rfl) (nI_pos (by decide)) (nI_clamp (by decide)) rfl (Nat.le_of_ble_eq_true rfl) (Nat.le_of_ble_eq_true rfl) (fun b2 => ?_)
  refine gw_putF (ws' := [(b0, .inr (1, [.ref e0, .ref b1, .ref b2, .null, .null, .null, .null, .null, .int 0]))] ++ wE cI cJ e0 e1 e2 (fun _ => 0, fun _ => 0) ++ [(b1, .inl (cI, 160, .inl (fun _ => 0))), (b2, .inl (cI, 160, .inl (fun _ => 0)))]) (ty := .array .int) C hnm dX1_init_30 0 1 2 tyX1 tyX1_ok nmX1 rfl rfl iX1 (by decide) (List.mem_of_getElem? (i := 10) rfl : Cond.fieldLink RX1 22 (TX1 2).1 (TX1 2).2.1 (TX1 2).2.2.1 ∈ wsX1_init) rfl rfl (tyX1_ok 2 (by decide)) rfl rfl (Nat.le_of_ble_eq_true rfl) rfl ?_
  refine gw_aload_n C dX1_init_33 0 rfl ?_
  refine gw_sipush (v := nI 160) C dX1_init_34 rfl ?_
  refine gw_newi C 160 dX1_init_37 (List.mem_of_getElem? (i := 8) rfl) (nI_pos (by decide)) (nI_clamp (by decide)) rfl (Nat.le_of_ble_eq_true rfl) (Nat.le_of_ble_eq_true rfl) (fun b3 => ?_)
  refine gw_putF (ws' := [(b0, .inr (1, [.ref e0, .ref b1, .ref b2, .ref b3, .null, .null, .null, .null, .int 0]))] ++ wE cI cJ e0 e1 e2 (fun _ => 0, fun _ => 0) ++ [(b1, .inl (cI, 160, .inl (fun _ => 0))), (b2, .inl (cI, 160, .inl (fun _ => 0))), (b3, .inl (cI, 160, .inl (fun _ => 0)))]) (ty := .array .int) C hnm dX1_init_39 0 1 3 tyX1 tyX1_ok nmX1 rfl rfl iX1 (by decide) (List.mem_of_getElem? (i := 11) rfl : Cond.fieldLink RX1 25 (TX1 3).1 (TX1 3).2.1 (TX1 3).2.2.1 ∈ wsX1_init) rfl rfl (tyX1_ok 3 (by decide)) rfl rfl (Nat.le_of_ble_eq_true rfl) rfl ?_
  refine gw_aload_n C dX1_init_42 0 rfl ?_
  refine gw_sipush (v := nI 160) C dX1_init_43 rfl ?_
  refine gw_newi C 160 dX1_init_46 (List.mem_of_getElem? (i := 8) rfl) (nI_pos (by decide)) (nI_clamp (by decide)) rfl (Nat.le_of_ble_eq_true rfl) (Nat.le_of_ble_eq_true rfl) (fun b4 => ?_)
  refine gw_putF (ws' := [(b0, .inr (1, [.ref e0, .ref b1, .ref b2, .ref b3, .ref b4, .null, .null, .null, .int 0]))] ++ wE cI cJ e0 e1 e2 (fun _ => 0, fun _ => 0) ++ [(b1, .inl (cI, 160, .inl (fun _ => 0))), (b2, .inl (cI, 160, .inl (fun _ => 0))), (b3, .inl (cI, 160, .inl (fun _ => 0))), (b4, .inl (cI, 160, .inl (fun _ => 0)))]) (ty := .array .int) C hnm dX1_init_48 0 1 4 tyX1 tyX1_ok nmX1 rfl rfl iX1 (by decide) (List.mem_of_getElem? (i := 12) rfl : Cond.fieldLink RX1 28 (TX1 4).1 (TX1 4).2.1 (TX1 4).2.2.1 ∈ wsX1_init) rfl rfl (tyX1_ok 4 (by decide)) rfl rfl (Nat.le_of_ble_eq_true rfl) rfl ?_
  refine gw_aload_n C dX1_init_51 0 rfl ?_
  refine gw_sipush (v := nI 160) C dX1_init_52 rfl ?_
  refine gw_newi C 160 dX1_init_55 (List.mem_of_getElem? (i := 8) rfl) (nI_pos (by decide)) (nI_clamp (by decide)) rfl (Nat.le_of_ble_eq_true rfl) (Nat.le_of_ble_eq_true rfl) (fun b5 => ?_)
  refine gw_putF (ws' := [(b0, .inr (1, [.ref e0, .ref b1, .ref b2, .ref b3, .ref b4, .ref b5, .null, .null, .int 0]))] ++ wE cI cJ e0 e1 e2 (fun _ => 0, fun _ => 0) ++ [(b1, .inl (cI, 160, .inl (fun _ => 0))), (b2, .inl (cI, 160, .inl (fun _ => 0))), (b3, .inl (cI, 160, .inl (fun _ => 0))), (b4, .inl (cI, 160, .inl (fun _ => 0))), (b5, .inl (cI, 160, .inl (fun _ => 0)))]) (ty := .array .int) C hnm dX1_init_57 0 1 5 tyX1 tyX1_ok nmX1 rfl rfl iX1 (by decide) (List.mem_of_getElem? (i := 13) rfl : Cond.fieldLink RX1 31 (TX1 5).1 (TX1 5).2.1 (TX1 5).2.2.1 ∈ wsX1_init) rfl rfl (tyX1_ok 5 (by decide)) rfl rfl (Nat.le_of_ble_eq_true rfl) rfl ?_
  refine gw_aload_n C dX1_init_60 0 rfl ?_
  refine gw_sipush (v := nI 160) C dX1_init_61 rfl ?_
  refine gw_newi C 160 dX1_init_64 (List.mem_of_getElem? (i := 8) rfl) (nI_pos (by decide)) (nI_clamp (by decide)) rfl (Nat.le_of_ble_eq_true rfl) (Nat.le_of_ble_eq_true rfl) (fun b6 => ?_)
  refine gw_putF (ws' := [(b0, .inr (1, [.ref e0, .ref b1, .ref b2, .ref b3, .ref b4, .ref b5, .ref b6, .null, .int 0]))] ++ wE cI cJ e0 e1 e2 (fun _ => 0, fun _ => 0) ++ [(b1, .inl (cI, 160, .inl (fun _ => 0))), (b2, .inl (cI, 160, .inl (fun _ => 0))), (b3, .inl (cI, 160, .inl (fun _ => 0))), (b4, .inl (cI, 160, .inl (fun _ => 0))), (b5, .inl (cI, 160, .inl (fun _ => 0))), (b6, .inl (cI, 160, .inl (fun _ => 0)))]) (ty := .array .int) C hnm dX1_init_66 0 1 6 tyX1 tyX1_ok nmX1 rfl rfl iX1 (by decide) (List.mem_of_getElem? (i := 14) rfl : Cond.fieldLink RX1 34 (TX1 6).1 (TX1 6).2.1 (TX1 6).2.2.1 ∈ wsX1_init) rfl rfl (tyX1_ok 6 (by decide)) rfl rfl (Nat.le_of_ble_eq_true rfl) rfl ?_
  refine gw_aload_n C dX1_init_69 0 rfl ?_
  refine gw_sipush (v := nI 160) C dX1_init_70 rfl ?_
  refine gw_newi C 160 dX1_init_73 (List.mem_of_getElem? (i := 8) rfl) (nI_pos (by decide)) (nI_clamp (by decide)) rfl (Nat.le_of_ble_eq_true rfl) (Nat.le_of_ble_eq_true rfl) (fun b7 => ?_)
  refine gw_putF (ws' := [(b0, .inr (1, [.ref e0, .ref b1, .ref b2, .ref b3, .ref b4, .ref b5, .ref b6, .ref b7, .int 0]))] ++ wE cI cJ e0 e1 e2 (fun _ => 0, fun _ => 0) ++ [(b1, .inl (cI, 160, .inl (fun _ => 0))), (b2, .inl (cI, 160, .inl (fun _ => 0))), (b3, .inl (cI, 160, .inl (fun _ => 0))), (b4, .inl (cI, 160, .inl (fun _ => 0))), (b5, .inl (cI, 160, .inl (fun _ => 0))), (b6, .inl (cI, 160, .inl (fun _ => 0))), (b7, .inl (cI, 160, .inl (fun _ => 0)))]) (ty := .array .int) C hnm dX1_init_75 0 1 7 tyX1 tyX1_ok nmX1 rfl rfl iX1 (by decide) (List.mem_of_getElem? (i := 15) rfl : Cond.fieldLink RX1 37 (TX1 7).1 (TX1 7).2.1 (TX1 7).2.2.1 ∈ wsX1_init) rfl rfl (tyX1_ok 7 (by decide)) rfl rfl (Nat.le_of_ble_eq_true rfl) rfl ?_
  refine gw_perm (ws' := wT cI cJ (adT b0 b1 b2 b3 b4 b5 b6 b7 e0 e1 e2) ((fun _ => 0, fun _ => 0, fun _ => 0, fun _ => 0, fun _ => 0, fun _ => 0, fun _ => 0, 0, fun _ => 0, fun _ => 0) : TS)) [0, 4, 5, 6, 7, 8, 9, 10, 1, 2, 3] rfl rfl ?_
  refine gw_aload_n C dX1_init_78 0 rfl ?_
  refine gw_iconst (v := 0) C dX1_init_79 rfl ?_
  refine gw_put (ws' := wT cI cJ (adT b0 b1 b2 b3 b4 b5 b6 b7 e0 e1 e2) ((fun _ => 0, fun _ => 0, fun _ => 0, fun _ => 0, fun _ => 0, fun _ => 0, fun _ => 0, 0, fun _ => 0, fun _ => 0) : TS)) (ty := .int) C dX1_init_80 0 1 8 tyX1 tyX1_ok nmX1 rfl rfl iX1 (by decide) (List.mem_of_getElem? (i := 16) rfl : Cond.fieldLink RX1 40 (TX1 8).1 (TX1 8).2.1 (TX1 8).2.2.1 ∈ wsX1_init) rfl (tyX1_ok 8 (by decide)) rfl rfl (Nat.le_of_ble_eq_true rfl) rfl ?_
  refine gw_aload_n C dX1_init_83 0 rfl ?_
  refine gw_get C dX1_init_84 0 1 2 rfl rfl iX1 (by decide) (List.mem_of_getElem? (i := 10) rfl : Cond.fieldLink RX1 22 (TX1 2).1 (TX1 2).2.1 (TX1 2).2.2.1 ∈ wsX1_init) rfl ?_
  refine gw_iconst (v := -1) C dX1_init_87 rfl ?_
  refine gw_one (st2 := []) (ws' := wT cI cJ (adT b0 b1 b2 b3 b4 b5 b6 b7 e0 e1 e2) ((fun _ => 0, fun _ => -1, fun _ => 0, fun _ => 0, fun _ => 0, fun _ => 0, fun _ => 0, 0, fun _ => 0, fun _ => 0) : TS)) C 2 rfl (run_S (rest := []) C (c_J7_fill_53178 l D cI cJ cO b2 160 (fun _ => 0) (-1) (by decide)) w_fill rfl rfl (Nat.le_of_ble_eq_true rfl) dX1_init_88 ⟨(Nat.le_of_ble_eq_true rfl), (Nat.le_of_ble_eq_true rfl)⟩) rfl rfl ?_
  refine gw_aload_n C dX1_init_91 0 rfl ?_
  refine gw_get C dX1_init_92 0 1 3 rfl rfl iX1 (by decide) (List.mem_of_getElem? (i := 11) rfl : Cond.fieldLink RX1 25 (TX1 3).1 (TX1 3).2.1 (TX1 3).2.2.1 ∈ wsX1_init) rfl ?_
  refine gw_iconst (v := -1) C dX1_init_95 rfl ?_
  refine gw_one (st2 := []) (ws' := wT cI cJ (adT b0 b1 b2 b3 b4 b5 b6 b7 e0 e1 e2) ((fun _ => 0, fun _ => -1, fun _ => -1, fun _ => 0, fun _ => 0, fun _ => 0, fun _ => 0, 0, fun _ => 0, fun _ => 0) : TS)) C 3 rfl (run_S (rest := []) C (c_J7_fill_53178 l D cI cJ cO b3 160 (fun _ => 0) (-1) (by decide)) w_fill rfl rfl (Nat.le_of_ble_eq_true rfl) dX1_init_96 ⟨(Nat.le_of_ble_eq_true rfl), (Nat.le_of_ble_eq_true rfl)⟩) rfl rfl ?_
  refine gw_aload_n C dX1_init_99 0 rfl ?_
  refine gw_get C dX1_init_100 0 1 5 rfl rfl iX1 (by decide) (List.mem_of_getElem? (i := 13) rfl : Cond.fieldLink RX1 31 (TX1 5).1 (TX1 5).2.1 (TX1 5).2.2.1 ∈ wsX1_init) rfl ?_
  refine gw_iconst (v := -1) C dX1_init_103 rfl ?_
  refine gw_one (st2 := []) (ws' := wT cI cJ (adT b0 b1 b2 b3 b4 b5 b6 b7 e0 e1 e2) ((fun _ => 0, fun _ => -1, fun _ => -1, fun _ => 0, fun _ => -1, fun _ => 0, fun _ => 0, 0, fun _ => 0, fun _ => 0) : TS)) C 5 rfl (run_S (rest := []) C (c_J7_fill_53178 l D cI cJ cO b5 160 (fun _ => 0) (-1) (by decide)) w_fill rfl rfl (Nat.le_of_ble_eq_true rfl) dX1_init_104 ⟨(Nat.le_of_ble_eq_true rfl), (Nat.le_of_ble_eq_true rfl)⟩) rfl rfl ?_
  refine gw_aload_n C dX1_init_107 0 rfl ?_
  refine gw_get C dX1_init_108 0 1 1 rfl rfl iX1 (by decide) (List.mem_of_getElem? (i := 9) rfl : Cond.fieldLink RX1 18 (TX1 1).1 (TX1 1).2.1 (TX1 1).2.2.1 ∈ wsX1_init) rfl ?_
  refine gw_iconst (v := nI 0) C dX1_init_111 rfl ?_
  refine gw_iconst (v := 1) C dX1_init_112 rfl ?_
  have ep : J_put 160 (fun _ => 0) (nI 0) 1 = (fun j : Nat => if j = 0 then (1 : Int32) else 0) := by
    rw [show J_put 160 (fun _ => 0) (nI 0) 1 = upd (fun _ => 0) (nI 0).toNatClampNeg 1 from if_pos (nI_in (by decide) (by decide)), nI_clamp (by decide)]; rfl
  refine gw_one (st2 := []) (ws' := wT cI cJ (adT b0 b1 b2 b3 b4 b5 b6 b7 e0 e1 e2) newT) C 1 rfl (run_SN (rest := []) C (c_X3_put l D cI cJ cO b1 160 (fun _ => 0) (nI 0) 1 (by decide)) n_X3_put rfl rfl (Nat.le_of_ble_eq_true rfl) dX1_init_113 ⟨(Nat.le_of_ble_eq_true rfl), (Nat.le_of_ble_eq_true rfl)⟩) (by rw [ep]; rfl) rfl ?_
  exact gw_vretE C dX1_init_116 ⟨(adT b0 b1 b2 b3 b4 b5 b6 b7 e0 e1 e2), rfl, rfl⟩
theorem hd_X4_init : yX4_init.cls ≠ "java/lang/invoke/MethodHandle" ∧ yX4_init.cls ≠ "java/lang/invoke/VarHandle" ∧ (parseMethodDescriptor yX4_init.desc).map (fun d => d.parameters.length) = some 0 := by decide +kernel
def adS (s0 s1 s2 s3 s4 s5 : Nat → Nat) : Nat → Nat → Nat
  | 0 => s0
  | 1 => s1
  | 2 => s2
  | 3 => s3
  | 4 => s4
  | _ => s5
def newM : MS := (0, fun _ => 0, fun _ => 0, 0, fun _ => 0, fun _ => 0, 0, fun _ => 0, 0, fun _ => 0, fun _ => 0, 0, 0, fun _ => 0, fun _ => 0, 0)
def adM (a0 a1 a2 a3 a4 a5 a6 a7 a8 a9 : Nat) : Nat → Nat
  | 0 => a0
  | 1 => a1
  | 2 => a2
  | 3 => a3
  | 4 => a4
  | 5 => a5
  | 6 => a6
  | 7 => a7
  | 8 => a8
  | _ => a9
set_option maxHeartbeats 4000000 in
set_option maxRecDepth 100000 in
theorem c_X4_init (l : Launch) (D : va_G) (cI cJ cO : ClassId) (b0 : Nat) {o : MS} (h : fM_clearTable newM = some o) : CtE l D (tysA cI cJ cO) yX4_init wsX4_init (rmOfE 2 9 13177 50) [.ref b0] [(b0, .inr (3, [.int 0, .null, .null, .int 0, .null, .null, .int 0, .null, .int 0, .null, .null, .int 0, .int 0, .null, .null, .long 0]))] (fun W1 => ∃ (a : Nat → Nat) (o : MS), fM_clearTable newM = some o ∧ a 0 = b0 ∧ W1 = wM cI a o) 9 13177 := by
  refine CtE_of (own := RX4) cX4_init 1 (by decide +kernel) rfl rfl (Nat.le_of_ble_eq_true rfl) ?_
  intro p e s m args below meth c A C hao hnm
  have iX4 : ∀ w ∈ u_ws RX4 TX4 16, w ∈ wsX4_init := fun w h => List.mem_cons_of_mem _ (List.mem_append_right _ h)
  have w_clear := cwV (R := (rmOfE 2 9 13177 50)) (rm := rmOf 1 21) (s := s) (args := args) 0 C.1.2.2.2.2 gX4_init_X4_clearTable rfl rfl rfl hd_X4_clearTable ⟨(Nat.le_of_ble_eq_true rfl), (Nat.le_of_ble_eq_true rfl)⟩
  show gw_G p l e (rmOfE 2 9 13177 50) s m args below meth c D A (CtME D below (fun W1 => ∃ (a : Nat → Nat) (o : MS), fM_clearTable newM = some o ∧ a 0 = b0 ∧ W1 = wM cI a o) A args s 9 13177) 1 0 0 [(b0, .inr (3, [.int 0, .null, .null, .int 0, .null, .null, .int 0, .null, .int 0, .null, .null, .int 0, .int 0, .null, .null, .long 0]))] [(0, .ref b0)] 0 []
  refine gw_aload_n C dX4_init_0 0 rfl ?_
  refine gw_oinit C dX4_init_1 (List.mem_of_getElem? (i := 1) rfl) (List.mem_of_getElem? (i := 2) rfl) (List.mem_of_getElem? (i := 3) rfl) (Nat.le_of_ble_eq_true rfl) (Nat.le_of_ble_eq_true rfl) ?_
  refine gw_aload_n C dX4_init_4 0 rfl ?_
  refine gw_sipush (v := nI 1361) C dX4_init_5 rfl ?_
  refine gw_newi C 1361 dX4_init_8 (List.mem_of_getElem? (i := 4) rfl) (nI_pos (by decide)) (nI_clamp (by decide)) rfl (Nat.le_of_ble_eq_true rfl) (Nat.le_of_ble_eq_true rfl) (fun b1 => ?_)
  refine gw_putF (ws' := [(b0, .inr (3, [.int 0, .ref b1, .null, .int 0, .null, .null, .int 0, .null, .int 0, .null, .null, .int 0, .int 0, .null, .null, .long 0])), (b1, .inl (cI, 1361, .inl (fun _ => 0)))]) (ty := .array .int) C hnm dX4_init_10 0 3 1 tyX4 tyX4_ok nmX4 rfl rfl iX4 (by decide) (List.mem_of_getElem? (i := 5) rfl : Cond.fieldLink RX4 7 (TX4 1).1 (TX4 1).2.1 (TX4 1).2.2.1 ∈ wsX4_init) rfl rfl (tyX4_ok 1 (by decide)) rfl rfl (Nat.le_of_ble_eq_true rfl) rfl ?_
  refine gw_aload_n C dX4_init_13 0 rfl ?_
  refine gw_sipush (v := nI 8166) C dX4_init_14 rfl ?_
  refine gw_newi C 8166 dX4_init_17 (List.mem_of_getElem? (i := 4) rfl) (nI_pos (by decide)) (nI_clamp (by decide)) rfl (Nat.le_of_ble_eq_true rfl) (Nat.le_of_ble_eq_true rfl) (fun b2 => ?_)
  refine gw_putF (ws' := [(b0, .inr (3, [.int 0, .ref b1, .ref b2, .int 0, .null, .null, .int 0, .null, .int 0, .null, .null, .int 0, .int 0, .null, .null, .long 0])), (b1, .inl (cI, 1361, .inl (fun _ => 0))), (b2, .inl (cI, 8166, .inl (fun _ => 0)))]) (ty := .array .int) C hnm dX4_init_19 0 3 2 tyX4 tyX4_ok nmX4 rfl rfl iX4 (by decide) (List.mem_of_getElem? (i := 6) rfl : Cond.fieldLink RX4 13 (TX4 2).1 (TX4 2).2.1 (TX4 2).2.2.1 ∈ wsX4_init) rfl rfl (tyX4_ok 2 (by decide)) rfl rfl (Nat.le_of_ble_eq_true rfl) rfl ?_
  refine gw_aload_n C dX4_init_22 0 rfl ?_
  refine gw_sipush (v := nI 1361) C dX4_init_23 rfl ?_
  refine gw_newi C 1361 dX4_init_26 (List.mem_of_getElem? (i := 4) rfl) (nI_pos (by decide)) (nI_clamp (by decide)) rfl (Nat.le_of_ble_eq_true rfl) (Nat.le_of_ble_eq_true rfl) (fun b3 => ?_)
  refine gw_putF (ws' := [(b0, .inr (3, [.int 0, .ref b1, .ref b2, .int 0, .ref b3, .null, .int 0, .null, .int 0, .null, .null, .int 0, .int 0, .null, .null, .long 0])), (b1, .inl (cI, 1361, .inl (fun _ => 0))), (b2, .inl (cI, 8166, .inl (fun _ => 0))), (b3, .inl (cI, 1361, .inl (fun _ => 0)))]) (ty := .array .int) C hnm dX4_init_28 0 3 4 tyX4 tyX4_ok nmX4 rfl rfl iX4 (by decide) (List.mem_of_getElem? (i := 7) rfl : Cond.fieldLink RX4 16 (TX4 4).1 (TX4 4).2.1 (TX4 4).2.2.1 ∈ wsX4_init) rfl rfl (tyX4_ok 4 (by decide)) rfl rfl (Nat.le_of_ble_eq_true rfl) rfl ?_
  refine gw_aload_n C dX4_init_31 0 rfl ?_
  refine gw_bipush (v := nI 12) C dX4_init_32 rfl ?_
  refine gw_newi C 12 dX4_init_34 (List.mem_of_getElem? (i := 4) rfl) (nI_pos (by decide)) (nI_clamp (by decide)) rfl (Nat.le_of_ble_eq_true rfl) (Nat.le_of_ble_eq_true rfl) (fun b4 => ?_)
  refine gw_putF (ws' := [(b0, .inr (3, [.int 0, .ref b1, .ref b2, .int 0, .ref b3, .ref b4, .int 0, .null, .int 0, .null, .null, .int 0, .int 0, .null, .null, .long 0])), (b1, .inl (cI, 1361, .inl (fun _ => 0))), (b2, .inl (cI, 8166, .inl (fun _ => 0))), (b3, .inl (cI, 1361, .inl (fun _ => 0))), (b4, .inl (cI, 12, .inl (fun _ => 0)))]) (ty := .array .int) C hnm dX4_init_36 0 3 5 tyX4 tyX4_ok nmX4 rfl rfl iX4 (by decide) (List.mem_of_getElem? (i := 8) rfl : Cond.fieldLink RX4 19 (TX4 5).1 (TX4 5).2.1 (TX4 5).2.2.1 ∈ wsX4_init) rfl rfl (tyX4_ok 5 (by decide)) rfl rfl (Nat.le_of_ble_eq_true rfl) rfl ?_
  refine gw_aload_n C dX4_init_39 0 rfl ?_
  refine gw_bipush (v := nI 12) C dX4_init_40 rfl ?_
  refine gw_newi C 12 dX4_init_42 (List.mem_of_getElem? (i := 4) rfl) (nI_pos (by decide)) (nI_clamp (by decide)) rfl (Nat.le_of_ble_eq_true rfl) (Nat.le_of_ble_eq_true rfl) (fun b5 => ?_)
  refine gw_putF (ws' := [(b0, .inr (3, [.int 0, .ref b1, .ref b2, .int 0, .ref b3, .ref b4, .int 0, .ref b5, .int 0, .null, .null, .int 0, .int 0, .null, .null, .long 0])), (b1, .inl (cI, 1361, .inl (fun _ => 0))), (b2, .inl (cI, 8166, .inl (fun _ => 0))), (b3, .inl (cI, 1361, .inl (fun _ => 0))), (b4, .inl (cI, 12, .inl (fun _ => 0))), (b5, .inl (cI, 12, .inl (fun _ => 0)))]) (ty := .array .int) C hnm dX4_init_44 0 3 7 tyX4 tyX4_ok nmX4 rfl rfl iX4 (by decide) (List.mem_of_getElem? (i := 9) rfl : Cond.fieldLink RX4 22 (TX4 7).1 (TX4 7).2.1 (TX4 7).2.2.1 ∈ wsX4_init) rfl rfl (tyX4_ok 7 (by decide)) rfl rfl (Nat.le_of_ble_eq_true rfl) rfl ?_
  refine gw_aload_n C dX4_init_47 0 rfl ?_
  refine gw_sipush (v := nI 160) C dX4_init_48 rfl ?_
  refine gw_newi C 160 dX4_init_51 (List.mem_of_getElem? (i := 4) rfl) (nI_pos (by decide)) (nI_clamp (by decide)) rfl (Nat.le_of_ble_eq_true rfl) (Nat.le_of_ble_eq_true rfl) (fun b6 => ?_)
  refine gw_putF (ws' := [(b0, .inr (3, [.int 0, .ref b1, .ref b2, .int 0, .ref b3, .ref b4, .int 0, .ref b5, .int 0, .ref b6, .null, .int 0, .int 0, .null, .null, .long 0])), (b1, .inl (cI, 1361, .inl (fun _ => 0))), (b2, .inl (cI, 8166, .inl (fun _ => 0))), (b3, .inl (cI, 1361, .inl (fun _ => 0))), (b4, .inl (cI, 12, .inl (fun _ => 0))), (b5, .inl (cI, 12, .inl (fun _ => 0))), (b6, .inl (cI, 160, .inl (fun _ => 0)))]) (ty := .array .int) C hnm dX4_init_53 0 3 9 tyX4 tyX4_ok nmX4 rfl rfl iX4 (by decide) (List.mem_of_getElem? (i := 10) rfl : Cond.fieldLink RX4 25 (TX4 9).1 (TX4 9).2.1 (TX4 9).2.2.1 ∈ wsX4_init) rfl rfl (tyX4_ok 9 (by decide)) rfl rfl (Nat.le_of_ble_eq_true rfl) rfl ?_
  refine gw_aload_n C dX4_init_56 0 rfl ?_
  refine gw_bipush (v := nI 13) C dX4_init_57 rfl ?_
  refine gw_newi C 13 dX4_init_59 (List.mem_of_getElem? (i := 4) rfl) (nI_pos (by decide)) (nI_clamp (by decide)) rfl (Nat.le_of_ble_eq_true rfl) (Nat.le_of_ble_eq_true rfl) (fun b7 => ?_)
  refine gw_putF (ws' := [(b0, .inr (3, [.int 0, .ref b1, .ref b2, .int 0, .ref b3, .ref b4, .int 0, .ref b5, .int 0, .ref b6, .ref b7, .int 0, .int 0, .null, .null, .long 0])), (b1, .inl (cI, 1361, .inl (fun _ => 0))), (b2, .inl (cI, 8166, .inl (fun _ => 0))), (b3, .inl (cI, 1361, .inl (fun _ => 0))), (b4, .inl (cI, 12, .inl (fun _ => 0))), (b5, .inl (cI, 12, .inl (fun _ => 0))), (b6, .inl (cI, 160, .inl (fun _ => 0))), (b7, .inl (cI, 13, .inl (fun _ => 0)))]) (ty := .array .int) C hnm dX4_init_61 0 3 10 tyX4 tyX4_ok nmX4 rfl rfl iX4 (by decide) (List.mem_of_getElem? (i := 11) rfl : Cond.fieldLink RX4 28 (TX4 10).1 (TX4 10).2.1 (TX4 10).2.2.1 ∈ wsX4_init) rfl rfl (tyX4_ok 10 (by decide)) rfl rfl (Nat.le_of_ble_eq_true rfl) rfl ?_
  refine gw_aload_n C dX4_init_64 0 rfl ?_
  refine gw_sipush (v := nI 2080) C dX4_init_65 rfl ?_
  refine gw_newi C 2080 dX4_init_68 (List.mem_of_getElem? (i := 4) rfl) (nI_pos (by decide)) (nI_clamp (by decide)) rfl (Nat.le_of_ble_eq_true rfl) (Nat.le_of_ble_eq_true rfl) (fun b8 => ?_)
  refine gw_putF (ws' := [(b0, .inr (3, [.int 0, .ref b1, .ref b2, .int 0, .ref b3, .ref b4, .int 0, .ref b5, .int 0, .ref b6, .ref b7, .int 0, .int 0, .ref b8, .null, .long 0])), (b1, .inl (cI, 1361, .inl (fun _ => 0))), (b2, .inl (cI, 8166, .inl (fun _ => 0))), (b3, .inl (cI, 1361, .inl (fun _ => 0))), (b4, .inl (cI, 12, .inl (fun _ => 0))), (b5, .inl (cI, 12, .inl (fun _ => 0))), (b6, .inl (cI, 160, .inl (fun _ => 0))), (b7, .inl (cI, 13, .inl (fun _ => 0))), (b8, .inl (cI, 2080, .inl (fun _ => 0)))]) (ty := .array .int) C hnm dX4_init_70 0 3 13 tyX4 tyX4_ok nmX4 rfl rfl iX4 (by decide) (List.mem_of_getElem? (i := 12) rfl : Cond.fieldLink RX4 31 (TX4 13).1 (TX4 13).2.1 (TX4 13).2.2.1 ∈ wsX4_init) rfl rfl (tyX4_ok 13 (by decide)) rfl rfl (Nat.le_of_ble_eq_true rfl) rfl ?_
  refine gw_aload_n C dX4_init_73 0 rfl ?_
  refine gw_bipush (v := nI 12) C dX4_init_74 rfl ?_
  refine gw_newi C 12 dX4_init_76 (List.mem_of_getElem? (i := 4) rfl) (nI_pos (by decide)) (nI_clamp (by decide)) rfl (Nat.le_of_ble_eq_true rfl) (Nat.le_of_ble_eq_true rfl) (fun b9 => ?_)
  refine gw_putF (ws' := [(b0, .inr (3, [.int 0, .ref b1, .ref b2, .int 0, .ref b3, .ref b4, .int 0, .ref b5, .int 0, .ref b6, .ref b7, .int 0, .int 0, .ref b8, .ref b9, .long 0])), (b1, .inl (cI, 1361, .inl (fun _ => 0))), (b2, .inl (cI, 8166, .inl (fun _ => 0))), (b3, .inl (cI, 1361, .inl (fun _ => 0))), (b4, .inl (cI, 12, .inl (fun _ => 0))), (b5, .inl (cI, 12, .inl (fun _ => 0))), (b6, .inl (cI, 160, .inl (fun _ => 0))), (b7, .inl (cI, 13, .inl (fun _ => 0))), (b8, .inl (cI, 2080, .inl (fun _ => 0))), (b9, .inl (cI, 12, .inl (fun _ => 0)))]) (ty := .array .int) C hnm dX4_init_78 0 3 14 tyX4 tyX4_ok nmX4 rfl rfl iX4 (by decide) (List.mem_of_getElem? (i := 13) rfl : Cond.fieldLink RX4 34 (TX4 14).1 (TX4 14).2.1 (TX4 14).2.2.1 ∈ wsX4_init) rfl rfl (tyX4_ok 14 (by decide)) rfl rfl (Nat.le_of_ble_eq_true rfl) rfl ?_
  refine gw_aload_n C dX4_init_81 0 rfl ?_
  refine gw_whole (st2 := []) C (run_V (rest := []) C (c_X4_clearTable l D cI cJ cO (adM b0 b1 b2 b3 b4 b5 b6 b7 b8 b9) newM h) w_clear 0 3 rfl rfl rfl rfl rfl (Nat.le_of_ble_eq_true rfl) dX4_init_82 ⟨(Nat.le_of_ble_eq_true rfl), (Nat.le_of_ble_eq_true rfl)⟩) rfl ?_
  exact gw_vretE C dX4_init_85 ⟨(adM b0 b1 b2 b3 b4 b5 b6 b7 b8 b9), o, h, rfl, rfl⟩
theorem hd_X3_init : yX3_init.cls ≠ "java/lang/invoke/MethodHandle" ∧ yX3_init.cls ≠ "java/lang/invoke/VarHandle" ∧ (parseMethodDescriptor yX3_init.desc).map (fun d => d.parameters.length) = some 0 := by decide +kernel
set_option maxHeartbeats 4000000 in
set_option maxRecDepth 100000 in
theorem c_X3_init (l : Launch) (D : va_G) (cI cJ cO : ClassId) (aP : Nat) : CtE l D (tysA cI cJ cO) yX3_init wsX3_init (rmOfE 3 89 9694 54) [.ref aP] [(aP, .inr (2, [.null, .null, .null, .int 0, .long 0, .int 0]))] (fun W1 => ∃ (bT bR : Nat → Nat) (aS : Nat) (ad : Nat → Nat → Nat), W1 = wP cI cJ cO aP bT bR aS ((newT, newT, 0, 0, 0), (ad, fun _ => newT))) 89 9694 := by
  refine CtE_of (own := RX3) cX3_init 2 (by decide +kernel) rfl rfl (Nat.le_of_ble_eq_true rfl) ?_
  intro p e s m args below meth c A C hao hnm
  have iX3 : ∀ w ∈ u_ws RX3 TX3 6, w ∈ wsX3_init := fun w h => List.mem_cons_of_mem _ (List.mem_append_left _ (List.mem_append_right _ h))
  have iX1 : ∀ w ∈ u_ws RX1 TX1 9, w ∈ wsX3_init := fun w h => List.mem_cons_of_mem _ (List.mem_append_left _ (List.mem_append_left _ (List.mem_append_right _ h)))
  have w_init : CallB (rmOfE 3 89 9694 54) s args RX3 11 yX1_init cX1_init 1 none wsX1_init (rmOfE 2 10 1202 34) 10 1202 0 ∧ yX1_init.name = "<init>" ∧ (Cond.instanceMethod yX1_init).before args s = true := cwI 0 C.1.2.2.2.2 gX3_init_X1_init rfl rfl rfl (C.1.2.2.2.2 _ (List.mem_of_getElem? (i := 6) rfl)) (C.1.2.2.2.2 _ (List.mem_of_getElem? (i := 13) rfl)) (C.1.2.2.2.2 _ (List.mem_of_getElem? (i := 14) rfl)) rfl hd_X1_init ⟨(Nat.le_of_ble_eq_true rfl), (Nat.le_of_ble_eq_true rfl)⟩
  show gw_G p l e (rmOfE 3 89 9694 54) s m args below meth c D A (CtME D below (fun W1 => ∃ (bT bR : Nat → Nat) (aS : Nat) (ad : Nat → Nat → Nat), W1 = wP cI cJ cO aP bT bR aS ((newT, newT, 0, 0, 0), (ad, fun _ => newT))) A args s 89 9694) 2 0 0 [(aP, .inr (2, [.null, .null, .null, .int 0, .long 0, .int 0]))] [(0, .ref aP)] 0 []
  refine gw_aload_n C dX3_init_0 0 rfl ?_
  refine gw_oinit C dX3_init_1 (List.mem_of_getElem? (i := 1) rfl) (List.mem_of_getElem? (i := 2) rfl) (List.mem_of_getElem? (i := 3) rfl) (Nat.le_of_ble_eq_true rfl) (Nat.le_of_ble_eq_true rfl) ?_
  refine gw_aload_n C dX3_init_4 0 rfl ?_
  refine gw_new (Cn := RX1) (T := TX1) (N := 9) C 1 [.null, .null, .null, .null, .null, .null, .null, .null, .int 0] dX3_init_5 iX1 tyX1 tyX1_ok (List.mem_of_getElem? (i := 4) rfl) (List.mem_of_getElem? (i := 5) rfl) (List.mem_of_getElem? (i := 6) rfl) rfl (fun j hj => by rcases (show j = 0 ∨ j = 1 ∨ j = 2 ∨ j = 3 ∨ j = 4 ∨ j = 5 ∨ j = 6 ∨ j = 7 ∨ j = 8 by omega) with rfl | rfl | rfl | rfl | rfl | rfl | rfl | rfl | rfl <;> rfl) (Nat.le_of_ble_eq_true rfl) (Nat.le_of_ble_eq_true rfl) (fun q0 => ?_)
  refine gw_dup C dX3_init_8 rfl ?_
  refine gw_callE (u := [(aP, .inr (2, [.null, .null, .null, .int 0, .long 0, .int 0]))]) (W0 := [(q0, .inr (1, [.null, .null, .null, .null, .null, .null, .null, .null, .int 0]))]) C hao dX3_init_9 (c_X1_init l D cI cJ cO q0) w_init rfl (Nat.le_of_ble_eq_true rfl) ⟨(Nat.le_of_ble_eq_true rfl), (Nat.le_of_ble_eq_true rfl)⟩ (fun W1 hW1 => ?_)
  obtain ⟨bT, rfl, rfl⟩ := hW1
  refine gw_putF (ws' := [(aP, .inr (2, [.ref (bT 0), .null, .null, .int 0, .long 0, .int 0]))] ++ wT cI cJ bT newT) (ty := .object "PackedWords$Table") C hnm dX3_init_12 0 2 0 tyX3 tyX3_ok nmX3 rfl rfl iX3 (by decide) (List.mem_of_getElem? (i := 7) rfl : Cond.fieldLink RX3 12 (TX3 0).1 (TX3 0).2.1 (TX3 0).2.2.1 ∈ wsX3_init) rfl rfl (tyX3_ok 0 (by decide)) rfl rfl (Nat.le_of_ble_eq_true rfl) rfl ?_
  refine gw_aload_n C dX3_init_15 0 rfl ?_
  refine gw_new (Cn := RX1) (T := TX1) (N := 9) C 1 [.null, .null, .null, .null, .null, .null, .null, .null, .int 0] dX3_init_16 iX1 tyX1 tyX1_ok (List.mem_of_getElem? (i := 4) rfl) (List.mem_of_getElem? (i := 5) rfl) (List.mem_of_getElem? (i := 6) rfl) rfl (fun j hj => by rcases (show j = 0 ∨ j = 1 ∨ j = 2 ∨ j = 3 ∨ j = 4 ∨ j = 5 ∨ j = 6 ∨ j = 7 ∨ j = 8 by omega) with rfl | rfl | rfl | rfl | rfl | rfl | rfl | rfl | rfl <;> rfl) (Nat.le_of_ble_eq_true rfl) (Nat.le_of_ble_eq_true rfl) (fun q1 => ?_)
  refine gw_dup C dX3_init_19 rfl ?_
  refine gw_callE (u := ([(aP, .inr (2, [.ref (bT 0), .null, .null, .int 0, .long 0, .int 0]))] ++ wT cI cJ bT newT)) (W0 := [(q1, .inr (1, [.null, .null, .null, .null, .null, .null, .null, .null, .int 0]))]) C hao dX3_init_20 (c_X1_init l D cI cJ cO q1) w_init rfl (Nat.le_of_ble_eq_true rfl) ⟨(Nat.le_of_ble_eq_true rfl), (Nat.le_of_ble_eq_true rfl)⟩ (fun W1 hW1 => ?_)
  obtain ⟨bR, rfl, rfl⟩ := hW1
  refine gw_putF (ws' := ([(aP, .inr (2, [.ref (bT 0), .ref (bR 0), .null, .int 0, .long 0, .int 0]))] ++ wT cI cJ bT newT) ++ wT cI cJ bR newT) (ty := .object "PackedWords$Table") C hnm dX3_init_23 0 2 1 tyX3 tyX3_ok nmX3 rfl rfl iX3 (by decide) (List.mem_of_getElem? (i := 8) rfl : Cond.fieldLink RX3 16 (TX3 1).1 (TX3 1).2.1 (TX3 1).2.2.1 ∈ wsX3_init) rfl rfl (tyX3_ok 1 (by decide)) rfl rfl (Nat.le_of_ble_eq_true rfl) rfl ?_
  refine gw_aload_n C dX3_init_26 0 rfl ?_
  refine gw_bipush (v := nI 6) C dX3_init_27 rfl ?_
  refine gw_newq C hao 6 dX3_init_29 (List.mem_of_getElem? (i := 4) rfl) (nI_pos (by decide)) (nI_clamp (by decide)) rfl (Nat.le_of_ble_eq_true rfl) (Nat.le_of_ble_eq_true rfl) (fun aS => ?_)
  refine gw_putF (ws' := ((([(aP, .inr (2, [.ref (bT 0), .ref (bR 0), .ref aS, .int 0, .long 0, .int 0]))] ++ wT cI cJ bT newT) ++ wT cI cJ bR newT) ++ wR cO aS (fun _ => none))) (ty := .array (.object "PackedWords$Table")) C hnm dX3_init_32 0 2 2 tyX3 tyX3_ok nmX3 rfl rfl iX3 (by decide) (List.mem_of_getElem? (i := 9) rfl : Cond.fieldLink RX3 19 (TX3 2).1 (TX3 2).2.1 (TX3 2).2.2.1 ∈ wsX3_init) rfl rfl (tyX3_ok 2 (by decide)) rfl rfl (Nat.le_of_ble_eq_true rfl) rfl ?_
  refine gw_iconst (v := nI 0) C dX3_init_35 rfl ?_
  refine gw_istore_n C dX3_init_36 [(1, .int (nI 0)), (0, .ref aP)] rfl (by decide) rfl ?_
  refine gw_iload_n C dX3_init_37 0 rfl ?_
  refine gw_aload_n C dX3_init_38 1 rfl ?_
  refine gw_get C dX3_init_39 0 2 2 rfl rfl iX3 (by decide) (List.mem_of_getElem? (i := 9) rfl : Cond.fieldLink RX3 19 (TX3 2).1 (TX3 2).2.1 (TX3 2).2.2.1 ∈ wsX3_init) rfl ?_
  refine gw_alen (v := nI 6) C dX3_init_42 23 2 rfl rfl rfl ?_
  refine gw_icmp_ge (Φ := fun _ : Unit => True) (X := ()) (Y := ()) (tgt := 65) C dX3_init_43 (by decide) trivial (fun c1 _ => absurd c1 (nI_ge (by decide) (by decide))) (fun c1 _ => ?_)
  refine gw_aload_n C dX3_init_46 1 rfl ?_
  refine gw_get C dX3_init_47 0 2 2 rfl rfl iX3 (by decide) (List.mem_of_getElem? (i := 9) rfl : Cond.fieldLink RX3 19 (TX3 2).1 (TX3 2).2.1 (TX3 2).2.2.1 ∈ wsX3_init) rfl ?_
  refine gw_iload_n C dX3_init_50 0 rfl ?_
  refine gw_new (Cn := RX1) (T := TX1) (N := 9) C 1 [.null, .null, .null, .null, .null, .null, .null, .null, .int 0] dX3_init_51 iX1 tyX1 tyX1_ok (List.mem_of_getElem? (i := 4) rfl) (List.mem_of_getElem? (i := 5) rfl) (List.mem_of_getElem? (i := 6) rfl) rfl (fun j hj => by rcases (show j = 0 ∨ j = 1 ∨ j = 2 ∨ j = 3 ∨ j = 4 ∨ j = 5 ∨ j = 6 ∨ j = 7 ∨ j = 8 by omega) with rfl | rfl | rfl | rfl | rfl | rfl | rfl | rfl | rfl <;> rfl) (Nat.le_of_ble_eq_true rfl) (Nat.le_of_ble_eq_true rfl) (fun r0 => ?_)
  refine gw_dup C dX3_init_54 rfl ?_
  refine gw_callE (u := ((([(aP, .inr (2, [.ref (bT 0), .ref (bR 0), .ref aS, .int 0, .long 0, .int 0]))] ++ wT cI cJ bT newT) ++ wT cI cJ bR newT) ++ wR cO aS (fun _ => none))) (W0 := [(r0, .inr (1, [.null, .null, .null, .null, .null, .null, .null, .null, .int 0]))]) C hao dX3_init_55 (c_X1_init l D cI cJ cO r0) w_init rfl (Nat.le_of_ble_eq_true rfl) ⟨(Nat.le_of_ble_eq_true rfl), (Nat.le_of_ble_eq_true rfl)⟩ (fun W1 hW1 => ?_)
  obtain ⟨s0, rfl, rfl⟩ := hW1
  refine gw_aast (ws' := (((([(aP, .inr (2, [.ref (bT 0), .ref (bR 0), .ref aS, .int 0, .long 0, .int 0]))] ++ wT cI cJ bT newT) ++ wT cI cJ bR newT) ++ wR cO aS (fun j => if j = 0 then some (s0 0) else (fun _ => none) j))) ++ wT cI cJ s0 newT) C dX3_init_58 23 2 24 1 rfl rfl rfl rfl (nI_in (by decide) (by decide)) (by rw [nI_clamp (by decide)]; rfl) ?_
  refine gw_iinc (v := nI 1) C dX3_init_59 [(1, .int (nI 1)), (0, .ref aP)] 0 rfl (by decide) (by decide) rfl ?_
  refine gw_goto (tgt := 37) C dX3_init_62 (by decide) ?_
  refine gw_iload_n C dX3_init_37 0 rfl ?_
  refine gw_aload_n C dX3_init_38 1 rfl ?_
  refine gw_get C dX3_init_39 0 2 2 rfl rfl iX3 (by decide) (List.mem_of_getElem? (i := 9) rfl : Cond.fieldLink RX3 19 (TX3 2).1 (TX3 2).2.1 (TX3 2).2.2.1 ∈ wsX3_init) rfl ?_
  refine gw_alen (v := nI 6) C dX3_init_42 23 2 rfl rfl rfl ?_
  refine gw_icmp_ge (Φ := fun _ : Unit => True) (X := ()) (Y := ()) (tgt := 65) C dX3_init_43 (by decide) trivial (fun c1 _ => absurd c1 (nI_ge (by decide) (by decide))) (fun c1 _ => ?_)
  refine gw_aload_n C dX3_init_46 1 rfl ?_
  refine gw_get C dX3_init_47 0 2 2 rfl rfl iX3 (by decide) (List.mem_of_getElem? (i := 9) rfl : Cond.fieldLink RX3 19 (TX3 2).1 (TX3 2).2.1 (TX3 2).2.2.1 ∈ wsX3_init) rfl ?_
  refine gw_iload_n C dX3_init_50 0 rfl ?_
  refine gw_new (Cn := RX1) (T := TX1) (N := 9) C 1 [.null, .null, .null, .null, .null, .null, .null, .null, .int 0] dX3_init_51 iX1 tyX1 tyX1_ok (List.mem_of_getElem? (i := 4) rfl) (List.mem_of_getElem? (i := 5) rfl) (List.mem_of_getElem? (i := 6) rfl) rfl (fun j hj => by rcases (show j = 0 ∨ j = 1 ∨ j = 2 ∨ j = 3 ∨ j = 4 ∨ j = 5 ∨ j = 6 ∨ j = 7 ∨ j = 8 by omega) with rfl | rfl | rfl | rfl | rfl | rfl | rfl | rfl | rfl <;> rfl) (Nat.le_of_ble_eq_true rfl) (Nat.le_of_ble_eq_true rfl) (fun r1 => ?_)
  refine gw_dup C dX3_init_54 rfl ?_
  refine gw_callE (u := ((((([(aP, .inr (2, [.ref (bT 0), .ref (bR 0), .ref aS, .int 0, .long 0, .int 0]))] ++ wT cI cJ bT newT) ++ wT cI cJ bR newT) ++ wR cO aS (fun j => if j = 0 then some (s0 0) else (fun _ => none) j))) ++ wT cI cJ s0 newT)) (W0 := [(r1, .inr (1, [.null, .null, .null, .null, .null, .null, .null, .null, .int 0]))]) C hao dX3_init_55 (c_X1_init l D cI cJ cO r1) w_init rfl (Nat.le_of_ble_eq_true rfl) ⟨(Nat.le_of_ble_eq_true rfl), (Nat.le_of_ble_eq_true rfl)⟩ (fun W1 hW1 => ?_)
  obtain ⟨s1, rfl, rfl⟩ := hW1
  refine gw_aast (ws' := ((((([(aP, .inr (2, [.ref (bT 0), .ref (bR 0), .ref aS, .int 0, .long 0, .int 0]))] ++ wT cI cJ bT newT) ++ wT cI cJ bR newT) ++ wR cO aS (fun j => if j = 1 then some (s1 0) else (fun j => if j = 0 then some (s0 0) else (fun _ => none) j) j))) ++ wT cI cJ s0 newT) ++ wT cI cJ s1 newT) C dX3_init_58 23 2 35 1 rfl rfl rfl rfl (nI_in (by decide) (by decide)) (by rw [nI_clamp (by decide)]; rfl) ?_
  refine gw_iinc (v := nI 2) C dX3_init_59 [(1, .int (nI 2)), (0, .ref aP)] 0 rfl (by decide) (by decide) rfl ?_
  refine gw_goto (tgt := 37) C dX3_init_62 (by decide) ?_
  refine gw_iload_n C dX3_init_37 0 rfl ?_
  refine gw_aload_n C dX3_init_38 1 rfl ?_
  refine gw_get C dX3_init_39 0 2 2 rfl rfl iX3 (by decide) (List.mem_of_getElem? (i := 9) rfl : Cond.fieldLink RX3 19 (TX3 2).1 (TX3 2).2.1 (TX3 2).2.2.1 ∈ wsX3_init) rfl ?_
  refine gw_alen (v := nI 6) C dX3_init_42 23 2 rfl rfl rfl ?_
  refine gw_icmp_ge (Φ := fun _ : Unit => True) (X := ()) (Y := ()) (tgt := 65) C dX3_init_43 (by decide) trivial (fun c1 _ => absurd c1 (nI_ge (by decide) (by decide))) (fun c1 _ => ?_)
  refine gw_aload_n C dX3_init_46 1 rfl ?_
  refine gw_get C dX3_init_47 0 2 2 rfl rfl iX3 (by decide) (List.mem_of_getElem? (i := 9) rfl : Cond.fieldLink RX3 19 (TX3 2).1 (TX3 2).2.1 (TX3 2).2.2.1 ∈ wsX3_init) rfl ?_
  refine gw_iload_n C dX3_init_50 0 rfl ?_
  refine gw_new (Cn := RX1) (T := TX1) (N := 9) C 1 [.null, .null, .null, .null, .null, .null, .null, .null, .int 0] dX3_init_51 iX1 tyX1 tyX1_ok (List.mem_of_getElem? (i := 4) rfl) (List.mem_of_getElem? (i := 5) rfl) (List.mem_of_getElem? (i := 6) rfl) rfl (fun j hj => by rcases (show j = 0 ∨ j = 1 ∨ j = 2 ∨ j = 3 ∨ j = 4 ∨ j = 5 ∨ j = 6 ∨ j = 7 ∨ j = 8 by omega) with rfl | rfl | rfl | rfl | rfl | rfl | rfl | rfl | rfl <;> rfl) (Nat.le_of_ble_eq_true rfl) (Nat.le_of_ble_eq_true rfl) (fun r2 => ?_)
  refine gw_dup C dX3_init_54 rfl ?_
  refine gw_callE (u := (((((([(aP, .inr (2, [.ref (bT 0), .ref (bR 0), .ref aS, .int 0, .long 0, .int 0]))] ++ wT cI cJ bT newT) ++ wT cI cJ bR newT) ++ wR cO aS (fun j => if j = 1 then some (s1 0) else (fun j => if j = 0 then some (s0 0) else (fun _ => none) j) j))) ++ wT cI cJ s0 newT) ++ wT cI cJ s1 newT)) (W0 := [(r2, .inr (1, [.null, .null, .null, .null, .null, .null, .null, .null, .int 0]))]) C hao dX3_init_55 (c_X1_init l D cI cJ cO r2) w_init rfl (Nat.le_of_ble_eq_true rfl) ⟨(Nat.le_of_ble_eq_true rfl), (Nat.le_of_ble_eq_true rfl)⟩ (fun W1 hW1 => ?_)
  obtain ⟨s2, rfl, rfl⟩ := hW1
  refine gw_aast (ws' := (((((([(aP, .inr (2, [.ref (bT 0), .ref (bR 0), .ref aS, .int 0, .long 0, .int 0]))] ++ wT cI cJ bT newT) ++ wT cI cJ bR newT) ++ wR cO aS (fun j => if j = 2 then some (s2 0) else (fun j => if j = 1 then some (s1 0) else (fun j => if j = 0 then some (s0 0) else (fun _ => none) j) j) j))) ++ wT cI cJ s0 newT) ++ wT cI cJ s1 newT) ++ wT cI cJ s2 newT) C dX3_init_58 23 2 46 1 rfl rfl rfl rfl (nI_in (by decide) (by decide)) (by rw [nI_clamp (by decide)]; rfl) ?_
  refine gw_iinc (v := nI 3) C dX3_init_59 [(1, .int (nI 3)), (0, .ref aP)] 0 rfl (by decide) (by decide) rfl ?_
  refine gw_goto (tgt := 37) C dX3_init_62 (by decide) ?_
  refine gw_iload_n C dX3_init_37 0 rfl ?_
  refine gw_aload_n C dX3_init_38 1 rfl ?_
  refine gw_get C dX3_init_39 0 2 2 rfl rfl iX3 (by decide) (List.mem_of_getElem? (i := 9) rfl : Cond.fieldLink RX3 19 (TX3 2).1 (TX3 2).2.1 (TX3 2).2.2.1 ∈ wsX3_init) rfl ?_
  refine gw_alen (v := nI 6) C dX3_init_42 23 2 rfl rfl rfl ?_
  refine gw_icmp_ge (Φ := fun _ : Unit => True) (X := ()) (Y := ()) (tgt := 65) C dX3_init_43 (by decide) trivial (fun c1 _ => absurd c1 (nI_ge (by decide) (by decide))) (fun c1 _ => ?_)
  refine gw_aload_n C dX3_init_46 1 rfl ?_
  refine gw_get C dX3_init_47 0 2 2 rfl rfl iX3 (by decide) (List.mem_of_getElem? (i := 9) rfl : Cond.fieldLink RX3 19 (TX3 2).1 (TX3 2).2.1 (TX3 2).2.2.1 ∈ wsX3_init) rfl ?_
  refine gw_iload_n C dX3_init_50 0 rfl ?_
  refine gw_new (Cn := RX1) (T := TX1) (N := 9) C 1 [.null, .null, .null, .null, .null, .null, .null, .null, .int 0] dX3_init_51 iX1 tyX1 tyX1_ok (List.mem_of_getElem? (i := 4) rfl) (List.mem_of_getElem? (i := 5) rfl) (List.mem_of_getElem? (i := 6) rfl) rfl (fun j hj => by rcases (show j = 0 ∨ j = 1 ∨ j = 2 ∨ j = 3 ∨ j = 4 ∨ j = 5 ∨ j = 6 ∨ j = 7 ∨ j = 8 by omega) with rfl | rfl | rfl | rfl | rfl | rfl | rfl | rfl | rfl <;> rfl) (Nat.le_of_ble_eq_true rfl) (Nat.le_of_ble_eq_true rfl) (fun r3 => ?_)
  refine gw_dup C dX3_init_54 rfl ?_
  refine gw_callE (u := ((((((([(aP, .inr (2, [.ref (bT 0), .ref (bR 0), .ref aS, .int 0, .long 0, .int 0]))] ++ wT cI cJ bT newT) ++ wT cI cJ bR newT) ++ wR cO aS (fun j => if j = 2 then some (s2 0) else (fun j => if j = 1 then some (s1 0) else (fun j => if j = 0 then some (s0 0) else (fun _ => none) j) j) j))) ++ wT cI cJ s0 newT) ++ wT cI cJ s1 newT) ++ wT cI cJ s2 newT)) (W0 := [(r3, .inr (1, [.null, .null, .null, .null, .null, .null, .null, .null, .int 0]))]) C hao dX3_init_55 (c_X1_init l D cI cJ cO r3) w_init rfl (Nat.le_of_ble_eq_true rfl) ⟨(Nat.le_of_ble_eq_true rfl), (Nat.le_of_ble_eq_true rfl)⟩ (fun W1 hW1 => ?_)
  obtain ⟨s3, rfl, rfl⟩ := hW1
  refine gw_aast (ws' := ((((((([(aP, .inr (2, [.ref (bT 0), .ref (bR 0), .ref aS, .int 0, .long 0, .int 0]))] ++ wT cI cJ bT newT) ++ wT cI cJ bR newT) ++ wR cO aS (fun j => if j = 3 then some (s3 0) else (fun j => if j = 2 then some (s2 0) else (fun j => if j = 1 then some (s1 0) else (fun j => if j = 0 then some (s0 0) else (fun _ => none) j) j) j) j))) ++ wT cI cJ s0 newT) ++ wT cI cJ s1 newT) ++ wT cI cJ s2 newT) ++ wT cI cJ s3 newT) C dX3_init_58 23 2 57 1 rfl rfl rfl rfl (nI_in (by decide) (by decide)) (by rw [nI_clamp (by decide)]; rfl) ?_
  refine gw_iinc (v := nI 4) C dX3_init_59 [(1, .int (nI 4)), (0, .ref aP)] 0 rfl (by decide) (by decide) rfl ?_
  refine gw_goto (tgt := 37) C dX3_init_62 (by decide) ?_
  refine gw_iload_n C dX3_init_37 0 rfl ?_
  refine gw_aload_n C dX3_init_38 1 rfl ?_
  refine gw_get C dX3_init_39 0 2 2 rfl rfl iX3 (by decide) (List.mem_of_getElem? (i := 9) rfl : Cond.fieldLink RX3 19 (TX3 2).1 (TX3 2).2.1 (TX3 2).2.2.1 ∈ wsX3_init) rfl ?_
  refine gw_alen (v := nI 6) C dX3_init_42 23 2 rfl rfl rfl ?_
  refine gw_icmp_ge (Φ := fun _ : Unit => True) (X := ()) (Y := ()) (tgt := 65) C dX3_init_43 (by decide) trivial (fun c1 _ => absurd c1 (nI_ge (by decide) (by decide))) (fun c1 _ => ?_)
  refine gw_aload_n C dX3_init_46 1 rfl ?_
  refine gw_get C dX3_init_47 0 2 2 rfl rfl iX3 (by decide) (List.mem_of_getElem? (i := 9) rfl : Cond.fieldLink RX3 19 (TX3 2).1 (TX3 2).2.1 (TX3 2).2.2.1 ∈ wsX3_init) rfl ?_
  refine gw_iload_n C dX3_init_50 0 rfl ?_
  refine gw_new (Cn := RX1) (T := TX1) (N := 9) C 1 [.null, .null, .null, .null, .null, .null, .null, .null, .int 0] dX3_init_51 iX1 tyX1 tyX1_ok (List.mem_of_getElem? (i := 4) rfl) (List.mem_of_getElem? (i := 5) rfl) (List.mem_of_getElem? (i := 6) rfl) rfl (fun j hj => by rcases (show j = 0 ∨ j = 1 ∨ j = 2 ∨ j = 3 ∨ j = 4 ∨ j = 5 ∨ j = 6 ∨ j = 7 ∨ j = 8 by omega) with rfl | rfl | rfl | rfl | rfl | rfl | rfl | rfl | rfl <;> rfl) (Nat.le_of_ble_eq_true rfl) (Nat.le_of_ble_eq_true rfl) (fun r4 => ?_)
  refine gw_dup C dX3_init_54 rfl ?_
  refine gw_callE (u := (((((((([(aP, .inr (2, [.ref (bT 0), .ref (bR 0), .ref aS, .int 0, .long 0, .int 0]))] ++ wT cI cJ bT newT) ++ wT cI cJ bR newT) ++ wR cO aS (fun j => if j = 3 then some (s3 0) else (fun j => if j = 2 then some (s2 0) else (fun j => if j = 1 then some (s1 0) else (fun j => if j = 0 then some (s0 0) else (fun _ => none) j) j) j) j))) ++ wT cI cJ s0 newT) ++ wT cI cJ s1 newT) ++ wT cI cJ s2 newT) ++ wT cI cJ s3 newT)) (W0 := [(r4, .inr (1, [.null, .null, .null, .null, .null, .null, .null, .null, .int 0]))]) C hao dX3_init_55 (c_X1_init l D cI cJ cO r4) w_init rfl (Nat.le_of_ble_eq_true rfl) ⟨(Nat.le_of_ble_eq_true rfl), (Nat.le_of_ble_eq_true rfl)⟩ (fun W1 hW1 => ?_)
  obtain ⟨s4, rfl, rfl⟩ := hW1
  refine gw_aast (ws' := (((((((([(aP, .inr (2, [.ref (bT 0), .ref (bR 0), .ref aS, .int 0, .long 0, .int 0]))] ++ wT cI cJ bT newT) ++ wT cI cJ bR newT) ++ wR cO aS (fun j => if j = 4 then some (s4 0) else (fun j => if j = 3 then some (s3 0) else (fun j => if j = 2 then some (s2 0) else (fun j => if j = 1 then some (s1 0) else (fun j => if j = 0 then some (s0 0) else (fun _ => none) j) j) j) j) j))) ++ wT cI cJ s0 newT) ++ wT cI cJ s1 newT) ++ wT cI cJ s2 newT) ++ wT cI cJ s3 newT) ++ wT cI cJ s4 newT) C dX3_init_58 23 2 68 1 rfl rfl rfl rfl (nI_in (by decide) (by decide)) (by rw [nI_clamp (by decide)]; rfl) ?_
  refine gw_iinc (v := nI 5) C dX3_init_59 [(1, .int (nI 5)), (0, .ref aP)] 0 rfl (by decide) (by decide) rfl ?_
  refine gw_goto (tgt := 37) C dX3_init_62 (by decide) ?_
  refine gw_iload_n C dX3_init_37 0 rfl ?_
  refine gw_aload_n C dX3_init_38 1 rfl ?_
  refine gw_get C dX3_init_39 0 2 2 rfl rfl iX3 (by decide) (List.mem_of_getElem? (i := 9) rfl : Cond.fieldLink RX3 19 (TX3 2).1 (TX3 2).2.1 (TX3 2).2.2.1 ∈ wsX3_init) rfl ?_
  refine gw_alen (v := nI 6) C dX3_init_42 23 2 rfl rfl rfl ?_
  refine gw_icmp_ge (Φ := fun _ : Unit => True) (X := ()) (Y := ()) (tgt := 65) C dX3_init_43 (by decide) trivial (fun c1 _ => absurd c1 (nI_ge (by decide) (by decide))) (fun c1 _ => ?_)
  refine gw_aload_n C dX3_init_46 1 rfl ?_
  refine gw_get C dX3_init_47 0 2 2 rfl rfl iX3 (by decide) (List.mem_of_getElem? (i := 9) rfl : Cond.fieldLink RX3 19 (TX3 2).1 (TX3 2).2.1 (TX3 2).2.2.1 ∈ wsX3_init) rfl ?_
  refine gw_iload_n C dX3_init_50 0 rfl ?_
  refine gw_new (Cn := RX1) (T := TX1) (N := 9) C 1 [.null, .null, .null, .null, .null, .null, .null, .null, .int 0] dX3_init_51 iX1 tyX1 tyX1_ok (List.mem_of_getElem? (i := 4) rfl) (List.mem_of_getElem? (i := 5) rfl) (List.mem_of_getElem? (i := 6) rfl) rfl (fun j hj => by rcases (show j = 0 ∨ j = 1 ∨ j = 2 ∨ j = 3 ∨ j = 4 ∨ j = 5 ∨ j = 6 ∨ j = 7 ∨ j = 8 by omega) with rfl | rfl | rfl | rfl | rfl | rfl | rfl | rfl | rfl <;> rfl) (Nat.le_of_ble_eq_true rfl) (Nat.le_of_ble_eq_true rfl) (fun r5 => ?_)
  refine gw_dup C dX3_init_54 rfl ?_
  refine gw_callE (u := ((((((((([(aP, .inr (2, [.ref (bT 0), .ref (bR 0), .ref aS, .int 0, .long 0, .int 0]))] ++ wT cI cJ bT newT) ++ wT cI cJ bR newT) ++ wR cO aS (fun j => if j = 4 then some (s4 0) else (fun j => if j = 3 then some (s3 0) else (fun j => if j = 2 then some (s2 0) else (fun j => if j = 1 then some (s1 0) else (fun j => if j = 0 then some (s0 0) else (fun _ => none) j) j) j) j) j))) ++ wT cI cJ s0 newT) ++ wT cI cJ s1 newT) ++ wT cI cJ s2 newT) ++ wT cI cJ s3 newT) ++ wT cI cJ s4 newT)) (W0 := [(r5, .inr (1, [.null, .null, .null, .null, .null, .null, .null, .null, .int 0]))]) C hao dX3_init_55 (c_X1_init l D cI cJ cO r5) w_init rfl (Nat.le_of_ble_eq_true rfl) ⟨(Nat.le_of_ble_eq_true rfl), (Nat.le_of_ble_eq_true rfl)⟩ (fun W1 hW1 => ?_)
  obtain ⟨s5, rfl, rfl⟩ := hW1
  refine gw_aast (ws' := ((((((((([(aP, .inr (2, [.ref (bT 0), .ref (bR 0), .ref aS, .int 0, .long 0, .int 0]))] ++ wT cI cJ bT newT) ++ wT cI cJ bR newT) ++ wR cO aS (fun j => if j = 5 then some (s5 0) else (fun j => if j = 4 then some (s4 0) else (fun j => if j = 3 then some (s3 0) else (fun j => if j = 2 then some (s2 0) else (fun j => if j = 1 then some (s1 0) else (fun j => if j = 0 then some (s0 0) else (fun _ => none) j) j) j) j) j) j))) ++ wT cI cJ s0 newT) ++ wT cI cJ s1 newT) ++ wT cI cJ s2 newT) ++ wT cI cJ s3 newT) ++ wT cI cJ s4 newT) ++ wT cI cJ s5 newT) C dX3_init_58 23 2 79 1 rfl rfl rfl rfl (nI_in (by decide) (by decide)) (by rw [nI_clamp (by decide)]; rfl) ?_
  refine gw_iinc (v := nI 6) C dX3_init_59 [(1, .int (nI 6)), (0, .ref aP)] 0 rfl (by decide) (by decide) rfl ?_
  refine gw_goto (tgt := 37) C dX3_init_62 (by decide) ?_
  refine gw_iload_n C dX3_init_37 0 rfl ?_
  refine gw_aload_n C dX3_init_38 1 rfl ?_
  refine gw_get C dX3_init_39 0 2 2 rfl rfl iX3 (by decide) (List.mem_of_getElem? (i := 9) rfl : Cond.fieldLink RX3 19 (TX3 2).1 (TX3 2).2.1 (TX3 2).2.2.1 ∈ wsX3_init) rfl ?_
  refine gw_alen (v := nI 6) C dX3_init_42 23 2 rfl rfl rfl ?_
  refine gw_icmp_ge (Φ := fun _ : Unit => True) (X := ()) (Y := ()) (tgt := 65) C dX3_init_43 (by decide) trivial (fun c1 _ => ?_) (fun c1 _ => absurd (nI_le (by decide) (by decide)) c1)
  refine gw_refs (q0 := 23) (g := fun i => some ((adS s0 s1 s2 s3 s4 s5) i 0)) (ws' := (((((((((([(aP, .inr (2, [.ref (bT 0), .ref (bR 0), .ref aS, .int 0, .long 0, .int 0]))] ++ wT cI cJ bT newT) ++ wT cI cJ bR newT) ++ wR cO aS (fun i => some ((adS s0 s1 s2 s3 s4 s5) i 0)))) ++ wT cI cJ s0 newT) ++ wT cI cJ s1 newT) ++ wT cI cJ s2 newT) ++ wT cI cJ s3 newT) ++ wT cI cJ s4 newT) ++ wT cI cJ s5 newT)) rfl (fun k hk => by
    have hk : k = 0 ∨ k = 1 ∨ k = 2 ∨ k = 3 ∨ k = 4 ∨ k = 5 := by omega
    rcases hk with rfl | rfl | rfl | rfl | rfl | rfl <;> rfl) rfl ?_
  have ew : (((((((((([(aP, .inr (2, [.ref (bT 0), .ref (bR 0), .ref aS, .int 0, .long 0, .int 0]))] ++ wT cI cJ bT newT) ++ wT cI cJ bR newT) ++ wR cO aS (fun i => some ((adS s0 s1 s2 s3 s4 s5) i 0)))) ++ wT cI cJ s0 newT) ++ wT cI cJ s1 newT) ++ wT cI cJ s2 newT) ++ wT cI cJ s3 newT) ++ wT cI cJ s4 newT) ++ wT cI cJ s5 newT) = wP cI cJ cO aP bT bR aS ((newT, newT, 0, 0, 0), ((adS s0 s1 s2 s3 s4 s5), fun _ => newT)) := by
    simp only [wP, wB, wO, List.flatten_cons, List.flatten_nil, List.append_assoc, List.append_nil, List.singleton_append, List.cons_append, List.nil_append]
    rfl
  rw [ew]
  refine gw_aload_n C dX3_init_65 1 rfl ?_
  refine gw_iconst (v := 0) C dX3_init_66 rfl ?_
  refine gw_put (ws' := wP cI cJ cO aP bT bR aS ((newT, newT, 0, 0, 0), ((adS s0 s1 s2 s3 s4 s5), fun _ => newT))) (ty := .int) C dX3_init_67 0 2 3 tyX3 tyX3_ok nmX3 rfl rfl iX3 (by decide) (List.mem_of_getElem? (i := 10) rfl : Cond.fieldLink RX3 23 (TX3 3).1 (TX3 3).2.1 (TX3 3).2.2.1 ∈ wsX3_init) rfl (tyX3_ok 3 (by decide)) rfl rfl (Nat.le_of_ble_eq_true rfl) rfl ?_
  refine gw_aload_n C dX3_init_70 1 rfl ?_
  refine gw_lconst (v := 0) C dX3_init_71 rfl ?_
  refine gw_put (ws' := wP cI cJ cO aP bT bR aS ((newT, newT, 0, 0, 0), ((adS s0 s1 s2 s3 s4 s5), fun _ => newT))) (ty := .long) C dX3_init_72 0 2 4 tyX3 tyX3_ok nmX3 rfl rfl iX3 (by decide) (List.mem_of_getElem? (i := 11) rfl : Cond.fieldLink RX3 27 (TX3 4).1 (TX3 4).2.1 (TX3 4).2.2.1 ∈ wsX3_init) rfl (tyX3_ok 4 (by decide)) rfl rfl (Nat.le_of_ble_eq_true rfl) rfl ?_
  refine gw_aload_n C dX3_init_75 1 rfl ?_
  refine gw_iconst (v := 0) C dX3_init_76 rfl ?_
  refine gw_put (ws' := wP cI cJ cO aP bT bR aS ((newT, newT, 0, 0, 0), ((adS s0 s1 s2 s3 s4 s5), fun _ => newT))) (ty := .int) C dX3_init_77 0 2 5 tyX3 tyX3_ok nmX3 rfl rfl iX3 (by decide) (List.mem_of_getElem? (i := 12) rfl : Cond.fieldLink RX3 31 (TX3 5).1 (TX3 5).2.1 (TX3 5).2.2.1 ∈ wsX3_init) rfl (tyX3_ok 5 (by decide)) rfl rfl (Nat.le_of_ble_eq_true rfl) rfl ?_
  exact gw_vretE C dX3_init_80 ⟨bT, bR, aS, (adS s0 s1 s2 s3 s4 s5), rfl⟩
