abbrev vwCl : List vw_C := [(RX0, TX0, 2), (RX1, TX1, 9), (RX3, TX3, 6), (RX4, TX4, 16)]
/-! one judgement over worlds and locals as lists; rows of the kit, said of it -/
def CtQ (D : va_G) (r : Option Value) (W1 : va_W) (A : Nat → Prop) : Array Value → State → Outcome → State → Prop := fun _ st oc t => (oc = .returned r ∧ va_P D vwCl W1 t.heap ∧ va_D A W1) ∧ va_F A st t
def nestW : List Cond := [.methodLinkNest RX0 28 yX3_copyRow "PackedWords", .methodLinkNest RX0 44 yX3_at "PackedWords", .methodLinkNest RX0 52 yX3_put "PackedWords", .methodLinkNest RX1 11 yX0_init "PackedWords", .methodLinkNest RX1 50 yX3_put "PackedWords", .methodLinkNest RX1 61 yX3_copyRow "PackedWords", .methodLinkNest RX1 85 yX3_at "PackedWords"]
theorem nestW_all (P : Cond → Prop) (h : ∀ (a : String) (i : Nat) (x : MethodName) (q : String), P (.methodLinkNest a i x q)) : ∀ w ∈ nestW, P w := by
  intro w hw
  simp only [nestW, List.mem_cons, List.not_mem_nil, or_false] at hw
  rcases hw with rfl | rfl | rfl | rfl | rfl | rfl | rfl <;> exact h _ _ _ _
theorem nestW_ot : ∀ w ∈ nestW, w.onTables = true := nestW_all _ (fun _ _ _ _ => rfl)
theorem nestW_warm {s U : State} (hW : s.WarmedH U.vm) (h : ∀ w ∈ nestW, va_Nw w s) : ∀ w ∈ nestW, va_Nw w U := by
  intro w hw
  have h1 := h w hw
  exact nestW_all (fun w => va_Nw w s → va_Nw w U) (fun _ _ _ _ hz => va_Nw.warmM hW hz) w hw h1
def CtP (D : va_G) (tys : List (ClassId × FieldType)) (av : List Value) (W0 : va_W) (sz : Nat) : Array Value → State → Prop := va_Pc av (fun U => U.heap.size = sz ∧ va_P D vwCl W0 U.heap ∧ (va_K D vwCl tys U ∧ ∀ w ∈ nestW, va_Nw w U) ∧ va_D (fun _ => True) W0)
/-- a method's contract: from the world W0 it answers r, and the world is W1 -/
def Ct (l : Launch) (D : va_G) (tys : List (ClassId × FieldType)) (y : MethodName) (ws : List Cond) (rm : Room) (av : List Value) (W0 : va_W) (r : Option Value) (W1 : va_W) : Prop :=
  ∀ sz : Nat, Met l y ws rm (CtP D tys av W0 sz) (CtQ D r W1 (va_A W0 sz)) 0 0 (va_A W0 sz)
abbrev CtM (D : va_G) (below : List Frame) (r : Option Value) (W1 : va_W) (A : Nat → Prop) (args : Array Value) (s : State) : State → Prop := MQ below (CtQ D r W1 A) args s 0 0 A
def rmOf (f lo : Nat) : Room := { frames := f, cells := 0, slots := 0, locals := lo }
theorem CtP_blind (D : va_G) (tys : List (ClassId × FieldType)) (av : List Value) (W0 : va_W) (sz : Nat) : FrameBlind (CtP D tys av W0 sz) := fun a U g mk q => by
  obtain ⟨q0, q1, qP, qK, qD⟩ := q
  exact ⟨q0, q1, qP, ⟨va_K.moved (u := U) (U := U.calling g mk a) (Vm.Alike.refl U.vm) qK.1, fun w hw => va_Nw.same (u := U) (U := U.calling g mk a) (nestW_ot w hw) rfl (qK.2 w hw)⟩, qD⟩
/-- what holds through one walk -/
def Cx (p : Program) (s : State) (m : MethodId) (args : Array Value) (meth : Method) (c : Code) (cc : ByteArray) (nL : Nat) (Ts : List Cond) (own : String) (D : va_G) (tys : List (ClassId × FieldType)) (A : Nat → Prop) (rt : Option FieldType) : Prop :=
  CallFix p m c cc nL s args Ts own ∧ va_K D vwCl tys s ∧ (∀ q, s.heap.size ≤ q → A q) ∧ meth.locks = false ∧ meth.sig.returnType = rt ∧ ∀ w ∈ nestW, va_Nw w s
def gw_G (p : Program) (l : Launch) (e : Env) (R : Room) (s : State) (m : MethodId) (args : Array Value) (below : List Frame) (meth : Method) (c : Code) (D : va_G) (A : Nat → Prop) (Q : State → Prop) (nL cells slots : Nat) (ws : va_W) (lv : List (Nat × Value)) (pc : Nat) (st : List Value) : Prop :=
  ∀ (H : Heap) (locs : List Loc) (ls : Array Slot), va_P D vwCl ws H → va_D A ws → va_S A s.heap H locs → lv_has ls nL lv → W p l e R s m args below meth c H locs cells slots Q (F0 m pc ls st)
def Rn (p : Program) (l : Launch) (e : Env) (R : Room) (s : State) (m : MethodId) (args : Array Value) (below : List Frame) (meth : Method) (c : Code) (D : va_G) (nL cells slots : Nat) (W0 : va_W) (r : Option Value) (W1 : va_W) (lv : List (Nat × Value)) (pc : Nat) (st rest : List Value) : Prop :=
  ∀ (H : Heap) (locs : List Loc) (ls : Array Slot), va_P D vwCl W0 H → va_D (fun _ => True) W0 → lv_has ls nL lv → ∃ a : Array Value, va_Run p l e R s m args below meth c H locs cells slots 0 0 (F0 m pc ls st) rest (CtQ D r W1 (va_A W0 H.size) a) (va_A W0 H.size)
/-! residuals of the pure text -/
def gw_let {α β : Type} (x : α) (f : α → β) : β := f x
def Rs {α β : Type} (K : α → Option β) (o : β) (X : Option α) : Prop := X.bind K = some o
def Rt {α : Type} (o : α) (X : α) : Prop := X = o
abbrev inb (i : Int32) (n : Nat) : Prop := ¬ (i < 0 ∨ n ≤ i.toNatClampNeg)
def gw_lp {σ ω : Type} (step : σ → Option (ω ⊕ σ)) : Nat → σ → Option ω
  | 0, _ => none
  | n + 1, x => (step x).bind fun r => match r with
    | .inl o => some o
    | .inr y => gw_lp step n y
def gw_fl : Nat := 100000
theorem gw_lpt0 {σ ω β : Type} {step : σ → Option (ω ⊕ σ)} {K : ω → Option β} {o : β} {Go : σ → Prop}
    (hb : ∀ (x : σ) (K1 : ω ⊕ σ → Option β), (∀ v, K1 (.inl v) = some o → K v = some o) → (∀ y, K1 (.inr y) = some o → Go y) → Rs K1 o (step x) → Go x) : ∀ (n : Nat) (x : σ), Rs K o (gw_lp step n x) → Go x := by
  intro n
  induction n with
  | zero => intro x h; simp [Rs, gw_lp] at h
  | succ n ih =>
    intro x h
    refine hb x (fun r => match r with
      | .inl v => K v
      | .inr y => (gw_lp step n y).bind K) (fun v h => h) (fun y h => ih y h) ?_
    unfold Rs at h ⊢
    rw [← h]
    show _ = ((step x).bind _).bind K
    cases step x with
    | none => rfl
    | some r => cases r <;> rfl
theorem gw_lpt {σ ω β : Type} {step : σ → Option (ω ⊕ σ)} {K : ω → Option β} {o : β} {n : Nat} {x0 : σ} (Go : σ → Prop) (h : Rs K o (gw_lp step n x0)) (hb : ∀ (x : σ) (K1 : ω ⊕ σ → Option β), (∀ v, K1 (.inl v) = some o → K v = some o) → (∀ y, K1 (.inr y) = some o → Go y) → Rs K1 o (step x) → Go x) : Go x0 := gw_lpt0 hb n x0 h
theorem gw_lpb {σ ω α β : Type} {step : σ → Option (ω ⊕ σ)} {f : ω → Option α} {K : α → Option β} {o : β} {n : Nat} {x0 : σ} (Go : σ → Prop) (GoX : ω → Prop) (h : Rs K o ((gw_lp step n x0).bind f)) (hX : ∀ v, Rs K o (f v) → GoX v) (hb : ∀ (x : σ) (K1 : ω ⊕ σ → Option β), (∀ v, K1 (.inl v) = some o → GoX v) → (∀ y, K1 (.inr y) = some o → Go y) → Rs K1 o (step x) → Go x) : Go x0 := by
  refine gw_lpt0 (K := fun v => (f v).bind K) (fun x K1 h1 h2 h3 => hb x K1 (fun v hv => hX v (h1 v hv)) h2 h3) n x0 ?_
  unfold Rs at h ⊢
  rw [← h]
  cases gw_lp step n x0 <;> rfl
theorem gw_app {α β : Type} {f g : α → β} {a : α} {Φ : β → Prop} (e : f = g) (h : Φ (g a)) : Φ (f a) := by rw [e]; exact h
theorem gw_lt {α β : Type} {x : α} {f : α → β} {Φ : β → Prop} {Go : Prop} (h : Φ (gw_let x f)) (k : ∀ q, x = q → Φ (f q) → Go) : Go := k x rfl h
theorem gw_bind {α β γ : Type} {X : Option α} {f : α → Option β} {K : β → Option γ} {o : γ} {Go : Prop} (h : Rs K o (X.bind f)) (k : ∀ q, X = some q → Rs K o (f q) → Go) : Go := by
  cases X with
  | none => simp [Rs] at h
  | some q => exact k q rfl h
theorem gw_chk {α β : Type} {cnd : Prop} [Decidable cnd] {X : Option α} {K : α → Option β} {o : β} {Go : Prop} (h : Rs K o (if cnd then X else none)) (k : cnd → Rs K o X → Go) : Go := by
  by_cases hc : cnd
  · rw [if_pos hc] at h; exact k hc h
  · rw [if_neg hc] at h; simp [Rs] at h
theorem gw_if {α : Type} {cnd : Prop} [Decidable cnd] {X Y : α} {Φ : α → Prop} {Go : Prop} (h : Φ (if cnd then X else Y)) (kt : cnd → Φ X → Go) (kf : ¬ cnd → Φ Y → Go) : Go := by
  by_cases hc : cnd
  · rw [if_pos hc] at h; exact kt hc h
  · rw [if_neg hc] at h; exact kf hc h
theorem gw_some {α β : Type} {v : α} {K : α → Option β} {o : β} (h : Rs K o (some v)) : K v = some o := h
theorem gw_ret {α : Type} {v o : α} (h : Rs some o (some v)) : v = o := Option.some.inj h
theorem gw_top {α : Type} {X : Option α} {o : α} (h : X = some o) : Rs some o X := by rw [h]; rfl
section GW
variable {p : Program} {l : Launch} {e : Env} {R : Room} {s : State} {m : MethodId} {args : Array Value} {below : List Frame} {meth : Method} {c : Code} {D : va_G} {A : Nat → Prop} {Q : State → Prop} {nL cells slots : Nat} {ws : va_W} {lv lv' : List (Nat × Value)} {pc : Nat} {st : List Value}
variable {cc : ByteArray} {Ts : List Cond} {own : String} {tys : List (ClassId × FieldType)} {rt : Option FieldType}
theorem gw_iconst (C : Cx p s m args meth c cc nL Ts own D tys A rt) {n : Int} {v : Int32} (d : decode cc pc = .ok (.iconst n, 1))  (hv : Int32.ofInt n = v) (k : gw_G p l e R s m args below meth c D A Q nL cells slots ws lv (pc + 1) (.int v :: st)) : gw_G p l e R s m args below meth c D A Q nL cells slots ws lv pc st := fun H locs ls hP hD hS hl => lv_iconst C.1.1 C.1.2.1 d hv (k H locs ls hP hD hS hl)
theorem gw_bipush (C : Cx p s m args meth c cc nL Ts own D tys A rt) {n : Int} {v : Int32} (d : decode cc pc = .ok (.bipush n, 2))  (hv : (Int8.ofInt n).toInt32 = v) (k : gw_G p l e R s m args below meth c D A Q nL cells slots ws lv (pc + 2) (.int v :: st)) : gw_G p l e R s m args below meth c D A Q nL cells slots ws lv pc st := fun H locs ls hP hD hS hl => lv_bipush C.1.1 C.1.2.1 d hv (k H locs ls hP hD hS hl)
theorem gw_sipush (C : Cx p s m args meth c cc nL Ts own D tys A rt) {n : Int} {v : Int32} (d : decode cc pc = .ok (.sipush n, 3))  (hv : (Int16.ofInt n).toInt32 = v) (k : gw_G p l e R s m args below meth c D A Q nL cells slots ws lv (pc + 3) (.int v :: st)) : gw_G p l e R s m args below meth c D A Q nL cells slots ws lv pc st := fun H locs ls hP hD hS hl => lv_sipush C.1.1 C.1.2.1 d hv (k H locs ls hP hD hS hl)
theorem gw_lconst (C : Cx p s m args meth c cc nL Ts own D tys A rt) {n : Fin 2} {v : Int64} (d : decode cc pc = .ok (.lconst n, 1))  (hv : Int64.ofNat (n : Nat) = v) (k : gw_G p l e R s m args below meth c D A Q nL cells slots ws lv (pc + 1) (.long v :: st)) : gw_G p l e R s m args below meth c D A Q nL cells slots ws lv pc st := fun H locs ls hP hD hS hl => lv_lconst C.1.1 C.1.2.1 d hv (k H locs ls hP hD hS hl)
theorem gw_dconst0 (C : Cx p s m args meth c cc nL Ts own D tys A rt)  (d : decode cc pc = .ok (.dconst 0, 1))   (k : gw_G p l e R s m args below meth c D A Q nL cells slots ws lv (pc + 1) (.double 0 :: st)) : gw_G p l e R s m args below meth c D A Q nL cells slots ws lv pc st := fun H locs ls hP hD hS hl => lv_dconst0 C.1.1 C.1.2.1 d (k H locs ls hP hD hS hl)
theorem gw_dconst1 (C : Cx p s m args meth c cc nL Ts own D tys A rt)  (d : decode cc pc = .ok (.dconst 1, 1))   (k : gw_G p l e R s m args below meth c D A Q nL cells slots ws lv (pc + 1) (.double 0x3ff0000000000000 :: st)) : gw_G p l e R s m args below meth c D A Q nL cells slots ws lv pc st := fun H locs ls hP hD hS hl => lv_dconst1 C.1.1 C.1.2.1 d (k H locs ls hP hD hS hl)
theorem gw_ldc (C : Cx p s m args meth c cc nL Ts own D tys A rt) {index : Nat} {v : Int32} (d : decode cc pc = .ok (.ldc index, 2)) (hm : Cond.constant own index v ∈ Ts)  (k : gw_G p l e R s m args below meth c D A Q nL cells slots ws lv (pc + 2) (.int v :: st)) : gw_G p l e R s m args below meth c D A Q nL cells slots ws lv pc st := fun H locs ls hP hD hS hl => lv_ldc C.1.1 C.1.2.1 C.1.2.2.2.1 (C.1.2.2.2.2 _ hm) d (k H locs ls hP hD hS hl)
theorem gw_ldcw (C : Cx p s m args meth c cc nL Ts own D tys A rt) {index : Nat} {v : Int32} (d : decode cc pc = .ok (.ldc_w index, 3)) (hm : Cond.constant own index v ∈ Ts)  (k : gw_G p l e R s m args below meth c D A Q nL cells slots ws lv (pc + 3) (.int v :: st)) : gw_G p l e R s m args below meth c D A Q nL cells slots ws lv pc st := fun H locs ls hP hD hS hl => lv_ldcw C.1.1 C.1.2.1 C.1.2.2.2.1 (C.1.2.2.2.2 _ hm) d (k H locs ls hP hD hS hl)
theorem gw_ldc2 (C : Cx p s m args meth c cc nL Ts own D tys A rt) {index : Nat} {v : Int64} (d : decode cc pc = .ok (.ldc2_w index, 3)) (hm : Cond.constantLong own index v ∈ Ts)  (k : gw_G p l e R s m args below meth c D A Q nL cells slots ws lv (pc + 3) (.long v :: st)) : gw_G p l e R s m args below meth c D A Q nL cells slots ws lv pc st := fun H locs ls hP hD hS hl => lv_ldc2 C.1.1 C.1.2.1 C.1.2.2.2.1 (C.1.2.2.2.2 _ hm) d (k H locs ls hP hD hS hl)
theorem gw_ldc2d (C : Cx p s m args meth c cc nL Ts own D tys A rt) {index : Nat} {v : UInt64} (d : decode cc pc = .ok (.ldc2_w index, 3)) (hm : Cond.constantDouble own index v ∈ Ts)  (k : gw_G p l e R s m args below meth c D A Q nL cells slots ws lv (pc + 3) (.double v :: st)) : gw_G p l e R s m args below meth c D A Q nL cells slots ws lv pc st := fun H locs ls hP hD hS hl => lv_ldc2d C.1.1 C.1.2.1 C.1.2.2.2.1 (C.1.2.2.2.2 _ hm) d (k H locs ls hP hD hS hl)
theorem gw_iload_n (C : Cx p s m args meth c cc nL Ts own D tys A rt) {k0 : Fin 4} {x : Int32} (d : decode cc pc = .ok (.iload_n k0, 1)) (j : Nat) (hj : lv[j]? = some ((k0 : Nat), .int x))  (k : gw_G p l e R s m args below meth c D A Q nL cells slots ws lv (pc + 1) (.int x :: st)) : gw_G p l e R s m args below meth c D A Q nL cells slots ws lv pc st := fun H locs ls hP hD hS hl => lv_iload_n C.1.1 C.1.2.1 d rfl (lv_at hl j hj) (k H locs ls hP hD hS hl)
theorem gw_iload (C : Cx p s m args meth c cc nL Ts own D tys A rt) {i : Nat} {x : Int32} (d : decode cc pc = .ok (.iload i, 2)) (j : Nat) (hj : lv[j]? = some (i, .int x))  (k : gw_G p l e R s m args below meth c D A Q nL cells slots ws lv (pc + 2) (.int x :: st)) : gw_G p l e R s m args below meth c D A Q nL cells slots ws lv pc st := fun H locs ls hP hD hS hl => lv_iload C.1.1 C.1.2.1 d (lv_at hl j hj) (k H locs ls hP hD hS hl)
theorem gw_lload_n (C : Cx p s m args meth c cc nL Ts own D tys A rt) {k0 : Fin 4} {x : Int64} (d : decode cc pc = .ok (.lload_n k0, 1)) (j : Nat) (hj : lv[j]? = some ((k0 : Nat), .long x))  (k : gw_G p l e R s m args below meth c D A Q nL cells slots ws lv (pc + 1) (.long x :: st)) : gw_G p l e R s m args below meth c D A Q nL cells slots ws lv pc st := fun H locs ls hP hD hS hl => lv_lload_n C.1.1 C.1.2.1 d rfl (lv_at hl j hj) (k H locs ls hP hD hS hl)
theorem gw_lload (C : Cx p s m args meth c cc nL Ts own D tys A rt) {i : Nat} {x : Int64} (d : decode cc pc = .ok (.lload i, 2)) (j : Nat) (hj : lv[j]? = some (i, .long x))  (k : gw_G p l e R s m args below meth c D A Q nL cells slots ws lv (pc + 2) (.long x :: st)) : gw_G p l e R s m args below meth c D A Q nL cells slots ws lv pc st := fun H locs ls hP hD hS hl => lv_lload C.1.1 C.1.2.1 d (lv_at hl j hj) (k H locs ls hP hD hS hl)
theorem gw_aload_n (C : Cx p s m args meth c cc nL Ts own D tys A rt) {k0 : Fin 4} {x : Nat} (d : decode cc pc = .ok (.aload_n k0, 1)) (j : Nat) (hj : lv[j]? = some ((k0 : Nat), .ref x))  (k : gw_G p l e R s m args below meth c D A Q nL cells slots ws lv (pc + 1) (.ref x :: st)) : gw_G p l e R s m args below meth c D A Q nL cells slots ws lv pc st := fun H locs ls hP hD hS hl => lv_aload_n C.1.1 C.1.2.1 d rfl (lv_at hl j hj) (k H locs ls hP hD hS hl)
theorem gw_aload (C : Cx p s m args meth c cc nL Ts own D tys A rt) {i : Nat} {x : Nat} (d : decode cc pc = .ok (.aload i, 2)) (j : Nat) (hj : lv[j]? = some (i, .ref x))  (k : gw_G p l e R s m args below meth c D A Q nL cells slots ws lv (pc + 2) (.ref x :: st)) : gw_G p l e R s m args below meth c D A Q nL cells slots ws lv pc st := fun H locs ls hP hD hS hl => lv_aload C.1.1 C.1.2.1 d (lv_at hl j hj) (k H locs ls hP hD hS hl)
theorem gw_dload_n (C : Cx p s m args meth c cc nL Ts own D tys A rt) {k0 : Fin 4} {x : UInt64} (d : decode cc pc = .ok (.dload_n k0, 1)) (j : Nat) (hj : lv[j]? = some ((k0 : Nat), .double x))  (k : gw_G p l e R s m args below meth c D A Q nL cells slots ws lv (pc + 1) (.double x :: st)) : gw_G p l e R s m args below meth c D A Q nL cells slots ws lv pc st := fun H locs ls hP hD hS hl => lv_dload_n C.1.1 C.1.2.1 d rfl (lv_at hl j hj) (k H locs ls hP hD hS hl)
theorem gw_dload (C : Cx p s m args meth c cc nL Ts own D tys A rt) {i : Nat} {x : UInt64} (d : decode cc pc = .ok (.dload i, 2)) (j : Nat) (hj : lv[j]? = some (i, .double x))  (k : gw_G p l e R s m args below meth c D A Q nL cells slots ws lv (pc + 2) (.double x :: st)) : gw_G p l e R s m args below meth c D A Q nL cells slots ws lv pc st := fun H locs ls hP hD hS hl => lv_dload C.1.1 C.1.2.1 d (lv_at hl j hj) (k H locs ls hP hD hS hl)
theorem gw_istore_n (C : Cx p s m args meth c cc nL Ts own D tys A rt) {k0 : Fin 4} {i : Nat} {x : Int32} (d : decode cc pc = .ok (.istore_n k0, 1)) (lv' : List (Nat × Value)) (hi : (k0 : Nat) = i) (hn : i < nL) (hq : (i, Value.int x) :: lv.filter (fun q => !(q.1 == i) && !(q.1 + 1 == i && q.2.category == 2)) = lv')  (k : gw_G p l e R s m args below meth c D A Q nL cells slots ws lv' (pc + 1) st) : gw_G p l e R s m args below meth c D A Q nL cells slots ws lv pc (.int x :: st) := fun H locs ls hP hD hS hl => lv_istore_n C.1.1 C.1.2.1 d hi hl hn hq (fun ls' hl' => k H locs ls' hP hD hS hl')
theorem gw_istore (C : Cx p s m args meth c cc nL Ts own D tys A rt) {i : Nat} {x : Int32} (d : decode cc pc = .ok (.istore i, 2)) (lv' : List (Nat × Value)) (hn : i < nL) (hq : (i, Value.int x) :: lv.filter (fun q => !(q.1 == i) && !(q.1 + 1 == i && q.2.category == 2)) = lv')  (k : gw_G p l e R s m args below meth c D A Q nL cells slots ws lv' (pc + 2) st) : gw_G p l e R s m args below meth c D A Q nL cells slots ws lv pc (.int x :: st) := fun H locs ls hP hD hS hl => lv_istore C.1.1 C.1.2.1 d hl hn hq (fun ls' hl' => k H locs ls' hP hD hS hl')
theorem gw_lstore_n (C : Cx p s m args meth c cc nL Ts own D tys A rt) {k0 : Fin 4} {i : Nat} {x : Int64} (d : decode cc pc = .ok (.lstore_n k0, 1)) (lv' : List (Nat × Value)) (hi : (k0 : Nat) = i) (hn : i + 1 < nL) (hq : (i, Value.long x) :: lv.filter (fun q => !(q.1 == i) && (!(q.1 == i + 1) && !(q.1 + 1 == i && q.2.category == 2))) = lv')  (k : gw_G p l e R s m args below meth c D A Q nL cells slots ws lv' (pc + 1) st) : gw_G p l e R s m args below meth c D A Q nL cells slots ws lv pc (.long x :: st) := fun H locs ls hP hD hS hl => lv_lstore_n C.1.1 C.1.2.1 d hi hl hn hq (fun ls' hl' => k H locs ls' hP hD hS hl')
theorem gw_lstore (C : Cx p s m args meth c cc nL Ts own D tys A rt) {i : Nat} {x : Int64} (d : decode cc pc = .ok (.lstore i, 2)) (lv' : List (Nat × Value)) (hn : i + 1 < nL) (hq : (i, Value.long x) :: lv.filter (fun q => !(q.1 == i) && (!(q.1 == i + 1) && !(q.1 + 1 == i && q.2.category == 2))) = lv')  (k : gw_G p l e R s m args below meth c D A Q nL cells slots ws lv' (pc + 2) st) : gw_G p l e R s m args below meth c D A Q nL cells slots ws lv pc (.long x :: st) := fun H locs ls hP hD hS hl => lv_lstore C.1.1 C.1.2.1 d hl hn hq (fun ls' hl' => k H locs ls' hP hD hS hl')
theorem gw_astore_n (C : Cx p s m args meth c cc nL Ts own D tys A rt) {k0 : Fin 4} {i : Nat} {x : Nat} (d : decode cc pc = .ok (.astore_n k0, 1)) (lv' : List (Nat × Value)) (hi : (k0 : Nat) = i) (hn : i < nL) (hq : (i, Value.ref x) :: lv.filter (fun q => !(q.1 == i) && !(q.1 + 1 == i && q.2.category == 2)) = lv')  (k : gw_G p l e R s m args below meth c D A Q nL cells slots ws lv' (pc + 1) st) : gw_G p l e R s m args below meth c D A Q nL cells slots ws lv pc (.ref x :: st) := fun H locs ls hP hD hS hl => lv_astore_n C.1.1 C.1.2.1 d hi hl hn hq (fun ls' hl' => k H locs ls' hP hD hS hl')
theorem gw_astore (C : Cx p s m args meth c cc nL Ts own D tys A rt) {i : Nat} {x : Nat} (d : decode cc pc = .ok (.astore i, 2)) (lv' : List (Nat × Value)) (hn : i < nL) (hq : (i, Value.ref x) :: lv.filter (fun q => !(q.1 == i) && !(q.1 + 1 == i && q.2.category == 2)) = lv')  (k : gw_G p l e R s m args below meth c D A Q nL cells slots ws lv' (pc + 2) st) : gw_G p l e R s m args below meth c D A Q nL cells slots ws lv pc (.ref x :: st) := fun H locs ls hP hD hS hl => lv_astore C.1.1 C.1.2.1 d hl hn hq (fun ls' hl' => k H locs ls' hP hD hS hl')
theorem gw_dstore_n (C : Cx p s m args meth c cc nL Ts own D tys A rt) {k0 : Fin 4} {i : Nat} {x : UInt64} (d : decode cc pc = .ok (.dstore_n k0, 1)) (lv' : List (Nat × Value)) (hi : (k0 : Nat) = i) (hn : i + 1 < nL) (hq : (i, Value.double x) :: lv.filter (fun q => !(q.1 == i) && (!(q.1 == i + 1) && !(q.1 + 1 == i && q.2.category == 2))) = lv')  (k : gw_G p l e R s m args below meth c D A Q nL cells slots ws lv' (pc + 1) st) : gw_G p l e R s m args below meth c D A Q nL cells slots ws lv pc (.double x :: st) := fun H locs ls hP hD hS hl => lv_dstore_n C.1.1 C.1.2.1 d hi hl hn hq (fun ls' hl' => k H locs ls' hP hD hS hl')
theorem gw_dstore (C : Cx p s m args meth c cc nL Ts own D tys A rt) {i : Nat} {x : UInt64} (d : decode cc pc = .ok (.dstore i, 2)) (lv' : List (Nat × Value)) (hn : i + 1 < nL) (hq : (i, Value.double x) :: lv.filter (fun q => !(q.1 == i) && (!(q.1 == i + 1) && !(q.1 + 1 == i && q.2.category == 2))) = lv')  (k : gw_G p l e R s m args below meth c D A Q nL cells slots ws lv' (pc + 2) st) : gw_G p l e R s m args below meth c D A Q nL cells slots ws lv pc (.double x :: st) := fun H locs ls hP hD hS hl => lv_dstore C.1.1 C.1.2.1 d hl hn hq (fun ls' hl' => k H locs ls' hP hD hS hl')
theorem gw_iinc (C : Cx p s m args meth c cc nL Ts own D tys A rt) {i : Nat} {n : Int} {x v : Int32} (d : decode cc pc = .ok (.iinc i n, 3)) (lv' : List (Nat × Value)) (j : Nat) (hj : lv[j]? = some (i, .int x)) (hv : x + Int32.ofInt n = v) (hn : i < nL) (hq : (i, Value.int v) :: lv.filter (fun q => !(q.1 == i) && !(q.1 + 1 == i && q.2.category == 2)) = lv')  (k : gw_G p l e R s m args below meth c D A Q nL cells slots ws lv' (pc + 3) st) : gw_G p l e R s m args below meth c D A Q nL cells slots ws lv pc st := fun H locs ls hP hD hS hl => lv_iinc C.1.1 C.1.2.1 d hl hj hv hn hq (fun ls' hl' => k H locs ls' hP hD hS hl')
theorem gw_iadd (C : Cx p s m args meth c cc nL Ts own D tys A rt) {x y : Int32} (d : decode cc pc = .ok (.iadd, 1))   (k : gw_G p l e R s m args below meth c D A Q nL cells slots ws lv (pc + 1) (.int (x + y) :: st)) : gw_G p l e R s m args below meth c D A Q nL cells slots ws lv pc (.int y :: .int x :: st) := fun H locs ls hP hD hS hl => lv_iadd C.1.1 C.1.2.1 d (k H locs ls hP hD hS hl)
theorem gw_isub (C : Cx p s m args meth c cc nL Ts own D tys A rt) {x y : Int32} (d : decode cc pc = .ok (.isub, 1))   (k : gw_G p l e R s m args below meth c D A Q nL cells slots ws lv (pc + 1) (.int (x - y) :: st)) : gw_G p l e R s m args below meth c D A Q nL cells slots ws lv pc (.int y :: .int x :: st) := fun H locs ls hP hD hS hl => lv_isub C.1.1 C.1.2.1 d (k H locs ls hP hD hS hl)
theorem gw_imul (C : Cx p s m args meth c cc nL Ts own D tys A rt) {x y : Int32} (d : decode cc pc = .ok (.imul, 1))   (k : gw_G p l e R s m args below meth c D A Q nL cells slots ws lv (pc + 1) (.int (x * y) :: st)) : gw_G p l e R s m args below meth c D A Q nL cells slots ws lv pc (.int y :: .int x :: st) := fun H locs ls hP hD hS hl => lv_imul C.1.1 C.1.2.1 d (k H locs ls hP hD hS hl)
theorem gw_iand (C : Cx p s m args meth c cc nL Ts own D tys A rt) {x y : Int32} (d : decode cc pc = .ok (.iand, 1))   (k : gw_G p l e R s m args below meth c D A Q nL cells slots ws lv (pc + 1) (.int (x &&& y) :: st)) : gw_G p l e R s m args below meth c D A Q nL cells slots ws lv pc (.int y :: .int x :: st) := fun H locs ls hP hD hS hl => lv_iand C.1.1 C.1.2.1 d (k H locs ls hP hD hS hl)
theorem gw_ior (C : Cx p s m args meth c cc nL Ts own D tys A rt) {x y : Int32} (d : decode cc pc = .ok (.ior, 1))   (k : gw_G p l e R s m args below meth c D A Q nL cells slots ws lv (pc + 1) (.int (x ||| y) :: st)) : gw_G p l e R s m args below meth c D A Q nL cells slots ws lv pc (.int y :: .int x :: st) := fun H locs ls hP hD hS hl => lv_ior C.1.1 C.1.2.1 d (k H locs ls hP hD hS hl)
theorem gw_ixor (C : Cx p s m args meth c cc nL Ts own D tys A rt) {x y : Int32} (d : decode cc pc = .ok (.ixor, 1))   (k : gw_G p l e R s m args below meth c D A Q nL cells slots ws lv (pc + 1) (.int (x ^^^ y) :: st)) : gw_G p l e R s m args below meth c D A Q nL cells slots ws lv pc (.int y :: .int x :: st) := fun H locs ls hP hD hS hl => lv_ixor C.1.1 C.1.2.1 d (k H locs ls hP hD hS hl)
theorem gw_ladd (C : Cx p s m args meth c cc nL Ts own D tys A rt) {x y : Int64} (d : decode cc pc = .ok (.ladd, 1))   (k : gw_G p l e R s m args below meth c D A Q nL cells slots ws lv (pc + 1) (.long (x + y) :: st)) : gw_G p l e R s m args below meth c D A Q nL cells slots ws lv pc (.long y :: .long x :: st) := fun H locs ls hP hD hS hl => lv_ladd C.1.1 C.1.2.1 d (k H locs ls hP hD hS hl)
theorem gw_lsub (C : Cx p s m args meth c cc nL Ts own D tys A rt) {x y : Int64} (d : decode cc pc = .ok (.lsub, 1))   (k : gw_G p l e R s m args below meth c D A Q nL cells slots ws lv (pc + 1) (.long (x - y) :: st)) : gw_G p l e R s m args below meth c D A Q nL cells slots ws lv pc (.long y :: .long x :: st) := fun H locs ls hP hD hS hl => lv_lsub C.1.1 C.1.2.1 d (k H locs ls hP hD hS hl)
theorem gw_lmul (C : Cx p s m args meth c cc nL Ts own D tys A rt) {x y : Int64} (d : decode cc pc = .ok (.lmul, 1))   (k : gw_G p l e R s m args below meth c D A Q nL cells slots ws lv (pc + 1) (.long (x * y) :: st)) : gw_G p l e R s m args below meth c D A Q nL cells slots ws lv pc (.long y :: .long x :: st) := fun H locs ls hP hD hS hl => lv_lmul C.1.1 C.1.2.1 d (k H locs ls hP hD hS hl)
theorem gw_land (C : Cx p s m args meth c cc nL Ts own D tys A rt) {x y : Int64} (d : decode cc pc = .ok (.land, 1))   (k : gw_G p l e R s m args below meth c D A Q nL cells slots ws lv (pc + 1) (.long (x &&& y) :: st)) : gw_G p l e R s m args below meth c D A Q nL cells slots ws lv pc (.long y :: .long x :: st) := fun H locs ls hP hD hS hl => lv_land C.1.1 C.1.2.1 d (k H locs ls hP hD hS hl)
theorem gw_lor (C : Cx p s m args meth c cc nL Ts own D tys A rt) {x y : Int64} (d : decode cc pc = .ok (.lor, 1))   (k : gw_G p l e R s m args below meth c D A Q nL cells slots ws lv (pc + 1) (.long (x ||| y) :: st)) : gw_G p l e R s m args below meth c D A Q nL cells slots ws lv pc (.long y :: .long x :: st) := fun H locs ls hP hD hS hl => lv_lor C.1.1 C.1.2.1 d (k H locs ls hP hD hS hl)
theorem gw_ishl (C : Cx p s m args meth c cc nL Ts own D tys A rt) {x y : Int32} (d : decode cc pc = .ok (.ishl, 1))   (k : gw_G p l e R s m args below meth c D A Q nL cells slots ws lv (pc + 1) (.int (x <<< (y &&& 31)) :: st)) : gw_G p l e R s m args below meth c D A Q nL cells slots ws lv pc (.int y :: .int x :: st) := fun H locs ls hP hD hS hl => lv_ishl C.1.1 C.1.2.1 d (k H locs ls hP hD hS hl)
theorem gw_ishr (C : Cx p s m args meth c cc nL Ts own D tys A rt) {x y : Int32} (d : decode cc pc = .ok (.ishr, 1))   (k : gw_G p l e R s m args below meth c D A Q nL cells slots ws lv (pc + 1) (.int (x >>> (y &&& 31)) :: st)) : gw_G p l e R s m args below meth c D A Q nL cells slots ws lv pc (.int y :: .int x :: st) := fun H locs ls hP hD hS hl => lv_ishr C.1.1 C.1.2.1 d (k H locs ls hP hD hS hl)
theorem gw_iushr (C : Cx p s m args meth c cc nL Ts own D tys A rt) {x y : Int32} (d : decode cc pc = .ok (.iushr, 1))   (k : gw_G p l e R s m args below meth c D A Q nL cells slots ws lv (pc + 1) (.int (x.toUInt32 >>> (y.toUInt32 &&& Int32.toUInt32 31)).toInt32 :: st)) : gw_G p l e R s m args below meth c D A Q nL cells slots ws lv pc (.int y :: .int x :: st) := fun H locs ls hP hD hS hl => lv_iushr C.1.1 C.1.2.1 d rfl (k H locs ls hP hD hS hl)
theorem gw_lshl (C : Cx p s m args meth c cc nL Ts own D tys A rt) {x : Int64} {y : Int32} (d : decode cc pc = .ok (.lshl, 1))   (k : gw_G p l e R s m args below meth c D A Q nL cells slots ws lv (pc + 1) (.long (x <<< (y.toInt64 &&& 63)) :: st)) : gw_G p l e R s m args below meth c D A Q nL cells slots ws lv pc (.int y :: .long x :: st) := fun H locs ls hP hD hS hl => lv_lshl C.1.1 C.1.2.1 d rfl (k H locs ls hP hD hS hl)
theorem gw_lushr (C : Cx p s m args meth c cc nL Ts own D tys A rt) {x : Int64} {y : Int32} (d : decode cc pc = .ok (.lushr, 1))   (k : gw_G p l e R s m args below meth c D A Q nL cells slots ws lv (pc + 1) (.long (x.toUInt64 >>> (y.toInt64.toUInt64 &&& Int64.toUInt64 63)).toInt64 :: st)) : gw_G p l e R s m args below meth c D A Q nL cells slots ws lv pc (.int y :: .long x :: st) := fun H locs ls hP hD hS hl => lv_lushr C.1.1 C.1.2.1 d rfl (k H locs ls hP hD hS hl)
theorem gw_i2l (C : Cx p s m args meth c cc nL Ts own D tys A rt) {x : Int32} (d : decode cc pc = .ok (.i2l, 1))   (k : gw_G p l e R s m args below meth c D A Q nL cells slots ws lv (pc + 1) (.long x.toInt64 :: st)) : gw_G p l e R s m args below meth c D A Q nL cells slots ws lv pc (.int x :: st) := fun H locs ls hP hD hS hl => lv_i2l C.1.1 C.1.2.1 d rfl (k H locs ls hP hD hS hl)
theorem gw_l2i (C : Cx p s m args meth c cc nL Ts own D tys A rt) {x : Int64} (d : decode cc pc = .ok (.l2i, 1))   (k : gw_G p l e R s m args below meth c D A Q nL cells slots ws lv (pc + 1) (.int x.toInt32 :: st)) : gw_G p l e R s m args below meth c D A Q nL cells slots ws lv pc (.long x :: st) := fun H locs ls hP hD hS hl => lv_l2i C.1.1 C.1.2.1 d rfl (k H locs ls hP hD hS hl)
theorem gw_i2d (C : Cx p s m args meth c cc nL Ts own D tys A rt) {x : Int32} (d : decode cc pc = .ok (.i2d, 1))   (k : gw_G p l e R s m args below meth c D A Q nL cells slots ws lv (pc + 1) (.double (FP.i2d x) :: st)) : gw_G p l e R s m args below meth c D A Q nL cells slots ws lv pc (.int x :: st) := fun H locs ls hP hD hS hl => lv_i2d C.1.1 C.1.2.1 d (k H locs ls hP hD hS hl)
theorem gw_d2l (C : Cx p s m args meth c cc nL Ts own D tys A rt) {x : UInt64} (d : decode cc pc = .ok (.d2l, 1))   (k : gw_G p l e R s m args below meth c D A Q nL cells slots ws lv (pc + 1) (.long (FP.d2l x) :: st)) : gw_G p l e R s m args below meth c D A Q nL cells slots ws lv pc (.double x :: st) := fun H locs ls hP hD hS hl => lv_d2l C.1.1 C.1.2.1 d (k H locs ls hP hD hS hl)
theorem gw_dmul (C : Cx p s m args meth c cc nL Ts own D tys A rt) {x y : UInt64} (d : decode cc pc = .ok (.dmul, 1)) (hne : vf_n64 (FP.dmul x y))  (k : gw_G p l e R s m args below meth c D A Q nL cells slots ws lv (pc + 1) (.double (FP.dmul x y) :: st)) : gw_G p l e R s m args below meth c D A Q nL cells slots ws lv pc (.double y :: .double x :: st) := fun H locs ls hP hD hS hl => lv_dmul C.1.1 C.1.2.1 d hne (k H locs ls hP hD hS hl)
theorem gw_ddiv (C : Cx p s m args meth c cc nL Ts own D tys A rt) {x y : UInt64} (d : decode cc pc = .ok (.ddiv, 1)) (hne : vf_n64 (FP.ddiv x y))  (k : gw_G p l e R s m args below meth c D A Q nL cells slots ws lv (pc + 1) (.double (FP.ddiv x y) :: st)) : gw_G p l e R s m args below meth c D A Q nL cells slots ws lv pc (.double y :: .double x :: st) := fun H locs ls hP hD hS hl => lv_ddiv C.1.1 C.1.2.1 d hne (k H locs ls hP hD hS hl)
theorem gw_dsub (C : Cx p s m args meth c cc nL Ts own D tys A rt) {x y : UInt64} (d : decode cc pc = .ok (.dsub, 1)) (hne : vf_n64 (FP.dsub x y))  (k : gw_G p l e R s m args below meth c D A Q nL cells slots ws lv (pc + 1) (.double (FP.dsub x y) :: st)) : gw_G p l e R s m args below meth c D A Q nL cells slots ws lv pc (.double y :: .double x :: st) := fun H locs ls hP hD hS hl => lv_dsub C.1.1 C.1.2.1 d hne (k H locs ls hP hD hS hl)
theorem gw_dcmp (C : Cx p s m args meth c cc nL Ts own D tys A rt) {x y : UInt64} {op : CmpOp} (d : decode cc pc = .ok (.dcmp op, 1))   (k : gw_G p l e R s m args below meth c D A Q nL cells slots ws lv (pc + 1) (.int (Op.cmpValue (FP.dcmp x y) op) :: st)) : gw_G p l e R s m args below meth c D A Q nL cells slots ws lv pc (.double y :: .double x :: st) := fun H locs ls hP hD hS hl => lv_dcmp C.1.1 C.1.2.1 d (k H locs ls hP hD hS hl)
theorem gw_lcmp (C : Cx p s m args meth c cc nL Ts own D tys A rt) {x y : Int64} (d : decode cc pc = .ok (.lcmp, 1))   (k : gw_G p l e R s m args below meth c D A Q nL cells slots ws lv (pc + 1) (.int (lg_cmp x y) :: st)) : gw_G p l e R s m args below meth c D A Q nL cells slots ws lv pc (.long y :: .long x :: st) := fun H locs ls hP hD hS hl => W.lcmp C.1.1 C.1.2.1 d (k H locs ls hP hD hS hl)
theorem gw_dup (C : Cx p s m args meth c cc nL Ts own D tys A rt) {va : Value} (d : decode cc pc = .ok (.dup, 1)) (hva : va.category = 1)  (k : gw_G p l e R s m args below meth c D A Q nL cells slots ws lv (pc + 1) (va :: va :: st)) : gw_G p l e R s m args below meth c D A Q nL cells slots ws lv pc (va :: st) := fun H locs ls hP hD hS hl => lv_dup C.1.1 C.1.2.1 d hva (k H locs ls hP hD hS hl)
theorem gw_pop (C : Cx p s m args meth c cc nL Ts own D tys A rt) {va : Value} (d : decode cc pc = .ok (.pop, 1)) (hva : va.category = 1)  (k : gw_G p l e R s m args below meth c D A Q nL cells slots ws lv (pc + 1) st) : gw_G p l e R s m args below meth c D A Q nL cells slots ws lv pc (va :: st) := fun H locs ls hP hD hS hl => lv_pop C.1.1 C.1.2.1 d hva (k H locs ls hP hD hS hl)
theorem gw_dup2_11 (C : Cx p s m args meth c cc nL Ts own D tys A rt) {va vb : Value} (d : decode cc pc = .ok (.dup2, 1)) (hva : va.category = 1) (hvb : vb.category = 1)  (k : gw_G p l e R s m args below meth c D A Q nL cells slots ws lv (pc + 1) (va :: vb :: va :: vb :: st)) : gw_G p l e R s m args below meth c D A Q nL cells slots ws lv pc (va :: vb :: st) := fun H locs ls hP hD hS hl => lv_dup2_11 C.1.1 C.1.2.1 d hva hvb (k H locs ls hP hD hS hl)
theorem gw_goto (C : Cx p s m args meth c cc nL Ts own D tys A rt) {off : Int} {tgt : Nat} (d : decode cc pc = .ok (.goto off, 3)) (ht : (pc : Int) + off = (tgt : Int))  (k : gw_G p l e R s m args below meth c D A Q nL cells slots ws lv tgt st) : gw_G p l e R s m args below meth c D A Q nL cells slots ws lv pc st := fun H locs ls hP hD hS hl => lv_goto C.1.1 C.1.2.1 d ht (k H locs ls hP hD hS hl)
theorem gw_ifnull (C : Cx p s m args meth c cc nL Ts own D tys A rt) {x : Nat} {off : Int} (d : decode cc pc = .ok (.ifnull off, 3))   (k : gw_G p l e R s m args below meth c D A Q nL cells slots ws lv (pc + 3) st) : gw_G p l e R s m args below meth c D A Q nL cells slots ws lv pc (.ref x :: st) := fun H locs ls hP hD hS hl => lv_ifnull C.1.1 C.1.2.1 d (k H locs ls hP hD hS hl)
theorem gw_icmp_eq (C : Cx p s m args meth c cc nL Ts own D tys A rt) {α : Type} {X Y : α} {Φ : α → Prop} {x y : Int32} {off : Int} {tgt : Nat} (d : decode cc pc = .ok (.if_icmp .eq off, 3)) (ht : (pc : Int) + off = (tgt : Int)) (h : Φ (if (x = y) then X else Y)) (kt : (x = y) → Φ X → gw_G p l e R s m args below meth c D A Q nL cells slots ws lv tgt st) (kf : ¬ (x = y) → Φ Y → gw_G p l e R s m args below meth c D A Q nL cells slots ws lv (pc + 3) st) : gw_G p l e R s m args below meth c D A Q nL cells slots ws lv pc (.int y :: .int x :: st) := fun H locs ls hP hD hS hl => lv_icmp_eq C.1.1 C.1.2.1 d ht (fun cq => kt cq (by rw [if_pos cq] at h; exact h) H locs ls hP hD hS hl) (fun cq => kf cq (by rw [if_neg cq] at h; exact h) H locs ls hP hD hS hl)
theorem gw_if_eq (C : Cx p s m args meth c cc nL Ts own D tys A rt) {α : Type} {X Y : α} {Φ : α → Prop} {x : Int32} {off : Int} {tgt : Nat} (d : decode cc pc = .ok (.ifCond .eq off, 3)) (ht : (pc : Int) + off = (tgt : Int)) (h : Φ (if (x = 0) then X else Y)) (kt : (x = 0) → Φ X → gw_G p l e R s m args below meth c D A Q nL cells slots ws lv tgt st) (kf : ¬ (x = 0) → Φ Y → gw_G p l e R s m args below meth c D A Q nL cells slots ws lv (pc + 3) st) : gw_G p l e R s m args below meth c D A Q nL cells slots ws lv pc (.int x :: st) := fun H locs ls hP hD hS hl => lv_if_eq C.1.1 C.1.2.1 d ht (fun cq => kt cq (by rw [if_pos cq] at h; exact h) H locs ls hP hD hS hl) (fun cq => kf cq (by rw [if_neg cq] at h; exact h) H locs ls hP hD hS hl)
theorem gw_icmp_ne (C : Cx p s m args meth c cc nL Ts own D tys A rt) {α : Type} {X Y : α} {Φ : α → Prop} {x y : Int32} {off : Int} {tgt : Nat} (d : decode cc pc = .ok (.if_icmp .ne off, 3)) (ht : (pc : Int) + off = (tgt : Int)) (h : Φ (if (x = y) then X else Y)) (kt : (x = y) → Φ X → gw_G p l e R s m args below meth c D A Q nL cells slots ws lv (pc + 3) st) (kf : ¬ (x = y) → Φ Y → gw_G p l e R s m args below meth c D A Q nL cells slots ws lv tgt st) : gw_G p l e R s m args below meth c D A Q nL cells slots ws lv pc (.int y :: .int x :: st) := fun H locs ls hP hD hS hl => lv_icmp_ne C.1.1 C.1.2.1 d ht (fun cq => kf cq (by rw [if_neg cq] at h; exact h) H locs ls hP hD hS hl) (fun cq => kt cq (by rw [if_pos cq] at h; exact h) H locs ls hP hD hS hl)
theorem gw_if_ne (C : Cx p s m args meth c cc nL Ts own D tys A rt) {α : Type} {X Y : α} {Φ : α → Prop} {x : Int32} {off : Int} {tgt : Nat} (d : decode cc pc = .ok (.ifCond .ne off, 3)) (ht : (pc : Int) + off = (tgt : Int)) (h : Φ (if (x = 0) then X else Y)) (kt : (x = 0) → Φ X → gw_G p l e R s m args below meth c D A Q nL cells slots ws lv (pc + 3) st) (kf : ¬ (x = 0) → Φ Y → gw_G p l e R s m args below meth c D A Q nL cells slots ws lv tgt st) : gw_G p l e R s m args below meth c D A Q nL cells slots ws lv pc (.int x :: st) := fun H locs ls hP hD hS hl => lv_if_ne C.1.1 C.1.2.1 d ht (fun cq => kf cq (by rw [if_neg cq] at h; exact h) H locs ls hP hD hS hl) (fun cq => kt cq (by rw [if_pos cq] at h; exact h) H locs ls hP hD hS hl)
theorem gw_icmp_lt (C : Cx p s m args meth c cc nL Ts own D tys A rt) {α : Type} {X Y : α} {Φ : α → Prop} {x y : Int32} {off : Int} {tgt : Nat} (d : decode cc pc = .ok (.if_icmp .lt off, 3)) (ht : (pc : Int) + off = (tgt : Int)) (h : Φ (if (x < y) then X else Y)) (kt : (x < y) → Φ X → gw_G p l e R s m args below meth c D A Q nL cells slots ws lv tgt st) (kf : ¬ (x < y) → Φ Y → gw_G p l e R s m args below meth c D A Q nL cells slots ws lv (pc + 3) st) : gw_G p l e R s m args below meth c D A Q nL cells slots ws lv pc (.int y :: .int x :: st) := fun H locs ls hP hD hS hl => lv_icmp_lt C.1.1 C.1.2.1 d ht (fun cq => kt cq (by rw [if_pos cq] at h; exact h) H locs ls hP hD hS hl) (fun cq => kf cq (by rw [if_neg cq] at h; exact h) H locs ls hP hD hS hl)
theorem gw_if_lt (C : Cx p s m args meth c cc nL Ts own D tys A rt) {α : Type} {X Y : α} {Φ : α → Prop} {x : Int32} {off : Int} {tgt : Nat} (d : decode cc pc = .ok (.ifCond .lt off, 3)) (ht : (pc : Int) + off = (tgt : Int)) (h : Φ (if (x < 0) then X else Y)) (kt : (x < 0) → Φ X → gw_G p l e R s m args below meth c D A Q nL cells slots ws lv tgt st) (kf : ¬ (x < 0) → Φ Y → gw_G p l e R s m args below meth c D A Q nL cells slots ws lv (pc + 3) st) : gw_G p l e R s m args below meth c D A Q nL cells slots ws lv pc (.int x :: st) := fun H locs ls hP hD hS hl => lv_if_lt C.1.1 C.1.2.1 d ht (fun cq => kt cq (by rw [if_pos cq] at h; exact h) H locs ls hP hD hS hl) (fun cq => kf cq (by rw [if_neg cq] at h; exact h) H locs ls hP hD hS hl)
theorem gw_icmp_ge (C : Cx p s m args meth c cc nL Ts own D tys A rt) {α : Type} {X Y : α} {Φ : α → Prop} {x y : Int32} {off : Int} {tgt : Nat} (d : decode cc pc = .ok (.if_icmp .ge off, 3)) (ht : (pc : Int) + off = (tgt : Int)) (h : Φ (if (y ≤ x) then X else Y)) (kt : (y ≤ x) → Φ X → gw_G p l e R s m args below meth c D A Q nL cells slots ws lv tgt st) (kf : ¬ (y ≤ x) → Φ Y → gw_G p l e R s m args below meth c D A Q nL cells slots ws lv (pc + 3) st) : gw_G p l e R s m args below meth c D A Q nL cells slots ws lv pc (.int y :: .int x :: st) := fun H locs ls hP hD hS hl => lv_icmp_ge C.1.1 C.1.2.1 d ht (fun cq => kt cq (by rw [if_pos cq] at h; exact h) H locs ls hP hD hS hl) (fun cq => kf cq (by rw [if_neg cq] at h; exact h) H locs ls hP hD hS hl)
theorem gw_if_ge (C : Cx p s m args meth c cc nL Ts own D tys A rt) {α : Type} {X Y : α} {Φ : α → Prop} {x : Int32} {off : Int} {tgt : Nat} (d : decode cc pc = .ok (.ifCond .ge off, 3)) (ht : (pc : Int) + off = (tgt : Int)) (h : Φ (if (0 ≤ x) then X else Y)) (kt : (0 ≤ x) → Φ X → gw_G p l e R s m args below meth c D A Q nL cells slots ws lv tgt st) (kf : ¬ (0 ≤ x) → Φ Y → gw_G p l e R s m args below meth c D A Q nL cells slots ws lv (pc + 3) st) : gw_G p l e R s m args below meth c D A Q nL cells slots ws lv pc (.int x :: st) := fun H locs ls hP hD hS hl => lv_if_ge C.1.1 C.1.2.1 d ht (fun cq => kt cq (by rw [if_pos cq] at h; exact h) H locs ls hP hD hS hl) (fun cq => kf cq (by rw [if_neg cq] at h; exact h) H locs ls hP hD hS hl)
theorem gw_icmp_gt (C : Cx p s m args meth c cc nL Ts own D tys A rt) {α : Type} {X Y : α} {Φ : α → Prop} {x y : Int32} {off : Int} {tgt : Nat} (d : decode cc pc = .ok (.if_icmp .gt off, 3)) (ht : (pc : Int) + off = (tgt : Int)) (h : Φ (if (y < x) then X else Y)) (kt : (y < x) → Φ X → gw_G p l e R s m args below meth c D A Q nL cells slots ws lv tgt st) (kf : ¬ (y < x) → Φ Y → gw_G p l e R s m args below meth c D A Q nL cells slots ws lv (pc + 3) st) : gw_G p l e R s m args below meth c D A Q nL cells slots ws lv pc (.int y :: .int x :: st) := fun H locs ls hP hD hS hl => lv_icmp_gt C.1.1 C.1.2.1 d ht (fun cq => kt cq (by rw [if_pos cq] at h; exact h) H locs ls hP hD hS hl) (fun cq => kf cq (by rw [if_neg cq] at h; exact h) H locs ls hP hD hS hl)
theorem gw_if_gt (C : Cx p s m args meth c cc nL Ts own D tys A rt) {α : Type} {X Y : α} {Φ : α → Prop} {x : Int32} {off : Int} {tgt : Nat} (d : decode cc pc = .ok (.ifCond .gt off, 3)) (ht : (pc : Int) + off = (tgt : Int)) (h : Φ (if (0 < x) then X else Y)) (kt : (0 < x) → Φ X → gw_G p l e R s m args below meth c D A Q nL cells slots ws lv tgt st) (kf : ¬ (0 < x) → Φ Y → gw_G p l e R s m args below meth c D A Q nL cells slots ws lv (pc + 3) st) : gw_G p l e R s m args below meth c D A Q nL cells slots ws lv pc (.int x :: st) := fun H locs ls hP hD hS hl => lv_if_gt C.1.1 C.1.2.1 d ht (fun cq => kt cq (by rw [if_pos cq] at h; exact h) H locs ls hP hD hS hl) (fun cq => kf cq (by rw [if_neg cq] at h; exact h) H locs ls hP hD hS hl)
theorem gw_icmp_le (C : Cx p s m args meth c cc nL Ts own D tys A rt) {α : Type} {X Y : α} {Φ : α → Prop} {x y : Int32} {off : Int} {tgt : Nat} (d : decode cc pc = .ok (.if_icmp .le off, 3)) (ht : (pc : Int) + off = (tgt : Int)) (h : Φ (if (x ≤ y) then X else Y)) (kt : (x ≤ y) → Φ X → gw_G p l e R s m args below meth c D A Q nL cells slots ws lv tgt st) (kf : ¬ (x ≤ y) → Φ Y → gw_G p l e R s m args below meth c D A Q nL cells slots ws lv (pc + 3) st) : gw_G p l e R s m args below meth c D A Q nL cells slots ws lv pc (.int y :: .int x :: st) := fun H locs ls hP hD hS hl => lv_icmp_le C.1.1 C.1.2.1 d ht (fun cq => kt cq (by rw [if_pos cq] at h; exact h) H locs ls hP hD hS hl) (fun cq => kf cq (by rw [if_neg cq] at h; exact h) H locs ls hP hD hS hl)
theorem gw_if_le (C : Cx p s m args meth c cc nL Ts own D tys A rt) {α : Type} {X Y : α} {Φ : α → Prop} {x : Int32} {off : Int} {tgt : Nat} (d : decode cc pc = .ok (.ifCond .le off, 3)) (ht : (pc : Int) + off = (tgt : Int)) (h : Φ (if (x ≤ 0) then X else Y)) (kt : (x ≤ 0) → Φ X → gw_G p l e R s m args below meth c D A Q nL cells slots ws lv tgt st) (kf : ¬ (x ≤ 0) → Φ Y → gw_G p l e R s m args below meth c D A Q nL cells slots ws lv (pc + 3) st) : gw_G p l e R s m args below meth c D A Q nL cells slots ws lv pc (.int x :: st) := fun H locs ls hP hD hS hl => lv_if_le C.1.1 C.1.2.1 d ht (fun cq => kt cq (by rw [if_pos cq] at h; exact h) H locs ls hP hD hS hl) (fun cq => kf cq (by rw [if_neg cq] at h; exact h) H locs ls hP hD hS hl)
theorem gw_lcmp_eq (C : Cx p s m args meth c cc nL Ts own D tys A rt) {α : Type} {X Y : α} {Φ : α → Prop} {x y : Int64} {off : Int} {tgt : Nat} (d0 : decode cc pc = .ok (.lcmp, 1)) (d : decode cc (pc + 1) = .ok (.ifCond .eq off, 3)) (ht : ((pc + 1 : Nat) : Int) + off = (tgt : Int)) (h : Φ (if (x = y) then X else Y)) (kt : (x = y) → Φ X → gw_G p l e R s m args below meth c D A Q nL cells slots ws lv tgt st) (kf : ¬ (x = y) → Φ Y → gw_G p l e R s m args below meth c D A Q nL cells slots ws lv (pc + 1 + 3) st) : gw_G p l e R s m args below meth c D A Q nL cells slots ws lv pc (.long y :: .long x :: st) := by
  refine gw_lcmp C d0 ?_
  have h : Φ (if lg_cmp x y = 0 then X else Y) := by
    by_cases hc : (x = y)
    · rw [if_pos hc] at h; rw [if_pos ((lg_cmp_eq x y).mpr hc)]; exact h
    · rw [if_neg hc] at h; rw [if_neg (fun z => hc ((lg_cmp_eq x y).mp z))]; exact h
  exact gw_if_eq C d ht h (fun q h => kt ((lg_cmp_eq x y).mp q) h) (fun q h => kf (fun z => q ((lg_cmp_eq x y).mpr z)) h)
theorem gw_lcmp_ne (C : Cx p s m args meth c cc nL Ts own D tys A rt) {α : Type} {X Y : α} {Φ : α → Prop} {x y : Int64} {off : Int} {tgt : Nat} (d0 : decode cc pc = .ok (.lcmp, 1)) (d : decode cc (pc + 1) = .ok (.ifCond .ne off, 3)) (ht : ((pc + 1 : Nat) : Int) + off = (tgt : Int)) (h : Φ (if (x = y) then X else Y)) (kt : (x = y) → Φ X → gw_G p l e R s m args below meth c D A Q nL cells slots ws lv (pc + 1 + 3) st) (kf : ¬ (x = y) → Φ Y → gw_G p l e R s m args below meth c D A Q nL cells slots ws lv tgt st) : gw_G p l e R s m args below meth c D A Q nL cells slots ws lv pc (.long y :: .long x :: st) := by
  refine gw_lcmp C d0 ?_
  have h : Φ (if lg_cmp x y = 0 then X else Y) := by
    by_cases hc : (x = y)
    · rw [if_pos hc] at h; rw [if_pos ((lg_cmp_eq x y).mpr hc)]; exact h
    · rw [if_neg hc] at h; rw [if_neg (fun z => hc ((lg_cmp_eq x y).mp z))]; exact h
  exact gw_if_ne C d ht h (fun q h => kt ((lg_cmp_eq x y).mp q) h) (fun q h => kf (fun z => q ((lg_cmp_eq x y).mpr z)) h)
theorem gw_lcmp_ge (C : Cx p s m args meth c cc nL Ts own D tys A rt) {α : Type} {X Y : α} {Φ : α → Prop} {x y : Int64} {off : Int} {tgt : Nat} (d0 : decode cc pc = .ok (.lcmp, 1)) (d : decode cc (pc + 1) = .ok (.ifCond .ge off, 3)) (ht : ((pc + 1 : Nat) : Int) + off = (tgt : Int)) (h : Φ (if (y ≤ x) then X else Y)) (kt : (y ≤ x) → Φ X → gw_G p l e R s m args below meth c D A Q nL cells slots ws lv tgt st) (kf : ¬ (y ≤ x) → Φ Y → gw_G p l e R s m args below meth c D A Q nL cells slots ws lv (pc + 1 + 3) st) : gw_G p l e R s m args below meth c D A Q nL cells slots ws lv pc (.long y :: .long x :: st) := by
  refine gw_lcmp C d0 ?_
  have h : Φ (if 0 ≤ lg_cmp x y then X else Y) := by
    by_cases hc : (y ≤ x)
    · rw [if_pos hc] at h; rw [if_pos ((lg_cmp_ge x y).mpr hc)]; exact h
    · rw [if_neg hc] at h; rw [if_neg (fun z => hc ((lg_cmp_ge x y).mp z))]; exact h
  exact gw_if_ge C d ht h (fun q h => kt ((lg_cmp_ge x y).mp q) h) (fun q h => kf (fun z => q ((lg_cmp_ge x y).mpr z)) h)
theorem gw_lcmp_gt (C : Cx p s m args meth c cc nL Ts own D tys A rt) {α : Type} {X Y : α} {Φ : α → Prop} {x y : Int64} {off : Int} {tgt : Nat} (d0 : decode cc pc = .ok (.lcmp, 1)) (d : decode cc (pc + 1) = .ok (.ifCond .gt off, 3)) (ht : ((pc + 1 : Nat) : Int) + off = (tgt : Int)) (h : Φ (if (y < x) then X else Y)) (kt : (y < x) → Φ X → gw_G p l e R s m args below meth c D A Q nL cells slots ws lv tgt st) (kf : ¬ (y < x) → Φ Y → gw_G p l e R s m args below meth c D A Q nL cells slots ws lv (pc + 1 + 3) st) : gw_G p l e R s m args below meth c D A Q nL cells slots ws lv pc (.long y :: .long x :: st) := by
  refine gw_lcmp C d0 ?_
  have h : Φ (if 0 < lg_cmp x y then X else Y) := by
    by_cases hc : (y < x)
    · rw [if_pos hc] at h; rw [if_pos ((lg_cmp_gt x y).mpr hc)]; exact h
    · rw [if_neg hc] at h; rw [if_neg (fun z => hc ((lg_cmp_gt x y).mp z))]; exact h
  exact gw_if_gt C d ht h (fun q h => kt ((lg_cmp_gt x y).mp q) h) (fun q h => kf (fun z => q ((lg_cmp_gt x y).mpr z)) h)
theorem gw_lcmp_le (C : Cx p s m args meth c cc nL Ts own D tys A rt) {α : Type} {X Y : α} {Φ : α → Prop} {x y : Int64} {off : Int} {tgt : Nat} (d0 : decode cc pc = .ok (.lcmp, 1)) (d : decode cc (pc + 1) = .ok (.ifCond .le off, 3)) (ht : ((pc + 1 : Nat) : Int) + off = (tgt : Int)) (h : Φ (if (x ≤ y) then X else Y)) (kt : (x ≤ y) → Φ X → gw_G p l e R s m args below meth c D A Q nL cells slots ws lv tgt st) (kf : ¬ (x ≤ y) → Φ Y → gw_G p l e R s m args below meth c D A Q nL cells slots ws lv (pc + 1 + 3) st) : gw_G p l e R s m args below meth c D A Q nL cells slots ws lv pc (.long y :: .long x :: st) := by
  refine gw_lcmp C d0 ?_
  have h : Φ (if lg_cmp x y ≤ 0 then X else Y) := by
    by_cases hc : (x ≤ y)
    · rw [if_pos hc] at h; rw [if_pos ((lg_cmp_le x y).mpr hc)]; exact h
    · rw [if_neg hc] at h; rw [if_neg (fun z => hc ((lg_cmp_le x y).mp z))]; exact h
  exact gw_if_le C d ht h (fun q h => kt ((lg_cmp_le x y).mp q) h) (fun q h => kf (fun z => q ((lg_cmp_le x y).mpr z)) h)
theorem gw_lcmp_lt (C : Cx p s m args meth c cc nL Ts own D tys A rt) {α : Type} {X Y : α} {Φ : α → Prop} {x y : Int64} {off : Int} {tgt : Nat} (d0 : decode cc pc = .ok (.lcmp, 1)) (d : decode cc (pc + 1) = .ok (.ifCond .lt off, 3)) (ht : ((pc + 1 : Nat) : Int) + off = (tgt : Int)) (h : Φ (if (x < y) then X else Y)) (kt : (x < y) → Φ X → gw_G p l e R s m args below meth c D A Q nL cells slots ws lv tgt st) (kf : ¬ (x < y) → Φ Y → gw_G p l e R s m args below meth c D A Q nL cells slots ws lv (pc + 1 + 3) st) : gw_G p l e R s m args below meth c D A Q nL cells slots ws lv pc (.long y :: .long x :: st) := by
  refine gw_lcmp C d0 ?_
  have h : Φ (if lg_cmp x y < 0 then X else Y) := by
    by_cases hc : (x < y)
    · rw [if_pos hc] at h; rw [if_pos ((lg_cmp_lt x y).mpr hc)]; exact h
    · rw [if_neg hc] at h; rw [if_neg (fun z => hc ((lg_cmp_lt x y).mp z))]; exact h
  exact gw_if_lt C d ht h (fun q h => kt ((lg_cmp_lt x y).mp q) h) (fun q h => kf (fun z => q ((lg_cmp_lt x y).mpr z)) h)
theorem gw_sub (is : List Nat) (hl2 : lv_pick lv is = lv') (k : gw_G p l e R s m args below meth c D A Q nL cells slots ws lv' pc st) : gw_G p l e R s m args below meth c D A Q nL cells slots ws lv pc st := fun H locs ls hP hD hS hl => k H locs ls hP hD hS (lv_sub hl is hl2)
theorem gw_pc {pc2 : Nat} (h : pc = pc2) (k : gw_G p l e R s m args below meth c D A Q nL cells slots ws lv pc2 st) : gw_G p l e R s m args below meth c D A Q nL cells slots ws lv pc st := h ▸ k
theorem gw_get (C : Cx p s m args meth c cc nL Ts own D tys A rt) {index : Nat} (d : decode cc pc = .ok (.getfield index, 3)) (q0 ci k0 : Nat) {a : Nat} {Cn : String} {T : u_T} {N : Nat} {fs : List Value} {v : Value} (he : ws[q0]? = some (a, .inr (ci, fs))) (hc : vwCl[ci]? = some (Cn, T, N)) (hin : ∀ w ∈ u_ws Cn T N, w ∈ Ts) (hk : k0 < N) (hlk : Cond.fieldLink own index (T k0).1 (T k0).2.1 (T k0).2.2.1 ∈ Ts) (hv : fs[k0]? = some v) (k : gw_G p l e R s m args below meth c D A Q nL cells slots ws lv (pc + 3) (v :: st)) : gw_G p l e R s m args below meth c D A Q nL cells slots ws lv pc (.ref a :: st) :=
  fun H locs ls hP hD hS hl => va_get C.1.1 C.1.2.1 C.1.2.2.2.2 hin C.1.2.2.2.1 C.2.1 hP q0 he hc k0 hk (C.1.2.2.2.2 _ hlk) (fun _ h9 => h9) hv d (k H locs ls hP hD hS hl)
theorem gw_put (C : Cx p s m args meth c cc nL Ts own D tys A rt) {index : Nat} (d : decode cc pc = .ok (.putfield index, 3)) (q0 ci k0 : Nat) {a : Nat} {Cn : String} {T : u_T} {N : Nat} {fs : List Value} {v : Value} {ws' : va_W} (ty0 : Nat → FieldType) (hty : ∀ k, k < N → parseFieldDescriptor (T k).2.2.1 = some (ty0 k)) (hnm : ∀ a, a < N → ∀ b, b < N → a ≠ b → (T a).2.1 ≠ (T b).2.1) (he : ws[q0]? = some (a, .inr (ci, fs))) (hc : vwCl[ci]? = some (Cn, T, N)) (hin : ∀ w ∈ u_ws Cn T N, w ∈ Ts) (hk : k0 < N) (hlk : Cond.fieldLink own index (T k0).1 (T k0).2.1 (T k0).2.2.1 ∈ Ts) (hfin : (T k0).2.2.2 = false) {ty : FieldType} (hd : parseFieldDescriptor (T k0).2.2.1 = some ty) (hn : narrow ty v = v) (hfit : fits ty v = true) (hlen : k0 < fs.length) (hset : ws.set q0 (a, .inr (ci, fs.set k0 v)) = ws') (k : gw_G p l e R s m args below meth c D A Q nL cells slots ws' lv (pc + 3) st) : gw_G p l e R s m args below meth c D A Q nL cells slots ws lv pc (v :: .ref a :: st) :=
  fun H locs ls hP hD hS hl => va_put C.1.1 C.1.2.1 C.1.2.2.2.2 hin ty0 hty hnm C.1.2.2.2.1 C.2.1 hP hD hS q0 he hc k0 hk (C.1.2.2.2.2 _ hlk) (fun _ h9 => h9) hfin hd hn hfit hlen d (fun H1 locs1 hP1 hD1 hS1 => k H1 locs1 ls (by rw [← hset]; exact hP1) (by rw [← hset]; exact hD1) hS1 hl)
theorem gw_alen (C : Cx p s m args meth c cc nL Ts own D tys A rt) (d : decode cc pc = .ok (.arraylength, 1)) (q0 t0 : Nat) {a : Nat} {cA : ClassId} {x : vp_A} {ty : FieldType} {v : Int32} (he : ws[q0]? = some (a, .inl (cA, x))) (ht : tys[t0]? = some (cA, ty)) (hv : Int32.ofNat x.1 = v) (k : gw_G p l e R s m args below meth c D A Q nL cells slots ws lv (pc + 1) (.int v :: st)) : gw_G p l e R s m args below meth c D A Q nL cells slots ws lv pc (.ref a :: st) :=
  fun H locs ls hP hD hS hl => va_alen C.1.1 C.1.2.1 C.2.1 hP q0 t0 he ht hv d (k H locs ls hP hD hS hl)
theorem gw_iald (C : Cx p s m args meth c cc nL Ts own D tys A rt) (d : decode cc pc = .ok (.iaload, 1)) (q0 t0 : Nat) {a : Nat} {cA : ClassId} {n : Nat} {f : Nat → Int32} {i : Int32} (he : ws[q0]? = some (a, .inl (cA, n, .inl f))) (ht : tys[t0]? = some (cA, .int)) (hi : inb i n) (k : gw_G p l e R s m args below meth c D A Q nL cells slots ws lv (pc + 1) (.int (f i.toNatClampNeg) :: st)) : gw_G p l e R s m args below meth c D A Q nL cells slots ws lv pc (.int i :: .ref a :: st) :=
  fun H locs ls hP hD hS hl => va_iald C.1.1 C.1.2.1 C.2.1 hP q0 t0 he ht hi d (k H locs ls hP hD hS hl)
theorem gw_lald (C : Cx p s m args meth c cc nL Ts own D tys A rt) (d : decode cc pc = .ok (.laload, 1)) (q0 t0 : Nat) {a : Nat} {cA : ClassId} {n : Nat} {f : Nat → Int64} {i : Int32} (he : ws[q0]? = some (a, .inl (cA, n, .inr (.inl f)))) (ht : tys[t0]? = some (cA, .long)) (hi : inb i n) (k : gw_G p l e R s m args below meth c D A Q nL cells slots ws lv (pc + 1) (.long (f i.toNatClampNeg) :: st)) : gw_G p l e R s m args below meth c D A Q nL cells slots ws lv pc (.int i :: .ref a :: st) :=
  fun H locs ls hP hD hS hl => va_lald C.1.1 C.1.2.1 C.2.1 hP q0 t0 he ht hi d (k H locs ls hP hD hS hl)
theorem gw_aald (C : Cx p s m args meth c cc nL Ts own D tys A rt) (d : decode cc pc = .ok (.aaload, 1)) (q0 t0 : Nat) {a : Nat} {cA : ClassId} {Cn : String} {n : Nat} {f : Nat → Option Nat} {i : Int32} {v : Value} (he : ws[q0]? = some (a, .inl (cA, n, .inr (.inr (.inr (.inr f)))))) (ht : tys[t0]? = some (cA, .object Cn)) (hi : inb i n) (hv : va_rf (f i.toNatClampNeg) = v) (k : gw_G p l e R s m args below meth c D A Q nL cells slots ws lv (pc + 1) (v :: st)) : gw_G p l e R s m args below meth c D A Q nL cells slots ws lv pc (.int i :: .ref a :: st) :=
  fun H locs ls hP hD hS hl => va_aldq C.1.1 C.1.2.1 C.2.1 hP q0 t0 he ht hi d (by rw [hv]; exact k H locs ls hP hD hS hl)
theorem gw_iast (C : Cx p s m args meth c cc nL Ts own D tys A rt) (d : decode cc pc = .ok (.iastore, 1)) (q0 t0 : Nat) {a : Nat} {cA : ClassId} {n : Nat} {f : Nat → Int32} {i x : Int32} {ws' : va_W} (he : ws[q0]? = some (a, .inl (cA, n, .inl f))) (ht : tys[t0]? = some (cA, .int)) (hi : inb i n) (hset : ws.set q0 (a, .inl (cA, n, .inl (upd f i.toNatClampNeg x))) = ws') (k : gw_G p l e R s m args below meth c D A Q nL cells slots ws' lv (pc + 1) st) : gw_G p l e R s m args below meth c D A Q nL cells slots ws lv pc (.int x :: .int i :: .ref a :: st) :=
  fun H locs ls hP hD hS hl => va_iast C.1.1 C.1.2.1 C.2.1 hP hD hS q0 t0 he ht hi d (fun H1 locs1 hP1 hD1 hS1 => k H1 locs1 ls (by rw [← hset]; exact hP1) (by rw [← hset]; exact hD1) hS1 hl)
theorem gw_last (C : Cx p s m args meth c cc nL Ts own D tys A rt) (d : decode cc pc = .ok (.lastore, 1)) (q0 t0 : Nat) {a : Nat} {cA : ClassId} {n : Nat} {f : Nat → Int64} {i : Int32} {x : Int64} {ws' : va_W} (he : ws[q0]? = some (a, .inl (cA, n, .inr (.inl f)))) (ht : tys[t0]? = some (cA, .long)) (hi : inb i n) (hset : ws.set q0 (a, .inl (cA, n, .inr (.inl (vp_updL f i.toNatClampNeg x)))) = ws') (k : gw_G p l e R s m args below meth c D A Q nL cells slots ws' lv (pc + 1) st) : gw_G p l e R s m args below meth c D A Q nL cells slots ws lv pc (.long x :: .int i :: .ref a :: st) :=
  fun H locs ls hP hD hS hl => va_last C.1.1 C.1.2.1 C.2.1 hP hD hS q0 t0 he ht hi d (fun H1 locs1 hP1 hD1 hS1 => k H1 locs1 ls (by rw [← hset]; exact hP1) (by rw [← hset]; exact hD1) hS1 hl)
theorem gw_aast (C : Cx p s m args meth c cc nL Ts own D tys A rt) (d : decode cc pc = .ok (.aastore, 1)) (q0 t0 qk ci : Nat) {a : Nat} {cA : ClassId} {r : vw_C} {n v : Nat} {vs : List Value} {f : Nat → Option Nat} {i : Int32} {ws' : va_W} (he : ws[q0]? = some (a, .inl (cA, n, .inr (.inr (.inr (.inr f)))))) (ht : tys[t0]? = some (cA, .object r.1)) (hv : ws[qk]? = some (v, .inr (ci, vs))) (hc : vwCl[ci]? = some r) (hi : inb i n) (hset : ws.set q0 (a, .inl (cA, n, .inr (.inr (.inr (.inr (fun j => if j = i.toNatClampNeg then some v else f j)))))) = ws') (k : gw_G p l e R s m args below meth c D A Q nL cells slots ws' lv (pc + 1) st) : gw_G p l e R s m args below meth c D A Q nL cells slots ws lv pc (.ref v :: .int i :: .ref a :: st) :=
  fun H locs ls hP hD hS hl => va_astq C.1.1 C.1.2.1 C.2.1 hP hD hS q0 t0 qk ci he ht hv hc hi d (fun H1 locs1 hP1 hD1 hS1 => k H1 locs1 ls (by rw [← hset]; exact hP1) (by rw [← hset]; exact hD1) hS1 hl)
theorem gw_iret (C : Cx p s m args meth c cc nL Ts own D tys A (some .int)) {v : Int32} (d : decode cc pc = .ok (.ireturn, 1)) : gw_G p l e R s m args below meth c D A (MQ below (CtQ D (some (.int v)) ws A) args s 0 0 A) nL 0 0 ws lv pc [.int v] :=
  fun H locs ls hP hD hS hl => W.iret C.1.1 C.1.2.1 C.2.2.2.2.1 (fun t ht hW => ⟨⟨rfl, by rw [ht]; exact hP, hD⟩, hS.F ht⟩) hS.2.2 d C.2.2.2.1
theorem gw_lret (C : Cx p s m args meth c cc nL Ts own D tys A (some .long)) {v : Int64} (d : decode cc pc = .ok (.lreturn, 1)) : gw_G p l e R s m args below meth c D A (MQ below (CtQ D (some (.long v)) ws A) args s 0 0 A) nL 0 0 ws lv pc [.long v] :=
  fun H locs ls hP hD hS hl => W.lret C.1.1 C.1.2.1 C.2.2.2.2.1 (fun t ht hW => ⟨⟨rfl, by rw [ht]; exact hP, hD⟩, hS.F ht⟩) hS.2.2 d C.2.2.2.1
theorem gw_dret (C : Cx p s m args meth c cc nL Ts own D tys A (some .double)) {v : UInt64} (d : decode cc pc = .ok (.dreturn, 1)) : gw_G p l e R s m args below meth c D A (MQ below (CtQ D (some (.double v)) ws A) args s 0 0 A) nL 0 0 ws lv pc [.double v] :=
  fun H locs ls hP hD hS hl => W.dret C.1.1 C.1.2.1 C.2.2.2.2.1 (fun t ht hW => ⟨⟨rfl, by rw [ht]; exact hP, hD⟩, hS.F ht⟩) hS.2.2 d C.2.2.2.1
theorem gw_zret (C : Cx p s m args meth c cc nL Ts own D tys A (some .boolean)) {v : Int32} (hv : v = 0 ∨ v = 1) (d : decode cc pc = .ok (.ireturn, 1)) : gw_G p l e R s m args below meth c D A (MQ below (CtQ D (some (.int v)) ws A) args s 0 0 A) nL 0 0 ws lv pc [.int v] :=
  fun H locs ls hP hD hS hl => W.zret C.1.1 C.1.2.1 C.2.2.2.2.1 (by rcases hv with rfl | rfl <;> rfl) (fun t ht hW => ⟨⟨rfl, by rw [ht]; exact hP, hD⟩, hS.F ht⟩) hS.2.2 d C.2.2.2.1
theorem gw_vret (C : Cx p s m args meth c cc nL Ts own D tys A none) (d : decode cc pc = .ok (.return_, 1)) : gw_G p l e R s m args below meth c D A (MQ below (CtQ D none ws A) args s 0 0 A) nL 0 0 ws lv pc [] :=
  fun H locs ls hP hD hS hl => W.vret C.1.1 C.1.2.1 C.2.2.2.2.1 (fun t ht hW => ⟨⟨rfl, by rw [ht]; exact hP, hD⟩, hS.F ht⟩) hS.2.2 d C.2.2.2.1
theorem run_V (C : Cx p s m args meth c cc nL Ts own D tys A rt) {y : MethodName} {wsy : List Cond} {rm : Room} {b index maxL n : Nat} {As rest : List Value} {W0 W1 : va_W} {r ret} {Cn : String} {bytes : ByteArray} {fs : List Value} {q : vw_C} (hM : Ct l D tys y wsy rm (.ref b :: As) W0 r W1) (cw : CallW R s args own Cn index y bytes maxL ret wsy rm 0 0 n) (q0 ci : Nat) (hb : W0[q0]? = some (b, .inr (ci, fs))) (hc : vwCl[ci]? = some q) (hq : q.1 = Cn) (hn : As.length = n) (hst : st = As.reverse ++ .ref b :: rest) (hrs : (rest.map fun v => v.category).sum ≤ 8) (d : decode cc pc = .ok (.invokevirtual index, 3)) (hcs : cells ≤ R.cells ∧ slots ≤ R.slots) : Rn p l e R s m args below meth c D nL cells slots W0 r W1 lv pc st rest := by
  intro H locs ls hP hD hl
  subst hq
  exact ⟨_, va_runV (As := As) (rest := rest) C.1 (hM H.size) cw ⟨CtP_blind _ _ _ _ _, va_recv C.2.1 hP hc hb, fun U hU hW => ⟨rfl, by rw [hU], by rw [hU]; exact hP, ⟨va_K.moved hW.alike C.2.1, nestW_warm hW C.2.2.2.2.2⟩, hD⟩⟩ rfl hn hl.1 hst (lv_room hrs) d hcs⟩
theorem run_S (C : Cx p s m args meth c cc nL Ts own D tys A rt) {y : MethodName} {wsy : List Cond} {rm : Room} {index maxL n : Nat} {As rest : List Value} {W0 W1 : va_W} {r ret} {bytes : ByteArray} (hM : Ct l D tys y wsy rm As W0 r W1) (cw : CallB R s args own index y bytes maxL ret wsy rm 0 0 n ∧ (Cond.static y).before args s = true) (hn : As.length = n) (hst : st = As.reverse ++ rest) (hrs : (rest.map fun v => v.category).sum ≤ 8) (d : decode cc pc = .ok (.invokestatic index, 3)) (hcs : cells ≤ R.cells ∧ slots ≤ R.slots) : Rn p l e R s m args below meth c D nL cells slots W0 r W1 lv pc st rest := by
  intro H locs ls hP hD hl
  exact ⟨_, va_runS (As := As) (rest := rest) C.1 (hM H.size) cw ⟨CtP_blind _ _ _ _ _, fun U hU hW => ⟨rfl, by rw [hU], by rw [hU]; exact hP, ⟨va_K.moved hW.alike C.2.1, nestW_warm hW C.2.2.2.2.2⟩, hD⟩⟩ rfl hn hl.1 hst (lv_room hrs) d hcs⟩
theorem run_SN (C : Cx p s m args meth c cc nL Ts own D tys A rt) {y : MethodName} {wsy : List Cond} {rm : Room} {index maxL n : Nat} {As rest : List Value} {W0 W1 : va_W} {r ret} {bytes : ByteArray} {host : String} (hM : Ct l D tys y wsy rm As W0 r W1) (cw : va_CN R s args own index y host bytes maxL ret wsy rm 0 0 n ∧ (Cond.static y).before args s = true ∧ True) (hn : As.length = n) (hst : st = As.reverse ++ rest) (hrs : (rest.map fun v => v.category).sum ≤ 8) (d : decode cc pc = .ok (.invokestatic index, 3)) (hcs : cells ≤ R.cells ∧ slots ≤ R.slots) : Rn p l e R s m args below meth c D nL cells slots W0 r W1 lv pc st rest := by
  intro H locs ls hP hD hl
  exact ⟨_, va_runSN (As := As) (rest := rest) C.1 (hM H.size) cw ⟨CtP_blind _ _ _ _ _, fun U hU hW => ⟨rfl, by rw [hU], by rw [hU]; exact hP, ⟨va_K.moved hW.alike C.2.1, nestW_warm hW C.2.2.2.2.2⟩, hD⟩⟩ rfl hn hl.1 hst (lv_room hrs) d hcs⟩
/-- behind a call: the callee's world is a part (places isC) of the caller's; isR are the others' places; perm puts them in order -/
theorem gw_sub_call (C : Cx p s m args meth c cc nL Ts own D tys A rt) {W0 W1 ws' : va_W} {r : Option Value} {rest : List Value} (isC isR perm : List Nat) (hC : isC.map (fun i => ws[i]?) = W0.map some) (hnC : va_nd isC = true) (hR : isR.map (fun i => ws[i]?) = (isR.filterMap (fun i => ws[i]?)).map some) (hnR : va_nd isR = true) (hdis : ∀ i ∈ isR, i ∉ isC) (hp : perm.map (fun i => (isR.filterMap (fun i => ws[i]?) ++ W1)[i]?) = ws'.map some) (hnp : va_nd perm = true) (hr : Rn p l e R s m args below meth c D nL cells slots W0 r W1 lv pc st rest) {st2 : List Value} (hs2 : r.toList ++ rest = st2) (k : gw_G p l e R s m args below meth c D A Q nL cells slots ws' lv (pc + 3) st2) : gw_G p l e R s m args below meth c D A Q nL cells slots ws lv pc st := by
  subst hs2
  intro H locs ls hP hD hS hl T hT X
  have hsubP : va_P D vwCl W0 H := by
    intro k0 q hk
    have h1 : (isC.map (fun i => ws[i]?))[k0]? = some (some q) := by rw [hC, List.getElem?_map, hk]; rfl
    rw [List.getElem?_map] at h1
    cases hi : isC[k0]? with
    | none => rw [hi] at h1; cases h1
    | some i => rw [hi] at h1; exact hP i q (Option.some.inj h1)
  have hD0 : va_D A W0 := hD.sub isC hnC hC
  have hF : ∀ q, va_A W0 H.size q → A q := va_free hD hS C.2.2.1 isC hC
  obtain ⟨a, hrun⟩ := hr H locs ls hsubP (hD0.weaken (fun _ _ _ _ => trivial)) hl
  obtain ⟨v, st₀, t, T', L, h0, X', hL, e1, e2, ⟨⟨hv, hP1, hD1⟩, hz, hk⟩, stp⟩ := hrun T hT X
  cases hv
  rw [h0] at hz hk
  rw [← e1] at hz hk hP1
  obtain ⟨hPj, hDj⟩ := va_join hP hD isC isR hC hR hnR hdis hk hF hP1 hD1
  have hPn : va_P D vwCl ws' T'.heap := by
    intro k0 q hk0
    have h1 : (perm.map (fun i => (isR.filterMap (fun i => ws[i]?) ++ W1)[i]?))[k0]? = some (some q) := by rw [hp, List.getElem?_map, hk0]; rfl
    rw [List.getElem?_map] at h1
    cases hi : perm[k0]? with
    | none => rw [hi] at h1; cases h1
    | some i => rw [hi] at h1; exact hPj i q (Option.some.inj h1)
  have hDn : va_D A ws' := hDj.sub perm hnp hp
  have hSn : va_S A s.heap T'.heap (locs ++ L) := ⟨Nat.le_trans hS.1 hz, fun q h1 h2 => by
    rw [hk q (Nat.lt_of_lt_of_le h1 hS.1) (fun z => h2 (hF q z))]
    exact hS.2.1 q h1 h2, fun q hq => by
      rcases List.mem_append.mp hq with h | h
      · exact hS.2.2 q h
      · exact hF _ (hL q h)⟩
  obtain ⟨t2, a1, b1⟩ := k T'.heap (locs ++ L) ls hPn hDn hSn hl T' rfl X'
  exact ⟨t2, stp t2 a1, b1⟩
/-- the callee's world is the caller's -/
theorem gw_whole (C : Cx p s m args meth c cc nL Ts own D tys A rt) {W1 : va_W} {r : Option Value} {rest : List Value} (hr : Rn p l e R s m args below meth c D nL cells slots ws r W1 lv pc st rest) {st2 : List Value} (hs2 : r.toList ++ rest = st2) (k : gw_G p l e R s m args below meth c D A Q nL cells slots W1 lv (pc + 3) st2) : gw_G p l e R s m args below meth c D A Q nL cells slots ws lv pc st := by
  subst hs2
  intro H locs ls hP hD hS hl T hT X
  have hF : ∀ q, va_A ws H.size q → A q := by
    intro q hq
    rcases hq with ⟨k0, e0, h⟩ | h
    · exact hD.2 k0 (q, e0) h
    · exact C.2.2.1 q (Nat.le_trans hS.1 h)
  obtain ⟨a, hrun⟩ := hr H locs ls hP (hD.weaken (fun _ _ _ _ => trivial)) hl
  obtain ⟨v, st₀, t, T', L, h0, X', hL, e1, e2, ⟨⟨hv, hP1, hD1⟩, hz, hk⟩, stp⟩ := hrun T hT X
  cases hv
  rw [h0] at hz hk
  rw [← e1] at hz hk hP1
  have hSn : va_S A s.heap T'.heap (locs ++ L) := ⟨Nat.le_trans hS.1 hz, fun q h1 h2 => by
    rw [hk q (Nat.lt_of_lt_of_le h1 hS.1) (fun z => h2 (hF q z))]
    exact hS.2.1 q h1 h2, fun q hq => by
      rcases List.mem_append.mp hq with h | h
      · exact hS.2.2 q h
      · exact hF _ (hL q h)⟩
  obtain ⟨t2, a1, b1⟩ := k T'.heap (locs ++ L) ls hP1 (hD1.weaken (fun _ q _ h => hF q.1 h)) hSn hl T' rfl X'
  exact ⟨t2, stp t2 a1, b1⟩
/-- the callee has no world -/
theorem gw_none (C : Cx p s m args meth c cc nL Ts own D tys A rt) {r : Option Value} {rest : List Value} (hr : Rn p l e R s m args below meth c D nL cells slots [] r [] lv pc st rest) {st2 : List Value} (hs2 : r.toList ++ rest = st2) (k : gw_G p l e R s m args below meth c D A Q nL cells slots ws lv (pc + 3) st2) : gw_G p l e R s m args below meth c D A Q nL cells slots ws lv pc st := by
  subst hs2
  intro H locs ls hP hD hS hl T hT X
  have hF : ∀ q, va_A [] H.size q → A q := by
    intro q hq
    rcases hq with ⟨k0, e0, h⟩ | h
    · simp at h
    · exact C.2.2.1 q (Nat.le_trans hS.1 h)
  obtain ⟨a, hrun⟩ := hr H locs ls (fun k0 q h => by simp at h) ⟨fun i j x y h => by simp at h, fun k0 q h => by simp at h⟩ hl
  obtain ⟨v, st₀, t, T', L, h0, X', hL, e1, e2, ⟨⟨hv, -, -⟩, hz, hk⟩, stp⟩ := hrun T hT X
  cases hv
  rw [h0] at hz hk
  rw [← e1] at hz hk
  have hkk : ∀ q : Nat, q < H.size → T'.heap[q]? = H[q]? := fun q hq => hk q hq (fun z => by
    rcases z with ⟨k0, e0, h⟩ | h
    · simp at h
    · exact absurd hq (Nat.not_lt.mpr h))
  have hSn : va_S A s.heap T'.heap (locs ++ L) := ⟨Nat.le_trans hS.1 hz, fun q h1 h2 => by
    rw [hkk q (Nat.lt_of_lt_of_le h1 hS.1)]
    exact hS.2.1 q h1 h2, fun q hq => by
      rcases List.mem_append.mp hq with h | h
      · exact hS.2.2 q h
      · exact hF _ (hL q h)⟩
  obtain ⟨t2, a1, b1⟩ := k T'.heap (locs ++ L) ls (hP.kept (fun k0 q h => hkk q.1 (hP k0 q h).lt)) hD hSn hl T' rfl X'
  exact ⟨t2, stp t2 a1, b1⟩
/-- the callee's world is one cell of the caller's -/
theorem gw_one (C : Cx p s m args meth c cc nL Ts own D tys A rt) {ws' : va_W} {r : Option Value} {rest : List Value} {a : Nat} {e0 e1 : va_E} (q0 : Nat) (he : ws[q0]? = some (a, e0)) (hr : Rn p l e R s m args below meth c D nL cells slots [(a, e0)] r [(a, e1)] lv pc st rest) (hset : ws.set q0 (a, e1) = ws') {st2 : List Value} (hs2 : r.toList ++ rest = st2) (k : gw_G p l e R s m args below meth c D A Q nL cells slots ws' lv (pc + 3) st2) : gw_G p l e R s m args below meth c D A Q nL cells slots ws lv pc st := by
  subst hs2
  subst hset
  intro H locs ls hP hD hS hl T hT X
  have hP0 : va_P D vwCl [(a, e0)] H := by
    intro k0 q hk
    cases k0 with
    | zero => cases hk; exact hP q0 _ he
    | succ k0 => simp at hk
  have hD0 : va_D A [(a, e0)] := by
    refine ⟨fun i j x y hi hj _ => ?_, fun k0 q hk => ?_⟩
    · cases i with
      | succ i => simp at hi
      | zero => cases j with
        | succ j => simp at hj
        | zero => rfl
    · cases k0 with
      | succ k0 => simp at hk
      | zero => cases hk; exact hD.2 q0 _ he
  have hF : ∀ q, va_A [(a, e0)] H.size q → A q := by
    intro q hq
    rcases hq with ⟨k0, e9, h⟩ | h
    · exact hD0.2 k0 (q, e9) h
    · exact C.2.2.1 q (Nat.le_trans hS.1 h)
  obtain ⟨a9, hrun⟩ := hr H locs ls hP0 (hD0.weaken (fun _ _ _ _ => trivial)) hl
  obtain ⟨v, st₀, t, T', L, h0, X', hL, e1', e2', ⟨⟨hv, hP1, hD1⟩, hz, hk⟩, stp⟩ := hrun T hT X
  cases hv
  rw [h0] at hz hk
  rw [← e1'] at hz hk hP1
  have hPn : va_P D vwCl (ws.set q0 (a, e1)) T'.heap := by
    have hl0 := (List.getElem?_eq_some_iff.mp he).1
    intro k0 q hk0
    by_cases hkp : k0 = q0
    · subst hkp
      rw [List.getElem?_set_self hl0] at hk0
      cases hk0
      exact hP1 0 _ rfl
    · rw [List.getElem?_set_ne (Ne.symm hkp)] at hk0
      refine (hP k0 q hk0).kept (hk q.1 (hP k0 q hk0).lt ?_)
      rintro (⟨k9, e9, h9⟩ | h9)
      · cases k9 with
        | succ k9 => simp at h9
        | zero =>
          have hq : (a, e0) = (q.1, e9) := Option.some.inj h9
          exact hkp (hD.1 k0 q0 q (a, e0) hk0 he (congrArg Prod.fst hq).symm)
      · exact absurd (hP k0 q hk0).lt (Nat.not_lt.mpr h9)
  have hSn : va_S A s.heap T'.heap (locs ++ L) := ⟨Nat.le_trans hS.1 hz, fun q h1 h2 => by
    rw [hk q (Nat.lt_of_lt_of_le h1 hS.1) (fun z => h2 (hF q z))]
    exact hS.2.1 q h1 h2, fun q hq => by
      rcases List.mem_append.mp hq with h | h
      · exact hS.2.2 q h
      · exact hF _ (hL q h)⟩
  obtain ⟨t2, a1, b1⟩ := k T'.heap (locs ++ L) ls hPn (hD.set he) hSn hl T' rfl X'
  exact ⟨t2, stp t2 a1, b1⟩
theorem gw_cn (C : Cx p s m args meth c cc nL Ts own D tys A rt) {y : MethodName} {bytes : ByteArray} {maxL n index : Nat} {ret : Option FieldType} {wsy ws9 : List Cond} {rm : Room} (hG : GoodIn Ts wsy) (hw : wsy = Cond.code y bytes maxL ret :: ws9) (hrc : rm.cells = 0) (hrs : rm.slots = 0) (hl : Cond.methodLinkNest own index y "PackedWords" ∈ nestW) (hi : Cond.initialized y.cls ∈ Ts) (hst : Cond.static y ∈ Ts) (hd : y.cls ≠ "java/lang/invoke/MethodHandle" ∧ y.cls ≠ "java/lang/invoke/VarHandle" ∧ (parseMethodDescriptor y.desc).map (fun d => d.parameters.length) = some n) (hR : rm.frames + 1 ≤ R.frames ∧ 8 + (maxL + 11) + rm.locals ≤ R.locals) : va_CN R s args own index y "PackedWords" bytes maxL ret wsy rm 0 0 n ∧ (Cond.static y).before args s = true ∧ True :=
  ⟨va_cnB n C.1.2.2.2.2 hG hw hrc hrs (C.2.2.2.2.2 _ hl) (C.1.2.2.2.2 _ hi) hd hR, C.1.2.2.2.2 _ hst, trivial⟩
theorem gw_tabIn (C : Cx p s m args meth c cc nL Ts own D tys A rt) {dflt lo hi off : Int} {offs : Array Int} {len tgt : Nat} {x k : Int32} (d : decode cc pc = .ok (.tableswitch dflt lo hi offs, len)) (hx : x = k) (h1 : ¬ k.toInt < lo) (h2 : ¬ hi < k.toInt) (ho : offs[(k.toInt - lo).toNat]? = some off) (ht : (pc : Int) + off = (tgt : Int)) (kk : gw_G p l e R s m args below meth c D A Q nL cells slots ws lv tgt st) : gw_G p l e R s m args below meth c D A Q nL cells slots ws lv pc (.int x :: st) := by
  subst hx
  exact fun H locs ls hP hD hS hl => lv_tableIn C.1.1 C.1.2.1 d h1 h2 ho ht (kk H locs ls hP hD hS hl)
theorem gw_tabOut (C : Cx p s m args meth c cc nL Ts own D tys A rt) {dflt lo hi : Int} {offs : Array Int} {len tgt : Nat} {x : Int32} (d : decode cc pc = .ok (.tableswitch dflt lo hi offs, len)) (h : x.toInt < lo ∨ hi < x.toInt) (ht : (pc : Int) + dflt = (tgt : Int)) (kk : gw_G p l e R s m args below meth c D A Q nL cells slots ws lv tgt st) : gw_G p l e R s m args below meth c D A Q nL cells slots ws lv pc (.int x :: st) :=
  fun H locs ls hP hD hS hl => lv_tableOut C.1.1 C.1.2.1 d h ht (kk H locs ls hP hD hS hl)
end GW
theorem Ct_of {l : Launch} {own : String} {D : va_G} {tys : List (ClassId × FieldType)} {y : MethodName} {wsy ws' : List Cond} {f lo : Nat} {av : List Value} {W0 W1 : va_W} {r : Option Value} (cc : ByteArray) (nL : Nat) (ret : Option FieldType) (hy : plainName y.cls = true) (hown : y.cls = own) (hw : wsy = Cond.code y cc nL ret :: ws') (hlen : (lg_sl av).length ≤ nL)
    (body : ∀ p e s m args below meth c (A : Nat → Prop), Cx p s m args meth c cc nL wsy own D tys A ret → (y.name = meth.name) → gw_G p l e (rmOf f lo) s m args below meth c D A (MQ below (CtQ D r W1 A) args s 0 0 A) nL 0 0 W0 (lv_args 0 av) 0 []) : Ct l D tys y wsy (rmOf f lo) av W0 r W1 := by
  intro sz
  refine Met.ofW (cc := cc) (maxL := nL) (ret := ret) hy hw ?_
  subst hown
  intro p e s m args below meth c s₁ B hml hv
  obtain ⟨rfl, hsz, hP, hK, hD0⟩ := hv
  have hts := atoms_spec (ws := wsy) B.pre
  have hown : s.vm.findClass y.cls = some m.cls := findClass_of_methodNamed B.named
  have hnm : meth.name = y.name := (name_of_methodNamed B.named B.method).1
  subst hsz
  rw [lg_entry_eq]
  exact body p e s m av.toArray below meth c (va_A W0 s.heap.size) ⟨⟨B.exec, B.bytes, hml, hown, hts⟩, hK.1, fun q h => Or.inr h, B.notSynchronized, B.returns, hK.2⟩ hnm.symm s.heap [] _ hP (hD0.self (sz := s.heap.size)) va_S.rf (lv_entry av hlen)
theorem Ct_to {l : Launch} {D : va_G} {tys : List (ClassId × FieldType)} {y : MethodName} {wsy : List Cond} {rm : Room} {av : List Value} {W0 W1 W2 : va_W} {r r2 : Option Value} (h : Ct l D tys y wsy rm av W0 r W1) (hr : r = r2) (hW : W1 = W2) : Ct l D tys y wsy rm av W0 r2 W2 := by
  subst hr; subst hW; exact h
theorem gw_out6 {lo hi : Int} {x : Int32} (h0 : ¬ x = 0) (h1 : ¬ x = 1) (h2 : ¬ x = 2) (h3 : ¬ x = 3) (h4 : ¬ x = 4) (h5 : ¬ x = 5) (hlo : lo = 0 := by rfl) (hhi : hi = 5 := by rfl) : x.toInt < lo ∨ hi < x.toInt := by
  subst hlo; subst hhi
  have g0 : ¬ x.toInt = 0 := lv_neT h0 (by decide)
  have g1 : ¬ x.toInt = 1 := lv_neT h1 (by decide)
  have g2 : ¬ x.toInt = 2 := lv_neT h2 (by decide)
  have g3 : ¬ x.toInt = 3 := lv_neT h3 (by decide)
  have g4 : ¬ x.toInt = 4 := lv_neT h4 (by decide)
  have g5 : ¬ x.toInt = 5 := lv_neT h5 (by decide)
  omega
theorem gw_out9 {lo hi : Int} {x : Int32} (h0 : ¬ x = 0) (h1 : ¬ x = 1) (h2 : ¬ x = 2) (h3 : ¬ x = 3) (h4 : ¬ x = 4) (h5 : ¬ x = 5) (h6 : ¬ x = 6) (h7 : ¬ x = 7) (h8 : ¬ x = 8) (hlo : lo = 0 := by rfl) (hhi : hi = 8 := by rfl) : x.toInt < lo ∨ hi < x.toInt := by
  subst hlo; subst hhi
  have g0 : ¬ x.toInt = 0 := lv_neT h0 (by decide)
  have g1 : ¬ x.toInt = 1 := lv_neT h1 (by decide)
  have g2 : ¬ x.toInt = 2 := lv_neT h2 (by decide)
  have g3 : ¬ x.toInt = 3 := lv_neT h3 (by decide)
  have g4 : ¬ x.toInt = 4 := lv_neT h4 (by decide)
  have g5 : ¬ x.toInt = 5 := lv_neT h5 (by decide)
  have g6 : ¬ x.toInt = 6 := lv_neT h6 (by decide)
  have g7 : ¬ x.toInt = 7 := lv_neT h7 (by decide)
  have g8 : ¬ x.toInt = 8 := lv_neT h8 (by decide)
  omega
theorem gw_out10 {lo hi : Int} {x : Int32} (h0 : ¬ x = 0) (h1 : ¬ x = 1) (h2 : ¬ x = 2) (h3 : ¬ x = 3) (h4 : ¬ x = 4) (h5 : ¬ x = 5) (h6 : ¬ x = 6) (h7 : ¬ x = 7) (h8 : ¬ x = 8) (h9 : ¬ x = 9) (hlo : lo = 0 := by rfl) (hhi : hi = 9 := by rfl) : x.toInt < lo ∨ hi < x.toInt := by
  subst hlo; subst hhi
  have g0 : ¬ x.toInt = 0 := lv_neT h0 (by decide)
  have g1 : ¬ x.toInt = 1 := lv_neT h1 (by decide)
  have g2 : ¬ x.toInt = 2 := lv_neT h2 (by decide)
  have g3 : ¬ x.toInt = 3 := lv_neT h3 (by decide)
  have g4 : ¬ x.toInt = 4 := lv_neT h4 (by decide)
  have g5 : ¬ x.toInt = 5 := lv_neT h5 (by decide)
  have g6 : ¬ x.toInt = 6 := lv_neT h6 (by decide)
  have g7 : ¬ x.toInt = 7 := lv_neT h7 (by decide)
  have g8 : ¬ x.toInt = 8 := lv_neT h8 (by decide)
  have g9 : ¬ x.toInt = 9 := lv_neT h9 (by decide)
  omega
theorem gw_out21 {lo hi : Int} {x : Int32} (h0 : ¬ x = 0) (h1 : ¬ x = 1) (h2 : ¬ x = 2) (h3 : ¬ x = 3) (h4 : ¬ x = 4) (h5 : ¬ x = 5) (h6 : ¬ x = 6) (h7 : ¬ x = 7) (h8 : ¬ x = 8) (h9 : ¬ x = 9) (h10 : ¬ x = 10) (h11 : ¬ x = 11) (h12 : ¬ x = 12) (h13 : ¬ x = 13) (h14 : ¬ x = 14) (h15 : ¬ x = 15) (h16 : ¬ x = 16) (h17 : ¬ x = 17) (h18 : ¬ x = 18) (h19 : ¬ x = 19) (h20 : ¬ x = 20) (hlo : lo = 0 := by rfl) (hhi : hi = 20 := by rfl) : x.toInt < lo ∨ hi < x.toInt := by
  subst hlo; subst hhi
  have g0 : ¬ x.toInt = 0 := lv_neT h0 (by decide)
  have g1 : ¬ x.toInt = 1 := lv_neT h1 (by decide)
  have g2 : ¬ x.toInt = 2 := lv_neT h2 (by decide)
  have g3 : ¬ x.toInt = 3 := lv_neT h3 (by decide)
  have g4 : ¬ x.toInt = 4 := lv_neT h4 (by decide)
  have g5 : ¬ x.toInt = 5 := lv_neT h5 (by decide)
  have g6 : ¬ x.toInt = 6 := lv_neT h6 (by decide)
  have g7 : ¬ x.toInt = 7 := lv_neT h7 (by decide)
  have g8 : ¬ x.toInt = 8 := lv_neT h8 (by decide)
  have g9 : ¬ x.toInt = 9 := lv_neT h9 (by decide)
  have g10 : ¬ x.toInt = 10 := lv_neT h10 (by decide)
  have g11 : ¬ x.toInt = 11 := lv_neT h11 (by decide)
  have g12 : ¬ x.toInt = 12 := lv_neT h12 (by decide)
  have g13 : ¬ x.toInt = 13 := lv_neT h13 (by decide)
  have g14 : ¬ x.toInt = 14 := lv_neT h14 (by decide)
  have g15 : ¬ x.toInt = 15 := lv_neT h15 (by decide)
  have g16 : ¬ x.toInt = 16 := lv_neT h16 (by decide)
  have g17 : ¬ x.toInt = 17 := lv_neT h17 (by decide)
  have g18 : ¬ x.toInt = 18 := lv_neT h18 (by decide)
  have g19 : ¬ x.toInt = 19 := lv_neT h19 (by decide)
  have g20 : ¬ x.toInt = 20 := lv_neT h20 (by decide)
  omega
