/-! the law's own rules: its script, its helpers, its world -/
def wL (cI cJ cO : ClassId) (ao : Nat) (g : Nat → Int64) (aP : Nat) (bT bR : Nat → Nat) (aS : Nat) (q : PS) (a : Nat → Nat) (m : MS) : va_W := [(ao, .inl (cJ, 1, .inr (.inl g)))] ++ (wP cI cJ cO aP bT bR aS q ++ wM cI a m)
theorem pm_P {A P M : va_W} : (A ++ (P ++ M)).Perm (P ++ (A ++ M)) := by
  rw [← List.append_assoc, ← List.append_assoc]
  exact List.perm_append_comm.append_right M
theorem pm_M {A P M : va_W} : (A ++ (P ++ M)).Perm (M ++ (A ++ P)) := by
  rw [← List.append_assoc]
  exact List.perm_append_comm
theorem pm_AP {A P M : va_W} : (A ++ (P ++ M)).Perm ((A ++ P) ++ M) := by
  rw [List.append_assoc]
theorem pm_Q {A Q V M : va_W} : (A ++ ((Q ++ V) ++ M)).Perm (Q ++ (A ++ (V ++ M))) := by
  rw [List.append_assoc]
  exact pm_P
theorem pm_AQ {A Q V M : va_W} : (A ++ ((Q ++ V) ++ M)).Perm ((A ++ Q) ++ (V ++ M)) := by
  rw [List.append_assoc, List.append_assoc]
section GL
variable {p : Program} {l : Launch} {e : Env} {R : Room} {s : State} {m : MethodId} {args : Array Value} {below : List Frame} {meth : Method} {c : Code} {D : va_G} {A : Nat → Prop} {Q : State → Prop} {nL cells slots : Nat} {ws : va_W} {lv lv' : List (Nat × Value)} {pc : Nat} {st : List Value}
variable {cc : ByteArray} {Ts : List Cond} {own : String} {tys : List (ClassId × FieldType)} {rt : Option FieldType}
theorem gw_part (C : Cx p s m args meth c cc nL Ts own D tys A rt) {W0 W1 v ws' : va_W} {r : Option Value} {rest : List Value} (hr : Rn p l e R s m args below meth c D nL cells slots W0 r W1 lv pc st rest) (hp : ws.Perm (W0 ++ v)) (hp' : (W1 ++ v).Perm ws') {st2 : List Value} (hs2 : r.toList ++ rest = st2) (k : gw_G p l e R s m args below meth c D A Q nL cells slots ws' lv (pc + 3) st2) : gw_G p l e R s m args below meth c D A Q nL cells slots ws lv pc st :=
  gw_perm0 hp (gw_front C hr rfl rfl hs2 (gw_perm0 hp' k))
theorem xfH_warm {U : State} (h : xfH s) (hW : s.WarmedH U.vm) : xfH U := ⟨va_Nc.moved hW.alike h.1, va_Nc.moved hW.alike h.2⟩
theorem CtPH_blind (D : va_G) (tys : List (ClassId × FieldType)) (av : List Value) (W0 : va_W) (sz : Nat) : FrameBlind (CtPH D tys av W0 sz) := fun a U g mk q => ⟨CtPX_blind D tys av W0 sz a U g mk q.1, va_Nc.moved (u := U) (U := U.calling g mk a) (Vm.Alike.refl U.vm) q.2.1, va_Nc.moved (u := U) (U := U.calling g mk a) (Vm.Alike.refl U.vm) q.2.2⟩
/-- a helper's call -/
theorem gw_callH (C : Cx p s m args meth c cc nL Ts own D tys A rt) (htr : l.stackTraces = false) (XF : Xf0 s A) (XH : xfH s) {y : MethodName} {wsy : List Cond} {rm : Room} {index maxL n mc ms : Nat} {As rest : List Value} {W0 W1 v ws' : va_W} {r : Option Value} {ret : Option FieldType} {bytes : ByteArray} {hh : List (Nat × Nat × Nat × Nat)} (hM : CtH l D tys y wsy rm As W0 r W1 mc ms) (cw : vx_CSW R s args own index y bytes maxL ret hh wsy rm mc ms n) (hn : As.length = n) (hst : st = As.reverse ++ rest) (hrs : (rest.map fun v => v.category).sum ≤ 8) (d : decode cc pc = .ok (.invokestatic index, 3)) (hcs : cells + mc ≤ R.cells ∧ slots + ms ≤ R.slots) (hp : ws.Perm (W0 ++ v)) (hp' : (W1 ++ v).Perm ws') {st2 : List Value} (hs2 : r.toList ++ rest = st2)
    (k : gw_G p l e R s m args below meth c D A Q nL (cells + mc) (slots + ms) ws' lv (pc + 3) st2) : gw_G p l e R s m args below meth c D A Q nL cells slots ws lv pc st := by
  refine gw_perm0 hp ?_
  replace k := gw_perm0 hp' k
  subst hs2
  intro H locs ls hP hD hS hl T hT X
  obtain ⟨hd1, hd2⟩ := gw_Diff.mp hD
  have hP0 : va_P D vwCl W0 H := gw_Piff.mpr fun q hq => gw_Piff.mp hP q (List.mem_append_left _ hq)
  have hPv : va_P D vwCl v H := gw_Piff.mpr fun q hq => gw_Piff.mp hP q (List.mem_append_right _ hq)
  rw [List.map_append, List.nodup_append] at hd1
  have hD0 : va_D A W0 := gw_Diff.mpr ⟨hd1.1, fun q hq => hd2 q (List.mem_append_left _ hq)⟩
  have hDv : va_D A v := gw_Diff.mpr ⟨hd1.2.1, fun q hq => hd2 q (List.mem_append_right _ hq)⟩
  have hF : ∀ q, va_A W0 H.size q → A q := by
    rintro q (⟨k0, e0, h⟩ | h)
    · exact hD0.2 k0 (q, e0) h
    · exact C.2.2.1 q (Nat.le_trans hS.1 h)
  have hXF : ∀ U : State, U.heap = H → s.WarmedH U.vm → Xf0 U (va_A W0 H.size) := by
    intro U hU hW
    refine ⟨?_, ?_, fun q hq => ?_, fun w hw => xW_warm hW w hw (XF.2.2.2 w hw)⟩
    · rw [hU]; exact vx_Zq.moved hW.alike ((vx_Zq.kept XF.1 (fun a h1 h2 => hS.2.1 a h1 h2)).narrow hF)
    · rw [hU]; exact vx_Zq.moved hW.alike ((vx_Zq.kept XF.2.1 (fun a h1 h2 => hS.2.1 a h1 h2)).narrow hF)
    · obtain ⟨a, h⟩ := XF.2.2.1 q hq
      exact ⟨a, vk_R.warm hW h⟩
  have hrun := vx_runSW (e := e) (below := below) (meth := meth) (As := As) (rest := rest) (g := F0 m pc ls st) (H := H) (locs := locs) (cells := cells) (slots := slots) C.1 (hM htr H.size) cw ⟨CtPH_blind _ _ _ _ _, fun U hU hW => ⟨⟨⟨rfl, by rw [hU], by rw [hU]; exact hP0, ⟨va_K.moved hW.alike C.2.1, nestW_warm hW C.2.2.2.2.2⟩, hD0.weaken (fun _ _ _ _ => trivial)⟩, hXF U hU hW⟩, xfH_warm XH hW⟩⟩ rfl hn hl.1 hst (lv_room hrs) d hcs
  obtain ⟨v9, st₀, t, T', L, h0, X', hL, e1, e2, ⟨⟨hv, hP1, hD1⟩, hz, hk⟩, stp⟩ := hrun T hT X
  cases hv
  rw [h0] at hz hk
  rw [← e1] at hz hk hP1
  have apart : ∀ q ∈ v, q.1 < H.size ∧ ¬ va_A W0 H.size q.1 := by
    intro q hq
    obtain ⟨i, hi⟩ := List.getElem?_of_mem hq
    have hlt := (hPv i q hi).lt
    refine ⟨hlt, ?_⟩
    rintro (⟨k0, e0, h⟩ | h)
    · exact hd1.2.2 q.1 (List.mem_map.mpr ⟨_, List.mem_of_getElem? h, rfl⟩) q.1 (List.mem_map.mpr ⟨q, hq, rfl⟩) rfl
    · omega
  have hPn : va_P D vwCl (W1 ++ v) T'.heap := by
    refine hP1.app (gw_Piff.mpr fun q hq => ?_)
    exact (gw_Piff.mp hPv q hq).kept (hk q.1 (apart q hq).1 (apart q hq).2)
  have hDn : va_D A (W1 ++ v) := by
    refine va_D.app (hD1.weaken (fun k0 q _ h => hF q.1 h)) hDv (fun i j x y hx hy hxy => ?_)
    exact (apart y (List.mem_of_getElem? hy)).2 (by rw [← hxy]; exact hD1.2 i x hx)
  have hSn : va_S A s.heap T'.heap (locs ++ L) := ⟨Nat.le_trans hS.1 hz, fun q h1 h2 => by
    rw [hk q (Nat.lt_of_lt_of_le h1 hS.1) (fun z => h2 (hF q z))]
    exact hS.2.1 q h1 h2, fun q hq => by
      rcases List.mem_append.mp hq with h | h
      · exact hS.2.2 q h
      · exact hF _ (hL q h)⟩
  obtain ⟨t2, a1, b1⟩ := k T'.heap (locs ++ L) ls hPn hDn hSn hl T' rfl X'
  exact ⟨t2, stp t2 a1, b1⟩
/-- the script's length, and one of its ints -/
theorem gw_slen (C : Cx p s m args meth c cc nL Ts own D tys A rt) {b L : Nat} {xs : Nat → Int32} (hX : va_X b L xs s s.heap) (hbl : b < s.heap.size) (hbA : ¬ A b) (d : decode cc pc = .ok (.arraylength, 1)) (k : gw_G p l e R s m args below meth c D A Q nL cells slots ws lv (pc + 1) (.int (nI L) :: st)) : gw_G p l e R s m args below meth c D A Q nL cells slots ws lv pc (.ref b :: st) :=
  fun H locs ls hP hD hS hl => va_slen C.1.1 C.1.2.1 hX hbl hbA hS d (k H locs ls hP hD hS hl)
theorem gw_sld (C : Cx p s m args meth c cc nL Ts own D tys A rt) {b L : Nat} {xs : Nat → Int32} (hX : va_X b L xs s s.heap) (hbl : b < s.heap.size) (hbA : ¬ A b) {i : Int32} (hin : vp_in i L) (d : decode cc pc = .ok (.iaload, 1)) (k : gw_G p l e R s m args below meth c D A Q nL cells slots ws lv (pc + 1) (.int (xs i.toNatClampNeg) :: st)) : gw_G p l e R s m args below meth c D A Q nL cells slots ws lv pc (.int i :: .ref b :: st) :=
  fun H locs ls hP hD hS hl => va_sld C.1.1 C.1.2.1 hX hbl hbA hS hin d (k H locs ls hP hD hS hl)
theorem gw_wide {cells2 slots2 : Nat} (h1 : cells ≤ cells2) (h2 : slots ≤ slots2) (k : gw_G p l e R s m args below meth c D A Q nL cells2 slots2 ws lv pc st) : gw_G p l e R s m args below meth c D A Q nL cells slots ws lv pc st :=
  fun H locs ls hP hD hS hl => W.widen h1 h2 (k H locs ls hP hD hS hl)
end GL
section GT
variable {p : Program} {l : Launch} {e : Env} {R : Room} {s : State} {m : MethodId} {args : Array Value} {below : List Frame} {meth : Method} {c : Code} {D : va_G} {A : Nat → Prop} {Q : State → Prop} {nL cells slots : Nat} {ws : va_W} {lv lv' : List (Nat × Value)} {pc : Nat} {st : List Value}
variable {cc : ByteArray} {Ts : List Cond} {own : String} {tys : List (ClassId × FieldType)} {rt : Option FieldType}
theorem gw_tsw (C : Cx p s m args meth c cc nL Ts own D tys A rt) {x : Int32} {dflt lo hi off : Int} {offs : Array Int} {len tgt : Nat} (d : decode cc pc = .ok (.tableswitch dflt lo hi offs, len)) (ho : (if x.toInt < lo ∨ x.toInt > hi then some dflt else offs[(x.toInt - lo).toNat]?) = some off) (ht : (pc : Int) + off = (tgt : Int)) (k : gw_G p l e R s m args below meth c D A Q nL cells slots ws lv tgt st) : gw_G p l e R s m args below meth c D A Q nL cells slots ws lv pc (.int x :: st) := by
  intro H locs ls hP hD hS hl T hT X
  have hx := C.1.1
  have hb := C.1.2.1
  obtain ⟨t, a, b⟩ := k H locs ls hP hD hS hl T hT X
  refine ⟨t, ?_, b⟩
  by_cases hc : x.toInt < lo ∨ x.toInt > hi
  · rw [if_pos hc] at ho
    have ho := Option.some.inj ho
    subst ho
    jvm_step X.here [X.here.top, hx, hb, d, tableswitch.wp_whole, hc, ht]
    exact a
  · rw [if_neg hc] at ho
    jvm_step X.here [X.here.top, hx, hb, d, tableswitch.wp_whole, hc, ho, ht]
    exact a
end GT
