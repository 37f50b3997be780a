/-! the saved tables, and the whole object -/
abbrev VS : Type := (Nat → Nat → Nat) × (Nat → TS)
abbrev PS : Type := QS × VS
def wR (cO : ClassId) (aS : Nat) (f : Nat → Option Nat) : va_W := [(aS, .inl (cO, 6, .inr (.inr (.inr (.inr f)))))]
def wO (aP : Nat) (bT bR : Nat → Nat) (aS : Nat) (q : QS) : va_W := [(aP, .inr (2, [.ref (bT 0), .ref (bR 0), .ref aS, .int (qN q), .long (qB q), .int (qL q)]))]
def wB (cI cJ cO : ClassId) (aP : Nat) (bT bR : Nat → Nat) (aS : Nat) (f : Nat → Option Nat) (t : PS) : List va_W := [wO aP bT bR aS t.1, wT cI cJ bT (qT t.1), wT cI cJ bR (qR t.1), wR cO aS f, wT cI cJ (t.2.1 0) (t.2.2 0), wT cI cJ (t.2.1 1) (t.2.2 1), wT cI cJ (t.2.1 2) (t.2.2 2), wT cI cJ (t.2.1 3) (t.2.2 3), wT cI cJ (t.2.1 4) (t.2.2 4), wT cI cJ (t.2.1 5) (t.2.2 5)]
def wP (cI cJ cO : ClassId) (aP : Nat) (bT bR : Nat → Nat) (aS : Nat) (t : PS) : va_W := (wB cI cJ cO aP bT bR aS (fun i => some (t.2.1 i 0)) t).flatten
def rotI : Nat → Nat
  | 0 => 1
  | 1 => 2
  | 2 => 3
  | 3 => 4
  | 4 => 5
  | _ => 0
def rotV (v : VS) : VS := (fun i => v.1 (rotI i), fun i => v.2 (rotI i))
def setV (v : VS) (k : Nat) (t : TS) : VS := (v.1, fun i => if i = k then t else v.2 i)
def rotF (v : VS) : Nat → Nat → Option Nat
  | 0, j => some (v.1 j 0)
  | k + 1, j => if j = k then some (v.1 (k + 1) 0) else rotF v k j
theorem gw_cxq {cA : ClassId} {n : Nat} {f g : Nat → Option Nat} (h : ∀ k, k < n → f k = g k) : vp_cell cA (n, .inr (.inr (.inr (.inr f)))) = vp_cell cA (n, .inr (.inr (.inr (.inr g)))) := by
  show arrV cA n (fun j => va_rf (f j)) = arrV cA n (fun j => va_rf (g j))
  unfold arrV
  rw [show (fun j : Fin n => va_rf (f j.val)) = (fun j : Fin n => va_rf (g j.val)) from funext fun j => by rw [h j.val j.isLt]]
section GP
variable {p : Program} {l : Launch} {e : Env} {R : Room} {s : State} {m : MethodId} {args : Array Value} {below : List Frame} {meth : Method} {c : Code} {D : va_G} {A : Nat → Prop} {Q : State → Prop} {nL cells slots : Nat} {ws : va_W} {lv : List (Nat × Value)} {pc : Nat} {st : List Value}
theorem gw_perm {ws' : va_W} (perm : List Nat) (hp : perm.map (fun i => ws[i]?) = ws'.map some) (hn : va_nd perm = true) (k : gw_G p l e R s m args below meth c D A Q nL cells slots ws' lv pc st) : gw_G p l e R s m args below meth c D A Q nL cells slots ws lv pc st := by
  intro H locs ls hP hD hS hl
  refine k H locs ls (fun k0 q hk0 => ?_) (hD.sub perm hn hp) hS hl
  have h1 : (perm.map (fun i => ws[i]?))[k0]? = some (some q) := by rw [hp, List.getElem?_map, hk0]; rfl
  rw [List.getElem?_map] at h1
  cases hi : perm[k0]? with
  | none => rw [hi] at h1; cases h1
  | some i => rw [hi] at h1; exact hP i q (Option.some.inj h1)
theorem gw_refs {cA : ClassId} {a n q0 : Nat} {f g : Nat → Option Nat} {ws' : va_W} (he : ws[q0]? = some (a, .inl (cA, n, .inr (.inr (.inr (.inr f)))))) (h : ∀ k, k < n → f k = g k) (hset : ws.set q0 (a, .inl (cA, n, .inr (.inr (.inr (.inr g))))) = ws') (k : gw_G p l e R s m args below meth c D A Q nL cells slots ws' lv pc st) : gw_G p l e R s m args below meth c D A Q nL cells slots ws lv pc st := by
  subst hset
  intro H locs ls hP hD hS hl
  refine k H locs ls ?_ (hD.set he) hS hl
  have hl0 := (List.getElem?_eq_some_iff.mp he).1
  intro k0 q hk0
  by_cases hkp : k0 = q0
  · subst hkp
    rw [List.getElem?_set_self hl0] at hk0
    cases hk0
    have h2 : H[a]? = some (vp_cell cA (n, .inr (.inr (.inr (.inr f))))) := hP k0 _ he
    show H[a]? = some (vp_cell cA (n, .inr (.inr (.inr (.inr g)))))
    rw [← gw_cxq h]; exact h2
  · rw [List.getElem?_set_ne (Ne.symm hkp)] at hk0
    exact hP k0 q hk0
end GP
theorem gw_Piff {D : va_G} {ws : va_W} {H : Heap} : va_P D vwCl ws H ↔ ∀ q ∈ ws, va_at D vwCl q H := by
  constructor
  · intro h q hq
    obtain ⟨i, hi⟩ := List.getElem?_of_mem hq
    exact h i q hi
  · intro h k q hk
    exact h q (List.mem_of_getElem? hk)
theorem gw_Diff {A : Nat → Prop} {ws : va_W} : va_D A ws ↔ (ws.map Prod.fst).Nodup ∧ ∀ q ∈ ws, A q.1 := by
  constructor
  · intro h
    refine ⟨?_, fun q hq => ?_⟩
    · rw [List.nodup_iff_pairwise_ne, List.pairwise_iff_getElem]
      intro i j hi hj hij he
      rw [List.length_map] at hi hj
      rw [List.getElem_map, List.getElem_map] at he
      have := h.1 i j ws[i] ws[j] (List.getElem?_eq_getElem hi) (List.getElem?_eq_getElem hj) he
      omega
    · obtain ⟨i, hi⟩ := List.getElem?_of_mem hq
      exact h.2 i q hi
  · rintro ⟨h1, h2⟩
    refine ⟨fun i j p q hi hj he => ?_, fun k q hk => h2 q (List.mem_of_getElem? hk)⟩
    obtain ⟨hi', ei⟩ := List.getElem?_eq_some_iff.mp hi
    obtain ⟨hj', ej⟩ := List.getElem?_eq_some_iff.mp hj
    rw [List.nodup_iff_pairwise_ne, List.pairwise_iff_getElem] at h1
    rcases Nat.lt_trichotomy i j with h | h | h
    · have := h1 i j (by rw [List.length_map]; exact hi') (by rw [List.length_map]; exact hj') h
      rw [List.getElem_map, List.getElem_map, ei, ej] at this
      exact absurd he this
    · exact h
    · have := h1 j i (by rw [List.length_map]; exact hj') (by rw [List.length_map]; exact hi') h
      rw [List.getElem_map, List.getElem_map, ei, ej] at this
      exact absurd he.symm this
section GB
variable {p : Program} {l : Launch} {e : Env} {R : Room} {s : State} {m : MethodId} {args : Array Value} {below : List Frame} {meth : Method} {c : Code} {D : va_G} {A : Nat → Prop} {Q : State → Prop} {nL cells slots : Nat} {ws : va_W} {lv : List (Nat × Value)} {pc : Nat} {st : List Value}
variable {cc : ByteArray} {Ts : List Cond} {own : String} {tys : List (ClassId × FieldType)} {rt : Option FieldType}
theorem gw_perm0 {ws' : va_W} (h : ws.Perm ws') (k : gw_G p l e R s m args below meth c D A Q nL cells slots ws' lv pc st) : gw_G p l e R s m args below meth c D A Q nL cells slots ws lv pc st := by
  intro H locs ls hP hD hS hl
  refine k H locs ls (gw_Piff.mpr fun q hq => gw_Piff.mp hP q (h.mem_iff.mpr hq)) ?_ hS hl
  obtain ⟨h1, h2⟩ := gw_Diff.mp hD
  exact gw_Diff.mpr ⟨(h.map Prod.fst).nodup h1, fun q hq => h2 q (h.mem_iff.mpr hq)⟩
theorem gw_blkperm {L L' : List va_W} (is : List Nat) (h : is.Perm (List.range L.length)) (hL : is.map (fun i => L.getD i []) = L') : L.flatten.Perm L'.flatten := by
  subst hL
  have e : L = (List.range L.length).map (fun i => L.getD i []) := by
    apply List.ext_getElem?
    intro i
    rw [List.getElem?_map]
    by_cases hi : i < L.length
    · rw [List.getElem?_range hi, Option.map_some, List.getD_eq_getElem?_getD, List.getElem?_eq_getElem hi]; rfl
    · rw [List.getElem?_eq_none (by omega), List.getElem?_eq_none (by rw [List.length_range]; omega)]; rfl
  have h2 : ((List.range L.length).map (fun i => L.getD i [])).Perm (is.map (fun i => L.getD i [])) := (h.symm).map _
  have h3 : L.Perm (is.map (fun i => L.getD i [])) := by
    refine List.Perm.trans ?_ h2
    exact List.Perm.of_eq e
  exact h3.flatten
theorem gw_reord {L L' : List va_W} (n : Nat) (is : List Nat) (hL : is.map (fun i => L.getD i []) = L') (hlen : L.length = n) (hn : is.Perm (List.range n)) (k : gw_G p l e R s m args below meth c D A Q nL cells slots L'.flatten lv pc st) : gw_G p l e R s m args below meth c D A Q nL cells slots L.flatten lv pc st := gw_perm0 (gw_blkperm is (by rw [hlen]; exact hn) hL) k
/-- the callee's world stands ahead -/
theorem gw_front (C : Cx p s m args meth c cc nL Ts own D tys A rt) {W0 W1 v ws' : va_W} {r : Option Value} {rest : List Value} (hr : Rn p l e R s m args below meth c D nL cells slots W0 r W1 lv pc st rest) (hw : W0 ++ v = ws) (hw' : W1 ++ v = ws') {st2 : List Value} (hs2 : r.toList ++ rest = st2) (k : gw_G p l e R s m args below meth c D A Q nL cells slots ws' lv (pc + 3) st2) : gw_G p l e R s m args below meth c D A Q nL cells slots ws lv pc st := by
  subst hs2
  subst hw
  subst hw'
  intro H locs ls hP hD hS hl T hT X
  obtain ⟨hd1, hd2⟩ := gw_Diff.mp hD
  have hP0 : va_P D vwCl W0 H := gw_Piff.mpr fun q hq => gw_Piff.mp hP q (List.mem_append_left _ hq)
  have hPv : va_P D vwCl v H := gw_Piff.mpr fun q hq => gw_Piff.mp hP q (List.mem_append_right _ hq)
  rw [List.map_append, List.nodup_append] at hd1
  have hD0 : va_D A W0 := gw_Diff.mpr ⟨hd1.1, fun q hq => hd2 q (List.mem_append_left _ hq)⟩
  have hDv : va_D A v := gw_Diff.mpr ⟨hd1.2.1, fun q hq => hd2 q (List.mem_append_right _ hq)⟩
  have hF : ∀ q, va_A W0 H.size q → A q := by
    rintro q (⟨k0, e0, h⟩ | h)
    · exact hD0.2 k0 (q, e0) h
    · exact C.2.2.1 q (Nat.le_trans hS.1 h)
  obtain ⟨a, hrun⟩ := hr H locs ls hP0 (hD0.weaken (fun _ _ _ _ => trivial)) hl
  obtain ⟨v9, st₀, t, T', L, h0, X', hL, e1, e2, ⟨⟨hv, hP1, hD1⟩, hz, hk⟩, stp⟩ := hrun T hT X
  cases hv
  rw [h0] at hz hk
  rw [← e1] at hz hk hP1
  have apart : ∀ q ∈ v, q.1 < H.size ∧ ¬ va_A W0 H.size q.1 := by
    intro q hq
    obtain ⟨i, hi⟩ := List.getElem?_of_mem hq
    have hlt := (hPv i q hi).lt
    refine ⟨hlt, ?_⟩
    rintro (⟨k0, e0, h⟩ | h)
    · exact hd1.2.2 q.1 (List.mem_map.mpr ⟨_, List.mem_of_getElem? h, rfl⟩) q.1 (List.mem_map.mpr ⟨q, hq, rfl⟩) rfl
    · omega
  have hPn : va_P D vwCl (W1 ++ v) T'.heap := by
    refine hP1.app (gw_Piff.mpr fun q hq => ?_)
    exact (gw_Piff.mp hPv q hq).kept (hk q.1 (apart q hq).1 (apart q hq).2)
  have hDn : va_D A (W1 ++ v) := by
    refine va_D.app (hD1.weaken (fun k0 q _ h => hF q.1 h)) hDv (fun i j x y hx hy hxy => ?_)
    exact (apart y (List.mem_of_getElem? hy)).2 (by rw [← hxy]; exact hD1.2 i x hx)
  have hSn : va_S A s.heap T'.heap (locs ++ L) := ⟨Nat.le_trans hS.1 hz, fun q h1 h2 => by
    rw [hk q (Nat.lt_of_lt_of_le h1 hS.1) (fun z => h2 (hF q z))]
    exact hS.2.1 q h1 h2, fun q hq => by
      rcases List.mem_append.mp hq with h | h
      · exact hS.2.2 q h
      · exact hF _ (hL q h)⟩
  obtain ⟨t2, a1, b1⟩ := k T'.heap (locs ++ L) ls hPn hDn hSn hl T' rfl X'
  exact ⟨t2, stp t2 a1, b1⟩
end GB

theorem hd_X3_dropOldestState : yX3_dropOldestState.cls = RX3 ∧ yX3_dropOldestState.cls ≠ "java/lang/invoke/MethodHandle" ∧ yX3_dropOldestState.cls ≠ "java/lang/invoke/VarHandle" ∧ (parseMethodDescriptor yX3_dropOldestState.desc).map (fun d => d.parameters.length) = some 0 := by decide +kernel
set_option maxHeartbeats 8000000 in
set_option maxRecDepth 100000 in
theorem c_X3_dropOldestState (l : Launch) (D : va_G) (cI cJ cO : ClassId) (aP : Nat) (bT bR : Nat → Nat) (aS : Nat) (q : QS) (v : VS) : Ct l D (tysA cI cJ cO) yX3_dropOldestState wsX3_dropOldestState (rmOf 0 0) [.ref aP] (wP cI cJ cO aP bT bR aS (q, v)) none (wP cI cJ cO aP bT bR aS (sQN q (qN q - 1), rotV v)) := by
  refine Ct_of (own := RX3) cX3_dropOldestState 3 none (by decide +kernel) rfl rfl (Nat.le_of_ble_eq_true rfl) ?_
  intro p e s m args below meth c A C hnm
  have iX3 : ∀ w ∈ u_ws RX3 TX3 6, w ∈ wsX3_dropOldestState := fun w h => List.mem_cons_of_mem _ (List.mem_append_right _ h)
  have f19 : Cond.fieldLink RX3 19 (TX3 2).1 (TX3 2).2.1 (TX3 2).2.2.1 ∈ wsX3_dropOldestState := List.mem_of_getElem? (i := 1) rfl
  have f23 : Cond.fieldLink RX3 23 (TX3 3).1 (TX3 3).2.1 (TX3 3).2.2.1 ∈ wsX3_dropOldestState := List.mem_of_getElem? (i := 2) rfl
  show gw_G p l e (rmOf 0 0) s m args below meth c D A (CtM D below none (wP cI cJ cO aP bT bR aS (sQN q (qN q - 1), rotV v)) A args s) 3 0 0 ((wB cI cJ cO aP bT bR aS (rotF v 0) (q, v)).flatten) [(0, .ref aP)] 0 []
  refine gw_aload_n C dX3_dropOldestState_0 0 rfl ?_
  refine gw_get C dX3_dropOldestState_1 0 2 2 rfl rfl iX3 (by decide) f19 rfl ?_
  refine gw_alen (v := nI 6) C dX3_dropOldestState_4 23 2 rfl rfl rfl ?_
  refine gw_if_ne (Φ := fun _ : Unit => True) (X := ()) (Y := ()) (tgt := 9) C dX3_dropOldestState_5 (by decide) trivial (fun c1 _ => absurd c1 (by decide)) (fun c1 _ => ?_)
  refine gw_aload_n C dX3_dropOldestState_9 0 rfl ?_
  refine gw_get C dX3_dropOldestState_10 0 2 2 rfl rfl iX3 (by decide) f19 rfl ?_
  refine gw_iconst (v := nI 0) C dX3_dropOldestState_13 rfl ?_
  refine gw_aald (v := .ref (v.1 0 0)) C dX3_dropOldestState_14 23 2 rfl rfl (nI_in (by decide) (by decide)) (by rw [nI_clamp (by decide)]; rfl) ?_
  refine gw_astore_n C dX3_dropOldestState_15 [(1, .ref (v.1 0 0)), (0, .ref aP)] rfl (by decide) rfl ?_
  refine gw_iconst (v := nI 1) C dX3_dropOldestState_16 rfl ?_
  refine gw_istore_n C dX3_dropOldestState_17 [(2, .int (nI 1)), (1, .ref (v.1 0 0)), (0, .ref aP)] rfl (by decide) rfl ?_
  refine gw_iload_n C dX3_dropOldestState_18 0 rfl ?_
  refine gw_aload_n C dX3_dropOldestState_19 2 rfl ?_
  refine gw_get C dX3_dropOldestState_20 0 2 2 rfl rfl iX3 (by decide) f19 rfl ?_
  refine gw_alen (v := nI 6) C dX3_dropOldestState_23 23 2 rfl rfl rfl ?_
  refine gw_icmp_ge (Φ := fun _ : Unit => True) (X := ()) (Y := ()) (tgt := 47) C dX3_dropOldestState_24 (by decide) trivial (fun c1 _ => absurd c1 (nI_ge (by decide) (by decide))) (fun c1 _ => ?_)
  refine gw_aload_n C dX3_dropOldestState_27 2 rfl ?_
  refine gw_get C dX3_dropOldestState_28 0 2 2 rfl rfl iX3 (by decide) f19 rfl ?_
  refine gw_iload_n C dX3_dropOldestState_31 0 rfl ?_
  refine gw_iconst (v := nI 1) C dX3_dropOldestState_32 rfl ?_
  refine gw_isub C dX3_dropOldestState_33 ?_
  rw [show nI 1 - nI 1 = nI 0 from by decide]
  refine gw_aload_n C dX3_dropOldestState_34 2 rfl ?_
  refine gw_get C dX3_dropOldestState_35 0 2 2 rfl rfl iX3 (by decide) f19 rfl ?_
  refine gw_iload_n C dX3_dropOldestState_38 0 rfl ?_
  refine gw_aald (v := .ref (v.1 1 0)) C dX3_dropOldestState_39 23 2 rfl rfl (nI_in (by decide) (by decide)) (by rw [nI_clamp (by decide)]; rfl) ?_
  refine gw_aast (ws' := ((wB cI cJ cO aP bT bR aS (rotF v 1) (q, v)).flatten)) C dX3_dropOldestState_40 23 2 35 1 rfl rfl rfl rfl (nI_in (by decide) (by decide)) (by rw [nI_clamp (by decide)]; rfl) ?_
  refine gw_iinc (v := nI 2) C dX3_dropOldestState_41 [(2, .int (nI 2)), (1, .ref (v.1 0 0)), (0, .ref aP)] 0 rfl (by decide) (by decide) rfl ?_
  refine gw_goto (tgt := 18) C dX3_dropOldestState_44 (by decide) ?_
  refine gw_iload_n C dX3_dropOldestState_18 0 rfl ?_
  refine gw_aload_n C dX3_dropOldestState_19 2 rfl ?_
  refine gw_get C dX3_dropOldestState_20 0 2 2 rfl rfl iX3 (by decide) f19 rfl ?_
  refine gw_alen (v := nI 6) C dX3_dropOldestState_23 23 2 rfl rfl rfl ?_
  refine gw_icmp_ge (Φ := fun _ : Unit => True) (X := ()) (Y := ()) (tgt := 47) C dX3_dropOldestState_24 (by decide) trivial (fun c1 _ => absurd c1 (nI_ge (by decide) (by decide))) (fun c1 _ => ?_)
  refine gw_aload_n C dX3_dropOldestState_27 2 rfl ?_
  refine gw_get C dX3_dropOldestState_28 0 2 2 rfl rfl iX3 (by decide) f19 rfl ?_
  refine gw_iload_n C dX3_dropOldestState_31 0 rfl ?_
  refine gw_iconst (v := nI 1) C dX3_dropOldestState_32 rfl ?_
  refine gw_isub C dX3_dropOldestState_33 ?_
  rw [show nI 2 - nI 1 = nI 1 from by decide]
  refine gw_aload_n C dX3_dropOldestState_34 2 rfl ?_
  refine gw_get C dX3_dropOldestState_35 0 2 2 rfl rfl iX3 (by decide) f19 rfl ?_
  refine gw_iload_n C dX3_dropOldestState_38 0 rfl ?_
  refine gw_aald (v := .ref (v.1 2 0)) C dX3_dropOldestState_39 23 2 rfl rfl (nI_in (by decide) (by decide)) (by rw [nI_clamp (by decide)]; rfl) ?_
  refine gw_aast (ws' := ((wB cI cJ cO aP bT bR aS (rotF v 2) (q, v)).flatten)) C dX3_dropOldestState_40 23 2 46 1 rfl rfl rfl rfl (nI_in (by decide) (by decide)) (by rw [nI_clamp (by decide)]; rfl) ?_
  refine gw_iinc (v := nI 3) C dX3_dropOldestState_41 [(2, .int (nI 3)), (1, .ref (v.1 0 0)), (0, .ref aP)] 0 rfl (by decide) (by decide) rfl ?_
  refine gw_goto (tgt := 18) C dX3_dropOldestState_44 (by decide) ?_
  refine gw_iload_n C dX3_dropOldestState_18 0 rfl ?_
  refine gw_aload_n C dX3_dropOldestState_19 2 rfl ?_
  refine gw_get C dX3_dropOldestState_20 0 2 2 rfl rfl iX3 (by decide) f19 rfl ?_
  refine gw_alen (v := nI 6) C dX3_dropOldestState_23 23 2 rfl rfl rfl ?_
  refine gw_icmp_ge (Φ := fun _ : Unit => True) (X := ()) (Y := ()) (tgt := 47) C dX3_dropOldestState_24 (by decide) trivial (fun c1 _ => absurd c1 (nI_ge (by decide) (by decide))) (fun c1 _ => ?_)
  refine gw_aload_n C dX3_dropOldestState_27 2 rfl ?_
  refine gw_get C dX3_dropOldestState_28 0 2 2 rfl rfl iX3 (by decide) f19 rfl ?_
  refine gw_iload_n C dX3_dropOldestState_31 0 rfl ?_
  refine gw_iconst (v := nI 1) C dX3_dropOldestState_32 rfl ?_
  refine gw_isub C dX3_dropOldestState_33 ?_
  rw [show nI 3 - nI 1 = nI 2 from by decide]
  refine gw_aload_n C dX3_dropOldestState_34 2 rfl ?_
  refine gw_get C dX3_dropOldestState_35 0 2 2 rfl rfl iX3 (by decide) f19 rfl ?_
  refine gw_iload_n C dX3_dropOldestState_38 0 rfl ?_
  refine gw_aald (v := .ref (v.1 3 0)) C dX3_dropOldestState_39 23 2 rfl rfl (nI_in (by decide) (by decide)) (by rw [nI_clamp (by decide)]; rfl) ?_
  refine gw_aast (ws' := ((wB cI cJ cO aP bT bR aS (rotF v 3) (q, v)).flatten)) C dX3_dropOldestState_40 23 2 57 1 rfl rfl rfl rfl (nI_in (by decide) (by decide)) (by rw [nI_clamp (by decide)]; rfl) ?_
  refine gw_iinc (v := nI 4) C dX3_dropOldestState_41 [(2, .int (nI 4)), (1, .ref (v.1 0 0)), (0, .ref aP)] 0 rfl (by decide) (by decide) rfl ?_
  refine gw_goto (tgt := 18) C dX3_dropOldestState_44 (by decide) ?_
  refine gw_iload_n C dX3_dropOldestState_18 0 rfl ?_
  refine gw_aload_n C dX3_dropOldestState_19 2 rfl ?_
  refine gw_get C dX3_dropOldestState_20 0 2 2 rfl rfl iX3 (by decide) f19 rfl ?_
  refine gw_alen (v := nI 6) C dX3_dropOldestState_23 23 2 rfl rfl rfl ?_
  refine gw_icmp_ge (Φ := fun _ : Unit => True) (X := ()) (Y := ()) (tgt := 47) C dX3_dropOldestState_24 (by decide) trivial (fun c1 _ => absurd c1 (nI_ge (by decide) (by decide))) (fun c1 _ => ?_)
  refine gw_aload_n C dX3_dropOldestState_27 2 rfl ?_
  refine gw_get C dX3_dropOldestState_28 0 2 2 rfl rfl iX3 (by decide) f19 rfl ?_
  refine gw_iload_n C dX3_dropOldestState_31 0 rfl ?_
  refine gw_iconst (v := nI 1) C dX3_dropOldestState_32 rfl ?_
  refine gw_isub C dX3_dropOldestState_33 ?_
  rw [show nI 4 - nI 1 = nI 3 from by decide]
  refine gw_aload_n C dX3_dropOldestState_34 2 rfl ?_
  refine gw_get C dX3_dropOldestState_35 0 2 2 rfl rfl iX3 (by decide) f19 rfl ?_
  refine gw_iload_n C dX3_dropOldestState_38 0 rfl ?_
  refine gw_aald (v := .ref (v.1 4 0)) C dX3_dropOldestState_39 23 2 rfl rfl (nI_in (by decide) (by decide)) (by rw [nI_clamp (by decide)]; rfl) ?_
  refine gw_aast (ws' := ((wB cI cJ cO aP bT bR aS (rotF v 4) (q, v)).flatten)) C dX3_dropOldestState_40 23 2 68 1 rfl rfl rfl rfl (nI_in (by decide) (by decide)) (by rw [nI_clamp (by decide)]; rfl) ?_
  refine gw_iinc (v := nI 5) C dX3_dropOldestState_41 [(2, .int (nI 5)), (1, .ref (v.1 0 0)), (0, .ref aP)] 0 rfl (by decide) (by decide) rfl ?_
  refine gw_goto (tgt := 18) C dX3_dropOldestState_44 (by decide) ?_
  refine gw_iload_n C dX3_dropOldestState_18 0 rfl ?_
  refine gw_aload_n C dX3_dropOldestState_19 2 rfl ?_
  refine gw_get C dX3_dropOldestState_20 0 2 2 rfl rfl iX3 (by decide) f19 rfl ?_
  refine gw_alen (v := nI 6) C dX3_dropOldestState_23 23 2 rfl rfl rfl ?_
  refine gw_icmp_ge (Φ := fun _ : Unit => True) (X := ()) (Y := ()) (tgt := 47) C dX3_dropOldestState_24 (by decide) trivial (fun c1 _ => absurd c1 (nI_ge (by decide) (by decide))) (fun c1 _ => ?_)
  refine gw_aload_n C dX3_dropOldestState_27 2 rfl ?_
  refine gw_get C dX3_dropOldestState_28 0 2 2 rfl rfl iX3 (by decide) f19 rfl ?_
  refine gw_iload_n C dX3_dropOldestState_31 0 rfl ?_
  refine gw_iconst (v := nI 1) C dX3_dropOldestState_32 rfl ?_
  refine gw_isub C dX3_dropOldestState_33 ?_
  rw [show nI 5 - nI 1 = nI 4 from by decide]
  refine gw_aload_n C dX3_dropOldestState_34 2 rfl ?_
  refine gw_get C dX3_dropOldestState_35 0 2 2 rfl rfl iX3 (by decide) f19 rfl ?_
  refine gw_iload_n C dX3_dropOldestState_38 0 rfl ?_
  refine gw_aald (v := .ref (v.1 5 0)) C dX3_dropOldestState_39 23 2 rfl rfl (nI_in (by decide) (by decide)) (by rw [nI_clamp (by decide)]; rfl) ?_
  refine gw_aast (ws' := ((wB cI cJ cO aP bT bR aS (rotF v 5) (q, v)).flatten)) C dX3_dropOldestState_40 23 2 79 1 rfl rfl rfl rfl (nI_in (by decide) (by decide)) (by rw [nI_clamp (by decide)]; rfl) ?_
  refine gw_iinc (v := nI 6) C dX3_dropOldestState_41 [(2, .int (nI 6)), (1, .ref (v.1 0 0)), (0, .ref aP)] 0 rfl (by decide) (by decide) rfl ?_
  refine gw_goto (tgt := 18) C dX3_dropOldestState_44 (by decide) ?_
  refine gw_iload_n C dX3_dropOldestState_18 0 rfl ?_
  refine gw_aload_n C dX3_dropOldestState_19 2 rfl ?_
  refine gw_get C dX3_dropOldestState_20 0 2 2 rfl rfl iX3 (by decide) f19 rfl ?_
  refine gw_alen (v := nI 6) C dX3_dropOldestState_23 23 2 rfl rfl rfl ?_
  refine gw_icmp_ge (Φ := fun _ : Unit => True) (X := ()) (Y := ()) (tgt := 47) C dX3_dropOldestState_24 (by decide) trivial (fun c1 _ => ?_) (fun c1 _ => absurd (nI_le (by decide) (by decide)) c1)
  refine gw_aload_n C dX3_dropOldestState_47 2 rfl ?_
  refine gw_get C dX3_dropOldestState_48 0 2 2 rfl rfl iX3 (by decide) f19 rfl ?_
  refine gw_aload_n C dX3_dropOldestState_51 2 rfl ?_
  refine gw_get C dX3_dropOldestState_52 0 2 2 rfl rfl iX3 (by decide) f19 rfl ?_
  refine gw_alen (v := nI 6) C dX3_dropOldestState_55 23 2 rfl rfl rfl ?_
  refine gw_iconst (v := nI 1) C dX3_dropOldestState_56 rfl ?_
  refine gw_isub C dX3_dropOldestState_57 ?_
  rw [show nI 6 - nI 1 = nI 5 from by decide]
  refine gw_aload_n C dX3_dropOldestState_58 1 rfl ?_
  refine gw_aast (ws' := ((wB cI cJ cO aP bT bR aS (fun j => if j = 5 then some (v.1 0 0) else rotF v 5 j) (q, v)).flatten)) C dX3_dropOldestState_59 23 2 24 1 rfl rfl rfl rfl (nI_in (by decide) (by decide)) (by rw [nI_clamp (by decide)]; rfl) ?_
  refine gw_refs (q0 := 23) (ws' := ((wB cI cJ cO aP bT bR aS (fun i => some ((rotV v).1 i 0)) (q, v)).flatten)) rfl (g := fun i => some ((rotV v).1 i 0)) (fun k hk => by
    have hk : k = 0 ∨ k = 1 ∨ k = 2 ∨ k = 3 ∨ k = 4 ∨ k = 5 := by omega
    rcases hk with rfl | rfl | rfl | rfl | rfl | rfl <;> rfl) rfl ?_
  refine gw_reord (L' := wB cI cJ cO aP bT bR aS (fun i => some ((rotV v).1 i 0)) (q, rotV v)) 10 [0, 1, 2, 3, 5, 6, 7, 8, 9, 4] rfl rfl (by decide) ?_
  refine gw_aload_n C dX3_dropOldestState_60 2 rfl ?_
  refine gw_dup C dX3_dropOldestState_61 rfl ?_
  refine gw_get C dX3_dropOldestState_62 0 2 3 rfl rfl iX3 (by decide) f23 rfl ?_
  refine gw_iconst (v := 1) C dX3_dropOldestState_65 rfl ?_
  refine gw_isub C dX3_dropOldestState_66 ?_
  refine gw_put (ws' := wP cI cJ cO aP bT bR aS (sQN q (qN q - 1), rotV v)) (ty := .int) C dX3_dropOldestState_67 0 2 3 tyX3 tyX3_ok nmX3 rfl rfl iX3 (by decide) f23 rfl (tyX3_ok 3 (by decide)) rfl rfl (Nat.le_of_ble_eq_true rfl) rfl ?_
  exact gw_vret C dX3_dropOldestState_70
def saveS (k : Nat) (t : PS) : PS := if k = 6 then (sQN (sQN t.1 (nI 5)) (nI 6), setV (rotV t.2) 5 (qT t.1)) else (sQN t.1 (nI (k + 1)), setV t.2 k (qT t.1))
theorem hd_X3_saveState : yX3_saveState.cls = RX3 ∧ yX3_saveState.cls ≠ "java/lang/invoke/MethodHandle" ∧ yX3_saveState.cls ≠ "java/lang/invoke/VarHandle" ∧ (parseMethodDescriptor yX3_saveState.desc).map (fun d => d.parameters.length) = some 0 := by decide +kernel
set_option maxHeartbeats 8000000 in
set_option maxRecDepth 100000 in
theorem c_X3_saveState0 (l : Launch) (D : va_G) (cI cJ cO : ClassId) (aP : Nat) (bT bR : Nat → Nat) (aS : Nat) (q : QS) (v : VS) (n : Nat) (hn : n ≤ 6) (hq : qN q = nI n) : Ct l D (tysA cI cJ cO) yX3_saveState wsX3_saveState (rmOf 4 140) [.ref aP] (wP cI cJ cO aP bT bR aS (q, v)) none (wP cI cJ cO aP bT bR aS (saveS n (q, v))) := by
  refine Ct_of (own := RX3) cX3_saveState 2 none (by decide +kernel) rfl rfl (Nat.le_of_ble_eq_true rfl) ?_
  intro p e s m args below meth c A C hnm
  have iX3 : ∀ w ∈ u_ws RX3 TX3 6, w ∈ wsX3_saveState := fun w h => List.mem_cons_of_mem _ (List.mem_append_left _ (List.mem_append_left _ (List.mem_append_right _ h)))
  have f23 : Cond.fieldLink RX3 23 (TX3 3).1 (TX3 3).2.1 (TX3 3).2.2.1 ∈ wsX3_saveState := List.mem_of_getElem? (i := 1) rfl
  have f19 : Cond.fieldLink RX3 19 (TX3 2).1 (TX3 2).2.1 (TX3 2).2.2.1 ∈ wsX3_saveState := List.mem_of_getElem? (i := 2) rfl
  have f12 : Cond.fieldLink RX3 12 (TX3 0).1 (TX3 0).2.1 (TX3 0).2.2.1 ∈ wsX3_saveState := List.mem_of_getElem? (i := 3) rfl
  have w_drop := cwV (R := (rmOf 4 140)) (rm := rmOf 0 0) (s := s) (args := args) 0 C.1.2.2.2.2 gX3_saveState_X3_dropOldestState rfl rfl rfl hd_X3_dropOldestState ⟨Nat.le_of_ble_eq_true rfl, Nat.le_of_ble_eq_true rfl⟩
  have w_copy := cwV (R := (rmOf 4 140)) (rm := rmOf 3 60) (s := s) (args := args) 1 C.1.2.2.2.2 gX3_saveState_X1_copyFrom rfl rfl rfl hd_X1_copyFrom ⟨Nat.le_of_ble_eq_true rfl, Nat.le_of_ble_eq_true rfl⟩
  have tail : ∀ (k : Nat) (q : QS) (v : VS), k < 6 → qN q = nI k → gw_G p l e (rmOf 4 140) s m args below meth c D A (CtM D below none (wP cI cJ cO aP bT bR aS (sQN q (nI (k + 1)), setV v k (qT q))) A args s) 2 0 0 (wP cI cJ cO aP bT bR aS (q, v)) [(0, .ref aP)] 16 [] := by
    intro k q v hk hq
    refine gw_aload_n C dX3_saveState_16 0 rfl ?_
    refine gw_get C dX3_saveState_17 0 2 3 rfl rfl iX3 (by decide) f23 rfl ?_
    rw [hq]
    refine gw_if_lt (Φ := fun _ : Unit => True) (X := ()) (Y := ()) (tgt := 67) C dX3_saveState_20 (by decide) trivial (fun c1 _ => absurd c1 (nI_pos (by omega))) (fun c1 _ => ?_)
    refine gw_aload_n C dX3_saveState_23 0 rfl ?_
    refine gw_get C dX3_saveState_24 0 2 3 rfl rfl iX3 (by decide) f23 rfl ?_
    rw [hq]
    refine gw_aload_n C dX3_saveState_27 0 rfl ?_
    refine gw_get C dX3_saveState_28 0 2 2 rfl rfl iX3 (by decide) f19 rfl ?_
    refine gw_alen (v := nI 6) C dX3_saveState_31 23 2 rfl rfl rfl ?_
    refine gw_icmp_ge (Φ := fun _ : Unit => True) (X := ()) (Y := ()) (tgt := 67) C dX3_saveState_32 (by decide) trivial (fun c1 _ => absurd c1 (nI_ge hk (by decide))) (fun c1 _ => ?_)
    refine gw_aload_n C dX3_saveState_35 0 rfl ?_
    refine gw_get C dX3_saveState_36 0 2 2 rfl rfl iX3 (by decide) f19 rfl ?_
    refine gw_aload_n C dX3_saveState_39 0 rfl ?_
    refine gw_get C dX3_saveState_40 0 2 3 rfl rfl iX3 (by decide) f23 rfl ?_
    rw [hq]
    refine gw_aald (v := .ref (v.1 k 0)) C dX3_saveState_43 23 2 rfl rfl (nI_in hk (by decide)) (by rw [nI_clamp (by omega)]; rfl) ?_
    refine gw_astore_n C dX3_saveState_44 [(1, .ref (v.1 k 0)), (0, .ref aP)] rfl (by decide) rfl ?_
    refine gw_aload_n C dX3_saveState_45 0 rfl ?_
    refine gw_ifnull C dX3_saveState_46 ?_
    refine gw_aload_n C dX3_saveState_49 0 rfl ?_
    refine gw_aload_n C dX3_saveState_50 1 rfl ?_
    refine gw_get C dX3_saveState_51 0 2 0 rfl rfl iX3 (by decide) f12 rfl ?_
    have hz : gw_G p l e (rmOf 4 140) s m args below meth c D A (CtM D below none (wP cI cJ cO aP bT bR aS (sQN q (nI (k + 1)), setV v k (qT q))) A args s) 2 0 0 (wP cI cJ cO aP bT bR aS (q, setV v k (qT q))) [(1, .ref (v.1 k 0)), (0, .ref aP)] 57 [] := by
      refine gw_aload_n C dX3_saveState_57 1 rfl ?_
      refine gw_dup C dX3_saveState_58 rfl ?_
      refine gw_get C dX3_saveState_59 0 2 3 rfl rfl iX3 (by decide) f23 rfl ?_
      rw [hq]
      refine gw_iconst (v := nI 1) C dX3_saveState_62 rfl ?_
      refine gw_iadd C dX3_saveState_63 ?_
      rw [nI_add]
      refine gw_put (ws' := wP cI cJ cO aP bT bR aS (sQN q (nI (k + 1)), setV v k (qT q))) (ty := .int) C dX3_saveState_64 0 2 3 tyX3 tyX3_ok nmX3 rfl rfl iX3 (by decide) f23 rfl (tyX3_ok 3 (by decide)) rfl rfl (Nat.le_of_ble_eq_true rfl) rfl ?_
      exact gw_vret C dX3_saveState_67
    have hk6 : k = 0 ∨ k = 1 ∨ k = 2 ∨ k = 3 ∨ k = 4 ∨ k = 5 := by omega
    rcases hk6 with rfl | rfl | rfl | rfl | rfl | rfl
    · refine gw_reord (L := wB cI cJ cO aP bT bR aS (fun i => some (v.1 i 0)) (q, v)) (L' := wT cI cJ (v.1 0) (v.2 0) :: wT cI cJ bT (qT q) :: [wO aP bT bR aS q, wT cI cJ bR (qR q), wR cO aS (fun i => some (v.1 i 0)), wT cI cJ (v.1 1) (v.2 1), wT cI cJ (v.1 2) (v.2 2), wT cI cJ (v.1 3) (v.2 3), wT cI cJ (v.1 4) (v.2 4), wT cI cJ (v.1 5) (v.2 5)]) 10 [4, 1, 0, 2, 3, 5, 6, 7, 8, 9] rfl rfl (by decide) ?_
      refine gw_front (st2 := []) (v := ([wO aP bT bR aS q, wT cI cJ bR (qR q), wR cO aS (fun i => some (v.1 i 0)), wT cI cJ (v.1 1) (v.2 1), wT cI cJ (v.1 2) (v.2 2), wT cI cJ (v.1 3) (v.2 3), wT cI cJ (v.1 4) (v.2 4), wT cI cJ (v.1 5) (v.2 5)]).flatten) (ws' := (wT cI cJ (v.1 0) (qT q) :: wT cI cJ bT (qT q) :: [wO aP bT bR aS q, wT cI cJ bR (qR q), wR cO aS (fun i => some (v.1 i 0)), wT cI cJ (v.1 1) (v.2 1), wT cI cJ (v.1 2) (v.2 2), wT cI cJ (v.1 3) (v.2 3), wT cI cJ (v.1 4) (v.2 4), wT cI cJ (v.1 5) (v.2 5)]).flatten) C (run_V (rest := []) C (c_X1_copyFrom l D cI cJ cO (v.1 0) bT (v.2 0) (qT q) (o := qT q) rfl) w_copy 0 1 rfl rfl rfl rfl rfl (Nat.le_of_ble_eq_true rfl) dX3_saveState_54 ⟨Nat.zero_le _, Nat.zero_le _⟩) (List.append_assoc _ _ _) (List.append_assoc _ _ _) rfl ?_
      exact gw_reord (L' := wB cI cJ cO aP bT bR aS (fun i => some (v.1 i 0)) (q, setV v 0 (qT q))) 10 [2, 1, 3, 4, 0, 5, 6, 7, 8, 9] rfl rfl (by decide) hz
    · refine gw_reord (L := wB cI cJ cO aP bT bR aS (fun i => some (v.1 i 0)) (q, v)) (L' := wT cI cJ (v.1 1) (v.2 1) :: wT cI cJ bT (qT q) :: [wO aP bT bR aS q, wT cI cJ bR (qR q), wR cO aS (fun i => some (v.1 i 0)), wT cI cJ (v.1 0) (v.2 0), wT cI cJ (v.1 2) (v.2 2), wT cI cJ (v.1 3) (v.2 3), wT cI cJ (v.1 4) (v.2 4), wT cI cJ (v.1 5) (v.2 5)]) 10 [5, 1, 0, 2, 3, 4, 6, 7, 8, 9] rfl rfl (by decide) ?_
      refine gw_front (st2 := []) (v := ([wO aP bT bR aS q, wT cI cJ bR (qR q), wR cO aS (fun i => some (v.1 i 0)), wT cI cJ (v.1 0) (v.2 0), wT cI cJ (v.1 2) (v.2 2), wT cI cJ (v.1 3) (v.2 3), wT cI cJ (v.1 4) (v.2 4), wT cI cJ (v.1 5) (v.2 5)]).flatten) (ws' := (wT cI cJ (v.1 1) (qT q) :: wT cI cJ bT (qT q) :: [wO aP bT bR aS q, wT cI cJ bR (qR q), wR cO aS (fun i => some (v.1 i 0)), wT cI cJ (v.1 0) (v.2 0), wT cI cJ (v.1 2) (v.2 2), wT cI cJ (v.1 3) (v.2 3), wT cI cJ (v.1 4) (v.2 4), wT cI cJ (v.1 5) (v.2 5)]).flatten) C (run_V (rest := []) C (c_X1_copyFrom l D cI cJ cO (v.1 1) bT (v.2 1) (qT q) (o := qT q) rfl) w_copy 0 1 rfl rfl rfl rfl rfl (Nat.le_of_ble_eq_true rfl) dX3_saveState_54 ⟨Nat.zero_le _, Nat.zero_le _⟩) (List.append_assoc _ _ _) (List.append_assoc _ _ _) rfl ?_
      exact gw_reord (L' := wB cI cJ cO aP bT bR aS (fun i => some (v.1 i 0)) (q, setV v 1 (qT q))) 10 [2, 1, 3, 4, 5, 0, 6, 7, 8, 9] rfl rfl (by decide) hz
    · refine gw_reord (L := wB cI cJ cO aP bT bR aS (fun i => some (v.1 i 0)) (q, v)) (L' := wT cI cJ (v.1 2) (v.2 2) :: wT cI cJ bT (qT q) :: [wO aP bT bR aS q, wT cI cJ bR (qR q), wR cO aS (fun i => some (v.1 i 0)), wT cI cJ (v.1 0) (v.2 0), wT cI cJ (v.1 1) (v.2 1), wT cI cJ (v.1 3) (v.2 3), wT cI cJ (v.1 4) (v.2 4), wT cI cJ (v.1 5) (v.2 5)]) 10 [6, 1, 0, 2, 3, 4, 5, 7, 8, 9] rfl rfl (by decide) ?_
      refine gw_front (st2 := []) (v := ([wO aP bT bR aS q, wT cI cJ bR (qR q), wR cO aS (fun i => some (v.1 i 0)), wT cI cJ (v.1 0) (v.2 0), wT cI cJ (v.1 1) (v.2 1), wT cI cJ (v.1 3) (v.2 3), wT cI cJ (v.1 4) (v.2 4), wT cI cJ (v.1 5) (v.2 5)]).flatten) (ws' := (wT cI cJ (v.1 2) (qT q) :: wT cI cJ bT (qT q) :: [wO aP bT bR aS q, wT cI cJ bR (qR q), wR cO aS (fun i => some (v.1 i 0)), wT cI cJ (v.1 0) (v.2 0), wT cI cJ (v.1 1) (v.2 1), wT cI cJ (v.1 3) (v.2 3), wT cI cJ (v.1 4) (v.2 4), wT cI cJ (v.1 5) (v.2 5)]).flatten) C (run_V (rest := []) C (c_X1_copyFrom l D cI cJ cO (v.1 2) bT (v.2 2) (qT q) (o := qT q) rfl) w_copy 0 1 rfl rfl rfl rfl rfl (Nat.le_of_ble_eq_true rfl) dX3_saveState_54 ⟨Nat.zero_le _, Nat.zero_le _⟩) (List.append_assoc _ _ _) (List.append_assoc _ _ _) rfl ?_
      exact gw_reord (L' := wB cI cJ cO aP bT bR aS (fun i => some (v.1 i 0)) (q, setV v 2 (qT q))) 10 [2, 1, 3, 4, 5, 6, 0, 7, 8, 9] rfl rfl (by decide) hz
    · refine gw_reord (L := wB cI cJ cO aP bT bR aS (fun i => some (v.1 i 0)) (q, v)) (L' := wT cI cJ (v.1 3) (v.2 3) :: wT cI cJ bT (qT q) :: [wO aP bT bR aS q, wT cI cJ bR (qR q), wR cO aS (fun i => some (v.1 i 0)), wT cI cJ (v.1 0) (v.2 0), wT cI cJ (v.1 1) (v.2 1), wT cI cJ (v.1 2) (v.2 2), wT cI cJ (v.1 4) (v.2 4), wT cI cJ (v.1 5) (v.2 5)]) 10 [7, 1, 0, 2, 3, 4, 5, 6, 8, 9] rfl rfl (by decide) ?_
      refine gw_front (st2 := []) (v := ([wO aP bT bR aS q, wT cI cJ bR (qR q), wR cO aS (fun i => some (v.1 i 0)), wT cI cJ (v.1 0) (v.2 0), wT cI cJ (v.1 1) (v.2 1), wT cI cJ (v.1 2) (v.2 2), wT cI cJ (v.1 4) (v.2 4), wT cI cJ (v.1 5) (v.2 5)]).flatten) (ws' := (wT cI cJ (v.1 3) (qT q) :: wT cI cJ bT (qT q) :: [wO aP bT bR aS q, wT cI cJ bR (qR q), wR cO aS (fun i => some (v.1 i 0)), wT cI cJ (v.1 0) (v.2 0), wT cI cJ (v.1 1) (v.2 1), wT cI cJ (v.1 2) (v.2 2), wT cI cJ (v.1 4) (v.2 4), wT cI cJ (v.1 5) (v.2 5)]).flatten) C (run_V (rest := []) C (c_X1_copyFrom l D cI cJ cO (v.1 3) bT (v.2 3) (qT q) (o := qT q) rfl) w_copy 0 1 rfl rfl rfl rfl rfl (Nat.le_of_ble_eq_true rfl) dX3_saveState_54 ⟨Nat.zero_le _, Nat.zero_le _⟩) (List.append_assoc _ _ _) (List.append_assoc _ _ _) rfl ?_
      exact gw_reord (L' := wB cI cJ cO aP bT bR aS (fun i => some (v.1 i 0)) (q, setV v 3 (qT q))) 10 [2, 1, 3, 4, 5, 6, 7, 0, 8, 9] rfl rfl (by decide) hz
    · refine gw_reord (L := wB cI cJ cO aP bT bR aS (fun i => some (v.1 i 0)) (q, v)) (L' := wT cI cJ (v.1 4) (v.2 4) :: wT cI cJ bT (qT q) :: [wO aP bT bR aS q, wT cI cJ bR (qR q), wR cO aS (fun i => some (v.1 i 0)), wT cI cJ (v.1 0) (v.2 0), wT cI cJ (v.1 1) (v.2 1), wT cI cJ (v.1 2) (v.2 2), wT cI cJ (v.1 3) (v.2 3), wT cI cJ (v.1 5) (v.2 5)]) 10 [8, 1, 0, 2, 3, 4, 5, 6, 7, 9] rfl rfl (by decide) ?_
      refine gw_front (st2 := []) (v := ([wO aP bT bR aS q, wT cI cJ bR (qR q), wR cO aS (fun i => some (v.1 i 0)), wT cI cJ (v.1 0) (v.2 0), wT cI cJ (v.1 1) (v.2 1), wT cI cJ (v.1 2) (v.2 2), wT cI cJ (v.1 3) (v.2 3), wT cI cJ (v.1 5) (v.2 5)]).flatten) (ws' := (wT cI cJ (v.1 4) (qT q) :: wT cI cJ bT (qT q) :: [wO aP bT bR aS q, wT cI cJ bR (qR q), wR cO aS (fun i => some (v.1 i 0)), wT cI cJ (v.1 0) (v.2 0), wT cI cJ (v.1 1) (v.2 1), wT cI cJ (v.1 2) (v.2 2), wT cI cJ (v.1 3) (v.2 3), wT cI cJ (v.1 5) (v.2 5)]).flatten) C (run_V (rest := []) C (c_X1_copyFrom l D cI cJ cO (v.1 4) bT (v.2 4) (qT q) (o := qT q) rfl) w_copy 0 1 rfl rfl rfl rfl rfl (Nat.le_of_ble_eq_true rfl) dX3_saveState_54 ⟨Nat.zero_le _, Nat.zero_le _⟩) (List.append_assoc _ _ _) (List.append_assoc _ _ _) rfl ?_
      exact gw_reord (L' := wB cI cJ cO aP bT bR aS (fun i => some (v.1 i 0)) (q, setV v 4 (qT q))) 10 [2, 1, 3, 4, 5, 6, 7, 8, 0, 9] rfl rfl (by decide) hz
    · refine gw_reord (L := wB cI cJ cO aP bT bR aS (fun i => some (v.1 i 0)) (q, v)) (L' := wT cI cJ (v.1 5) (v.2 5) :: wT cI cJ bT (qT q) :: [wO aP bT bR aS q, wT cI cJ bR (qR q), wR cO aS (fun i => some (v.1 i 0)), wT cI cJ (v.1 0) (v.2 0), wT cI cJ (v.1 1) (v.2 1), wT cI cJ (v.1 2) (v.2 2), wT cI cJ (v.1 3) (v.2 3), wT cI cJ (v.1 4) (v.2 4)]) 10 [9, 1, 0, 2, 3, 4, 5, 6, 7, 8] rfl rfl (by decide) ?_
      refine gw_front (st2 := []) (v := ([wO aP bT bR aS q, wT cI cJ bR (qR q), wR cO aS (fun i => some (v.1 i 0)), wT cI cJ (v.1 0) (v.2 0), wT cI cJ (v.1 1) (v.2 1), wT cI cJ (v.1 2) (v.2 2), wT cI cJ (v.1 3) (v.2 3), wT cI cJ (v.1 4) (v.2 4)]).flatten) (ws' := (wT cI cJ (v.1 5) (qT q) :: wT cI cJ bT (qT q) :: [wO aP bT bR aS q, wT cI cJ bR (qR q), wR cO aS (fun i => some (v.1 i 0)), wT cI cJ (v.1 0) (v.2 0), wT cI cJ (v.1 1) (v.2 1), wT cI cJ (v.1 2) (v.2 2), wT cI cJ (v.1 3) (v.2 3), wT cI cJ (v.1 4) (v.2 4)]).flatten) C (run_V (rest := []) C (c_X1_copyFrom l D cI cJ cO (v.1 5) bT (v.2 5) (qT q) (o := qT q) rfl) w_copy 0 1 rfl rfl rfl rfl rfl (Nat.le_of_ble_eq_true rfl) dX3_saveState_54 ⟨Nat.zero_le _, Nat.zero_le _⟩) (List.append_assoc _ _ _) (List.append_assoc _ _ _) rfl ?_
      exact gw_reord (L' := wB cI cJ cO aP bT bR aS (fun i => some (v.1 i 0)) (q, setV v 5 (qT q))) 10 [2, 1, 3, 4, 5, 6, 7, 8, 9, 0] rfl rfl (by decide) hz
  show gw_G p l e (rmOf 4 140) s m args below meth c D A (CtM D below none (wP cI cJ cO aP bT bR aS (saveS n (q, v))) A args s) 2 0 0 (wP cI cJ cO aP bT bR aS (q, v)) [(0, .ref aP)] 0 []
  refine gw_aload_n C dX3_saveState_0 0 rfl ?_
  refine gw_get C dX3_saveState_1 0 2 3 rfl rfl iX3 (by decide) f23 rfl ?_
  rw [hq]
  refine gw_aload_n C dX3_saveState_4 0 rfl ?_
  refine gw_get C dX3_saveState_5 0 2 2 rfl rfl iX3 (by decide) f19 rfl ?_
  refine gw_alen (v := nI 6) C dX3_saveState_8 23 2 rfl rfl rfl ?_
  refine gw_icmp_lt (Φ := fun _ : Unit => True) (X := ()) (Y := ()) (tgt := 16) C dX3_saveState_9 (by decide) trivial (fun c1 _ => ?_) (fun c1 _ => ?_)
  · have hn6 : n < 6 := (nI_ltI (by omega) (by decide)).mp c1
    rw [show saveS n (q, v) = (sQN q (nI (n + 1)), setV v n (qT q)) from if_neg (by omega)]
    exact tail n q v hn6 hq
  · have hn6 : n = 6 := by
      have h1 : ¬ n < 6 := fun h => c1 (nI_lt h (by decide))
      omega
    subst hn6
    refine gw_aload_n C dX3_saveState_12 0 rfl ?_
    refine gw_whole (st2 := []) C (run_V (rest := []) C (c_X3_dropOldestState l D cI cJ cO aP bT bR aS q v) w_drop 0 2 rfl rfl rfl rfl rfl (Nat.le_of_ble_eq_true rfl) dX3_saveState_13 ⟨Nat.zero_le _, Nat.zero_le _⟩) rfl ?_
    rw [show qN q - 1 = nI 5 from by rw [hq]; decide]
    exact tail 5 (sQN q (nI 5)) (rotV v) (by decide) rfl
theorem hd_X3_undo : yX3_undo.cls = RX3 ∧ yX3_undo.cls ≠ "java/lang/invoke/MethodHandle" ∧ yX3_undo.cls ≠ "java/lang/invoke/VarHandle" ∧ (parseMethodDescriptor yX3_undo.desc).map (fun d => d.parameters.length) = some 0 := by decide +kernel
set_option maxHeartbeats 8000000 in
set_option maxRecDepth 100000 in
theorem c_X3_undo (l : Launch) (D : va_G) (cI cJ cO : ClassId) (aP : Nat) (bT bR : Nat → Nat) (aS : Nat) (q : QS) (v : VS) (n : Nat) (hn : n < 6) (hq : qN q = nI (n + 1)) : Ct l D (tysA cI cJ cO) yX3_undo wsX3_undo (rmOf 4 110) [.ref aP] (wP cI cJ cO aP bT bR aS (q, v)) (some (.int (nI n))) (wP cI cJ cO aP bT bR aS (sQT (sQN q (nI n)) (v.2 n), v)) := by
  refine Ct_of (own := RX3) cX3_undo 2 (some .int) (by decide +kernel) rfl rfl (Nat.le_of_ble_eq_true rfl) ?_
  intro p e s m args below meth c A C hnm
  have iX3 : ∀ w ∈ u_ws RX3 TX3 6, w ∈ wsX3_undo := fun w h => List.mem_cons_of_mem _ (List.mem_append_left _ (List.mem_append_left _ (List.mem_append_left _ (List.mem_append_right _ h))))
  have f23 : Cond.fieldLink RX3 23 (TX3 3).1 (TX3 3).2.1 (TX3 3).2.2.1 ∈ wsX3_undo := List.mem_of_getElem? (i := 3) rfl
  have f19 : Cond.fieldLink RX3 19 (TX3 2).1 (TX3 2).2.1 (TX3 2).2.2.1 ∈ wsX3_undo := List.mem_of_getElem? (i := 4) rfl
  have f12 : Cond.fieldLink RX3 12 (TX3 0).1 (TX3 0).2.1 (TX3 0).2.2.1 ∈ wsX3_undo := List.mem_of_getElem? (i := 5) rfl
  show gw_G p l e (rmOf 4 110) s m args below meth c D A (CtM D below (some (.int (nI n))) (wP cI cJ cO aP bT bR aS (sQT (sQN q (nI n)) (v.2 n), v)) A args s) 2 0 0 (wP cI cJ cO aP bT bR aS (q, v)) [(0, .ref aP)] 0 []
  refine gw_aload_n C dX3_undo_0 0 rfl ?_
  refine gw_get C dX3_undo_1 0 2 3 rfl rfl iX3 (by decide) f23 rfl ?_
  rw [hq]
  have w_copy := cwV (R := (rmOf 4 110)) (rm := rmOf 3 60) (s := s) (args := args) 1 C.1.2.2.2.2 gX3_undo_X1_copyFrom rfl rfl rfl hd_X1_copyFrom ⟨Nat.le_of_ble_eq_true rfl, Nat.le_of_ble_eq_true rfl⟩
  refine gw_if_le (Φ := fun _ : Unit => True) (X := ()) (Y := ()) (tgt := 19) C dX3_undo_4 (by decide) trivial (fun c1 _ => absurd c1 (nI_nle (by omega) (by omega))) (fun c1 _ => ?_)
  refine gw_aload_n C dX3_undo_7 0 rfl ?_
  refine gw_get C dX3_undo_8 0 2 3 rfl rfl iX3 (by decide) f23 rfl ?_
  rw [hq]
  refine gw_aload_n C dX3_undo_11 0 rfl ?_
  refine gw_get C dX3_undo_12 0 2 2 rfl rfl iX3 (by decide) f19 rfl ?_
  refine gw_alen (v := nI 6) C dX3_undo_15 23 2 rfl rfl rfl ?_
  refine gw_icmp_le (Φ := fun _ : Unit => True) (X := ()) (Y := ()) (tgt := 29) C dX3_undo_16 (by decide) trivial (fun c1 _ => ?_) (fun c1 _ => absurd (nI_le (by omega) (by decide)) c1)
  refine gw_aload_n C dX3_undo_29 0 rfl ?_
  refine gw_dup C dX3_undo_30 rfl ?_
  refine gw_get C dX3_undo_31 0 2 3 rfl rfl iX3 (by decide) f23 rfl ?_
  rw [hq]
  refine gw_iconst (v := 1) C dX3_undo_34 rfl ?_
  refine gw_isub C dX3_undo_35 ?_
  rw [nI_pred]
  refine gw_put (ws' := wP cI cJ cO aP bT bR aS (sQN q (nI n), v)) (ty := .int) C dX3_undo_36 0 2 3 tyX3 tyX3_ok nmX3 rfl rfl iX3 (by decide) f23 rfl (tyX3_ok 3 (by decide)) rfl rfl (Nat.le_of_ble_eq_true rfl) rfl ?_
  refine gw_aload_n C dX3_undo_39 0 rfl ?_
  refine gw_get C dX3_undo_40 0 2 2 rfl rfl iX3 (by decide) f19 rfl ?_
  refine gw_aload_n C dX3_undo_43 0 rfl ?_
  refine gw_get C dX3_undo_44 0 2 3 rfl rfl iX3 (by decide) f23 rfl ?_
  refine gw_aald (v := .ref (v.1 n 0)) C dX3_undo_47 23 2 rfl rfl (nI_in hn (by decide)) (by show va_rf (some (v.1 (nI n).toNatClampNeg 0)) = _; rw [nI_clamp (by omega)]; rfl) ?_
  refine gw_astore_n C dX3_undo_48 [(1, .ref (v.1 n 0)), (0, .ref aP)] rfl (by decide) rfl ?_
  refine gw_aload_n C dX3_undo_49 0 rfl ?_
  refine gw_ifnull C dX3_undo_50 ?_
  refine gw_aload_n C dX3_undo_53 1 rfl ?_
  refine gw_get C dX3_undo_54 0 2 0 rfl rfl iX3 (by decide) f12 rfl ?_
  refine gw_aload_n C dX3_undo_57 0 rfl ?_
  have hz : gw_G p l e (rmOf 4 110) s m args below meth c D A (CtM D below (some (.int (nI n))) (wP cI cJ cO aP bT bR aS (sQT (sQN q (nI n)) (v.2 n), v)) A args s) 2 0 0 (wP cI cJ cO aP bT bR aS (sQT (sQN q (nI n)) (v.2 n), v)) [(1, .ref (v.1 n 0)), (0, .ref aP)] 61 [] := by
    refine gw_aload_n C dX3_undo_61 1 rfl ?_
    refine gw_get C dX3_undo_62 0 2 3 rfl rfl iX3 (by decide) f23 rfl ?_
    exact gw_iret C dX3_undo_65
  have hk6 : n = 0 ∨ n = 1 ∨ n = 2 ∨ n = 3 ∨ n = 4 ∨ n = 5 := by omega
  rcases hk6 with rfl | rfl | rfl | rfl | rfl | rfl
  · refine gw_reord (L := wB cI cJ cO aP bT bR aS (fun i => some (v.1 i 0)) ((sQN q (nI 0)), v)) (L' := wT cI cJ bT (qT q) :: wT cI cJ (v.1 0) (v.2 0) :: [wO aP bT bR aS (sQN q (nI 0)), wT cI cJ bR (qR q), wR cO aS (fun i => some (v.1 i 0)), wT cI cJ (v.1 1) (v.2 1), wT cI cJ (v.1 2) (v.2 2), wT cI cJ (v.1 3) (v.2 3), wT cI cJ (v.1 4) (v.2 4), wT cI cJ (v.1 5) (v.2 5)]) 10 [1, 4, 0, 2, 3, 5, 6, 7, 8, 9] rfl rfl (by decide) ?_
    refine gw_front (st2 := []) (v := ([wO aP bT bR aS (sQN q (nI 0)), wT cI cJ bR (qR q), wR cO aS (fun i => some (v.1 i 0)), wT cI cJ (v.1 1) (v.2 1), wT cI cJ (v.1 2) (v.2 2), wT cI cJ (v.1 3) (v.2 3), wT cI cJ (v.1 4) (v.2 4), wT cI cJ (v.1 5) (v.2 5)]).flatten) (ws' := (wT cI cJ bT (v.2 0) :: wT cI cJ (v.1 0) (v.2 0) :: [wO aP bT bR aS (sQN q (nI 0)), wT cI cJ bR (qR q), wR cO aS (fun i => some (v.1 i 0)), wT cI cJ (v.1 1) (v.2 1), wT cI cJ (v.1 2) (v.2 2), wT cI cJ (v.1 3) (v.2 3), wT cI cJ (v.1 4) (v.2 4), wT cI cJ (v.1 5) (v.2 5)]).flatten) C (run_V (rest := []) C (c_X1_copyFrom l D cI cJ cO bT (v.1 0) (qT q) (v.2 0) (o := v.2 0) rfl) w_copy 0 1 rfl rfl rfl rfl rfl (Nat.le_of_ble_eq_true rfl) dX3_undo_58 ⟨Nat.zero_le _, Nat.zero_le _⟩) (List.append_assoc _ _ _) (List.append_assoc _ _ _) rfl ?_
    exact gw_reord (L' := wB cI cJ cO aP bT bR aS (fun i => some (v.1 i 0)) (sQT (sQN q (nI 0)) (v.2 0), v)) 10 [2, 0, 3, 4, 1, 5, 6, 7, 8, 9] rfl rfl (by decide) hz
  · refine gw_reord (L := wB cI cJ cO aP bT bR aS (fun i => some (v.1 i 0)) ((sQN q (nI 1)), v)) (L' := wT cI cJ bT (qT q) :: wT cI cJ (v.1 1) (v.2 1) :: [wO aP bT bR aS (sQN q (nI 1)), wT cI cJ bR (qR q), wR cO aS (fun i => some (v.1 i 0)), wT cI cJ (v.1 0) (v.2 0), wT cI cJ (v.1 2) (v.2 2), wT cI cJ (v.1 3) (v.2 3), wT cI cJ (v.1 4) (v.2 4), wT cI cJ (v.1 5) (v.2 5)]) 10 [1, 5, 0, 2, 3, 4, 6, 7, 8, 9] rfl rfl (by decide) ?_
    refine gw_front (st2 := []) (v := ([wO aP bT bR aS (sQN q (nI 1)), wT cI cJ bR (qR q), wR cO aS (fun i => some (v.1 i 0)), wT cI cJ (v.1 0) (v.2 0), wT cI cJ (v.1 2) (v.2 2), wT cI cJ (v.1 3) (v.2 3), wT cI cJ (v.1 4) (v.2 4), wT cI cJ (v.1 5) (v.2 5)]).flatten) (ws' := (wT cI cJ bT (v.2 1) :: wT cI cJ (v.1 1) (v.2 1) :: [wO aP bT bR aS (sQN q (nI 1)), wT cI cJ bR (qR q), wR cO aS (fun i => some (v.1 i 0)), wT cI cJ (v.1 0) (v.2 0), wT cI cJ (v.1 2) (v.2 2), wT cI cJ (v.1 3) (v.2 3), wT cI cJ (v.1 4) (v.2 4), wT cI cJ (v.1 5) (v.2 5)]).flatten) C (run_V (rest := []) C (c_X1_copyFrom l D cI cJ cO bT (v.1 1) (qT q) (v.2 1) (o := v.2 1) rfl) w_copy 0 1 rfl rfl rfl rfl rfl (Nat.le_of_ble_eq_true rfl) dX3_undo_58 ⟨Nat.zero_le _, Nat.zero_le _⟩) (List.append_assoc _ _ _) (List.append_assoc _ _ _) rfl ?_
    exact gw_reord (L' := wB cI cJ cO aP bT bR aS (fun i => some (v.1 i 0)) (sQT (sQN q (nI 1)) (v.2 1), v)) 10 [2, 0, 3, 4, 5, 1, 6, 7, 8, 9] rfl rfl (by decide) hz
  · refine gw_reord (L := wB cI cJ cO aP bT bR aS (fun i => some (v.1 i 0)) ((sQN q (nI 2)), v)) (L' := wT cI cJ bT (qT q) :: wT cI cJ (v.1 2) (v.2 2) :: [wO aP bT bR aS (sQN q (nI 2)), wT cI cJ bR (qR q), wR cO aS (fun i => some (v.1 i 0)), wT cI cJ (v.1 0) (v.2 0), wT cI cJ (v.1 1) (v.2 1), wT cI cJ (v.1 3) (v.2 3), wT cI cJ (v.1 4) (v.2 4), wT cI cJ (v.1 5) (v.2 5)]) 10 [1, 6, 0, 2, 3, 4, 5, 7, 8, 9] rfl rfl (by decide) ?_
    refine gw_front (st2 := []) (v := ([wO aP bT bR aS (sQN q (nI 2)), wT cI cJ bR (qR q), wR cO aS (fun i => some (v.1 i 0)), wT cI cJ (v.1 0) (v.2 0), wT cI cJ (v.1 1) (v.2 1), wT cI cJ (v.1 3) (v.2 3), wT cI cJ (v.1 4) (v.2 4), wT cI cJ (v.1 5) (v.2 5)]).flatten) (ws' := (wT cI cJ bT (v.2 2) :: wT cI cJ (v.1 2) (v.2 2) :: [wO aP bT bR aS (sQN q (nI 2)), wT cI cJ bR (qR q), wR cO aS (fun i => some (v.1 i 0)), wT cI cJ (v.1 0) (v.2 0), wT cI cJ (v.1 1) (v.2 1), wT cI cJ (v.1 3) (v.2 3), wT cI cJ (v.1 4) (v.2 4), wT cI cJ (v.1 5) (v.2 5)]).flatten) C (run_V (rest := []) C (c_X1_copyFrom l D cI cJ cO bT (v.1 2) (qT q) (v.2 2) (o := v.2 2) rfl) w_copy 0 1 rfl rfl rfl rfl rfl (Nat.le_of_ble_eq_true rfl) dX3_undo_58 ⟨Nat.zero_le _, Nat.zero_le _⟩) (List.append_assoc _ _ _) (List.append_assoc _ _ _) rfl ?_
    exact gw_reord (L' := wB cI cJ cO aP bT bR aS (fun i => some (v.1 i 0)) (sQT (sQN q (nI 2)) (v.2 2), v)) 10 [2, 0, 3, 4, 5, 6, 1, 7, 8, 9] rfl rfl (by decide) hz
  · refine gw_reord (L := wB cI cJ cO aP bT bR aS (fun i => some (v.1 i 0)) ((sQN q (nI 3)), v)) (L' := wT cI cJ bT (qT q) :: wT cI cJ (v.1 3) (v.2 3) :: [wO aP bT bR aS (sQN q (nI 3)), wT cI cJ bR (qR q), wR cO aS (fun i => some (v.1 i 0)), wT cI cJ (v.1 0) (v.2 0), wT cI cJ (v.1 1) (v.2 1), wT cI cJ (v.1 2) (v.2 2), wT cI cJ (v.1 4) (v.2 4), wT cI cJ (v.1 5) (v.2 5)]) 10 [1, 7, 0, 2, 3, 4, 5, 6, 8, 9] rfl rfl (by decide) ?_
    refine gw_front (st2 := []) (v := ([wO aP bT bR aS (sQN q (nI 3)), wT cI cJ bR (qR q), wR cO aS (fun i => some (v.1 i 0)), wT cI cJ (v.1 0) (v.2 0), wT cI cJ (v.1 1) (v.2 1), wT cI cJ (v.1 2) (v.2 2), wT cI cJ (v.1 4) (v.2 4), wT cI cJ (v.1 5) (v.2 5)]).flatten) (ws' := (wT cI cJ bT (v.2 3) :: wT cI cJ (v.1 3) (v.2 3) :: [wO aP bT bR aS (sQN q (nI 3)), wT cI cJ bR (qR q), wR cO aS (fun i => some (v.1 i 0)), wT cI cJ (v.1 0) (v.2 0), wT cI cJ (v.1 1) (v.2 1), wT cI cJ (v.1 2) (v.2 2), wT cI cJ (v.1 4) (v.2 4), wT cI cJ (v.1 5) (v.2 5)]).flatten) C (run_V (rest := []) C (c_X1_copyFrom l D cI cJ cO bT (v.1 3) (qT q) (v.2 3) (o := v.2 3) rfl) w_copy 0 1 rfl rfl rfl rfl rfl (Nat.le_of_ble_eq_true rfl) dX3_undo_58 ⟨Nat.zero_le _, Nat.zero_le _⟩) (List.append_assoc _ _ _) (List.append_assoc _ _ _) rfl ?_
    exact gw_reord (L' := wB cI cJ cO aP bT bR aS (fun i => some (v.1 i 0)) (sQT (sQN q (nI 3)) (v.2 3), v)) 10 [2, 0, 3, 4, 5, 6, 7, 1, 8, 9] rfl rfl (by decide) hz
  · refine gw_reord (L := wB cI cJ cO aP bT bR aS (fun i => some (v.1 i 0)) ((sQN q (nI 4)), v)) (L' := wT cI cJ bT (qT q) :: wT cI cJ (v.1 4) (v.2 4) :: [wO aP bT bR aS (sQN q (nI 4)), wT cI cJ bR (qR q), wR cO aS (fun i => some (v.1 i 0)), wT cI cJ (v.1 0) (v.2 0), wT cI cJ (v.1 1) (v.2 1), wT cI cJ (v.1 2) (v.2 2), wT cI cJ (v.1 3) (v.2 3), wT cI cJ (v.1 5) (v.2 5)]) 10 [1, 8, 0, 2, 3, 4, 5, 6, 7, 9] rfl rfl (by decide) ?_
    refine gw_front (st2 := []) (v := ([wO aP bT bR aS (sQN q (nI 4)), wT cI cJ bR (qR q), wR cO aS (fun i => some (v.1 i 0)), wT cI cJ (v.1 0) (v.2 0), wT cI cJ (v.1 1) (v.2 1), wT cI cJ (v.1 2) (v.2 2), wT cI cJ (v.1 3) (v.2 3), wT cI cJ (v.1 5) (v.2 5)]).flatten) (ws' := (wT cI cJ bT (v.2 4) :: wT cI cJ (v.1 4) (v.2 4) :: [wO aP bT bR aS (sQN q (nI 4)), wT cI cJ bR (qR q), wR cO aS (fun i => some (v.1 i 0)), wT cI cJ (v.1 0) (v.2 0), wT cI cJ (v.1 1) (v.2 1), wT cI cJ (v.1 2) (v.2 2), wT cI cJ (v.1 3) (v.2 3), wT cI cJ (v.1 5) (v.2 5)]).flatten) C (run_V (rest := []) C (c_X1_copyFrom l D cI cJ cO bT (v.1 4) (qT q) (v.2 4) (o := v.2 4) rfl) w_copy 0 1 rfl rfl rfl rfl rfl (Nat.le_of_ble_eq_true rfl) dX3_undo_58 ⟨Nat.zero_le _, Nat.zero_le _⟩) (List.append_assoc _ _ _) (List.append_assoc _ _ _) rfl ?_
    exact gw_reord (L' := wB cI cJ cO aP bT bR aS (fun i => some (v.1 i 0)) (sQT (sQN q (nI 4)) (v.2 4), v)) 10 [2, 0, 3, 4, 5, 6, 7, 8, 1, 9] rfl rfl (by decide) hz
  · refine gw_reord (L := wB cI cJ cO aP bT bR aS (fun i => some (v.1 i 0)) ((sQN q (nI 5)), v)) (L' := wT cI cJ bT (qT q) :: wT cI cJ (v.1 5) (v.2 5) :: [wO aP bT bR aS (sQN q (nI 5)), wT cI cJ bR (qR q), wR cO aS (fun i => some (v.1 i 0)), wT cI cJ (v.1 0) (v.2 0), wT cI cJ (v.1 1) (v.2 1), wT cI cJ (v.1 2) (v.2 2), wT cI cJ (v.1 3) (v.2 3), wT cI cJ (v.1 4) (v.2 4)]) 10 [1, 9, 0, 2, 3, 4, 5, 6, 7, 8] rfl rfl (by decide) ?_
    refine gw_front (st2 := []) (v := ([wO aP bT bR aS (sQN q (nI 5)), wT cI cJ bR (qR q), wR cO aS (fun i => some (v.1 i 0)), wT cI cJ (v.1 0) (v.2 0), wT cI cJ (v.1 1) (v.2 1), wT cI cJ (v.1 2) (v.2 2), wT cI cJ (v.1 3) (v.2 3), wT cI cJ (v.1 4) (v.2 4)]).flatten) (ws' := (wT cI cJ bT (v.2 5) :: wT cI cJ (v.1 5) (v.2 5) :: [wO aP bT bR aS (sQN q (nI 5)), wT cI cJ bR (qR q), wR cO aS (fun i => some (v.1 i 0)), wT cI cJ (v.1 0) (v.2 0), wT cI cJ (v.1 1) (v.2 1), wT cI cJ (v.1 2) (v.2 2), wT cI cJ (v.1 3) (v.2 3), wT cI cJ (v.1 4) (v.2 4)]).flatten) C (run_V (rest := []) C (c_X1_copyFrom l D cI cJ cO bT (v.1 5) (qT q) (v.2 5) (o := v.2 5) rfl) w_copy 0 1 rfl rfl rfl rfl rfl (Nat.le_of_ble_eq_true rfl) dX3_undo_58 ⟨Nat.zero_le _, Nat.zero_le _⟩) (List.append_assoc _ _ _) (List.append_assoc _ _ _) rfl ?_
    exact gw_reord (L' := wB cI cJ cO aP bT bR aS (fun i => some (v.1 i 0)) (sQT (sQN q (nI 5)) (v.2 5), v)) 10 [2, 0, 3, 4, 5, 6, 7, 8, 9, 1] rfl rfl (by decide) hz
set_option maxHeartbeats 8000000 in
set_option maxRecDepth 100000 in
theorem c_X3_undo_T (l : Launch) (D : va_G) (cI cJ cO : ClassId) (aP : Nat) (bT bR : Nat → Nat) (aS : Nat) (q : QS) (v : VS) (hq : qN q = nI 0) : CtT l D (tysA cI cJ cO) yX3_undo wsX3_undo (rmOfX 6 110) [.ref aP] (wP cI cJ cO aP bT bR aS (q, v)) (gw_xn 2) (wP cI cJ cO aP bT bR aS (q, v)) := by
  refine CtT_of (own := RX3) cX3_undo 2 (some .int) (by decide +kernel) rfl rfl (Nat.le_of_ble_eq_true rfl) ?_
  intro p e s m args below meth c A C XF hnm
  have iX3 : ∀ w ∈ u_ws RX3 TX3 6, w ∈ wsX3_undo := fun w h => List.mem_cons_of_mem _ (List.mem_append_left _ (List.mem_append_left _ (List.mem_append_left _ (List.mem_append_right _ h))))
  have f23 : Cond.fieldLink RX3 23 (TX3 3).1 (TX3 3).2.1 (TX3 3).2.2.1 ∈ wsX3_undo := List.mem_of_getElem? (i := 3) rfl
  have f19 : Cond.fieldLink RX3 19 (TX3 2).1 (TX3 2).2.1 (TX3 2).2.2.1 ∈ wsX3_undo := List.mem_of_getElem? (i := 4) rfl
  have f12 : Cond.fieldLink RX3 12 (TX3 0).1 (TX3 0).2.1 (TX3 0).2.2.1 ∈ wsX3_undo := List.mem_of_getElem? (i := 5) rfl
  show gw_G p l e (rmOfX 6 110) s m args below meth c D A (CtMT D below (gw_xn 2) (wP cI cJ cO aP bT bR aS (q, v)) A args s) 2 0 0 (wP cI cJ cO aP bT bR aS (q, v)) [(0, .ref aP)] 0 []
  refine gw_aload_n C dX3_undo_0 0 rfl ?_
  refine gw_get C dX3_undo_1 0 2 3 rfl rfl iX3 (by decide) f23 rfl ?_
  rw [hq]
  have th2a : Cond.classLink RX3 41 (gw_xn 2) ∈ wsX3_undo := List.mem_of_getElem? (i := 1) rfl
  have th2b : Cond.initialized (gw_xn 2) ∈ wsX3_undo := List.mem_of_getElem? (i := 2) rfl
  have th2c : ∀ w ∈ (vx_atS RX3 45 (gw_xn 2) gw_ns).filter goodWord, w ∈ wsX3_undo := fun w h => List.mem_cons_of_mem _ (List.mem_append_right _ h)
  have sx106 := gw_str (tx := "no state is saved") XF 106 (List.mem_of_getElem? (i := 7) rfl)
  refine gw_if_le (Φ := fun _ : Unit => True) (X := ()) (Y := ()) (tgt := 19) C dX3_undo_4 (by decide) trivial (fun c1 _ => ?_) (fun c1 _ => absurd (by decide) c1)
  exact gw_throw (E := gw_xn 2) C XF dX3_undo_19 dX3_undo_22 dX3_undo_23 dX3_undo_25 dX3_undo_28 (by decide) th2a th2b sx106 th2c xW_2
def wV (cI cJ cO : ClassId) (aS : Nat) (v : VS) : va_W := [wR cO aS (fun i => some (v.1 i 0)), wT cI cJ (v.1 0) (v.2 0), wT cI cJ (v.1 1) (v.2 1), wT cI cJ (v.1 2) (v.2 2), wT cI cJ (v.1 3) (v.2 3), wT cI cJ (v.1 4) (v.2 4), wT cI cJ (v.1 5) (v.2 5)].flatten
theorem wP_Q (cI cJ cO : ClassId) (aP : Nat) (bT bR : Nat → Nat) (aS : Nat) (t : PS) : wQ cI cJ aP bT bR aS t.1 ++ wV cI cJ cO aS t.2 = wP cI cJ cO aP bT bR aS t := by
  simp only [wQ, wV, wP, wB, wO, List.flatten_cons, List.flatten_nil, List.append_assoc, List.append_nil, List.singleton_append, List.cons_append, List.nil_append]
def fP_saveState (t : PS) : Option PS := if (qN t.1).toNatClampNeg ≤ 6 ∧ qN t.1 = nI (qN t.1).toNatClampNeg then some (saveS (qN t.1).toNatClampNeg t) else none
theorem c_X3_saveState (l : Launch) (D : va_G) (cI cJ cO : ClassId) (aP : Nat) (bT bR : Nat → Nat) (aS : Nat) (t : PS) {o : PS} (h : fP_saveState t = some o) : Ct l D (tysA cI cJ cO) yX3_saveState wsX3_saveState (rmOf 4 140) [.ref aP] (wP cI cJ cO aP bT bR aS t) none (wP cI cJ cO aP bT bR aS o) := by
  unfold fP_saveState at h
  by_cases hc : (qN t.1).toNatClampNeg ≤ 6 ∧ qN t.1 = nI (qN t.1).toNatClampNeg
  · rw [if_pos hc] at h
    cases h
    exact c_X3_saveState0 l D cI cJ cO aP bT bR aS t.1 t.2 _ hc.1 hc.2
  · rw [if_neg hc] at h; cases h
section GQ
variable {p : Program} {l : Launch} {e : Env} {R : Room} {s : State} {m : MethodId} {args : Array Value} {below : List Frame} {meth : Method} {c : Code} {D : va_G} {A : Nat → Prop} {Q : State → Prop} {nL cells slots : Nat} {lv : List (Nat × Value)} {pc : Nat} {st : List Value}
variable {cc : ByteArray} {Ts : List Cond} {own : String} {tys : List (ClassId × FieldType)} {rt : Option FieldType} {cI cJ cO : ClassId} {aP : Nat} {bT bR : Nat → Nat} {aS : Nat}
theorem gP_Q {t : PS} {q' : QS} {ws' : va_W} {st2 : List Value} {r : Option Value} {rest : List Value} (C : Cx p s m args meth c cc nL Ts own D tys A rt) (hr : Rn p l e R s m args below meth c D nL cells slots (wQ cI cJ aP bT bR aS t.1) r (wQ cI cJ aP bT bR aS q') lv pc st rest) (hw : wP cI cJ cO aP bT bR aS (q', t.2) = ws') (hs2 : r.toList ++ rest = st2) (k : gw_G p l e R s m args below meth c D A Q nL cells slots ws' lv (pc + 3) st2) : gw_G p l e R s m args below meth c D A Q nL cells slots (wP cI cJ cO aP bT bR aS t) lv pc st :=
  gw_front C hr (wP_Q cI cJ cO aP bT bR aS t) ((wP_Q cI cJ cO aP bT bR aS (q', t.2)).trans hw) hs2 k
theorem gP_T {t : PS} {x : TS} {ws' : va_W} {st2 : List Value} {r : Option Value} {rest : List Value} (C : Cx p s m args meth c cc nL Ts own D tys A rt) (hr : Rn p l e R s m args below meth c D nL cells slots (wT cI cJ bT (qT t.1)) r (wT cI cJ bT x) lv pc st rest) (hw : wP cI cJ cO aP bT bR aS (sQT t.1 x, t.2) = ws') (hs2 : r.toList ++ rest = st2) (k : gw_G p l e R s m args below meth c D A Q nL cells slots ws' lv (pc + 3) st2) : gw_G p l e R s m args below meth c D A Q nL cells slots (wP cI cJ cO aP bT bR aS t) lv pc st := by
  subst hw
  refine gw_reord (L := wB cI cJ cO aP bT bR aS (fun i => some (t.2.1 i 0)) t) (L' := wT cI cJ bT (qT t.1) :: wO aP bT bR aS t.1 :: wT cI cJ bR (qR t.1) :: wR cO aS (fun i => some (t.2.1 i 0)) :: wT cI cJ (t.2.1 0) (t.2.2 0) :: wT cI cJ (t.2.1 1) (t.2.2 1) :: wT cI cJ (t.2.1 2) (t.2.2 2) :: wT cI cJ (t.2.1 3) (t.2.2 3) :: wT cI cJ (t.2.1 4) (t.2.2 4) :: wT cI cJ (t.2.1 5) (t.2.2 5) :: []) 10 [1, 0, 2, 3, 4, 5, 6, 7, 8, 9] rfl rfl (by decide) ?_
  refine gw_front (v := (wO aP bT bR aS t.1 :: wT cI cJ bR (qR t.1) :: wR cO aS (fun i => some (t.2.1 i 0)) :: wT cI cJ (t.2.1 0) (t.2.2 0) :: wT cI cJ (t.2.1 1) (t.2.2 1) :: wT cI cJ (t.2.1 2) (t.2.2 2) :: wT cI cJ (t.2.1 3) (t.2.2 3) :: wT cI cJ (t.2.1 4) (t.2.2 4) :: wT cI cJ (t.2.1 5) (t.2.2 5) :: []).flatten) C hr rfl rfl hs2 ?_
  exact gw_reord (L := wT cI cJ bT x :: wO aP bT bR aS t.1 :: wT cI cJ bR (qR t.1) :: wR cO aS (fun i => some (t.2.1 i 0)) :: wT cI cJ (t.2.1 0) (t.2.2 0) :: wT cI cJ (t.2.1 1) (t.2.2 1) :: wT cI cJ (t.2.1 2) (t.2.2 2) :: wT cI cJ (t.2.1 3) (t.2.2 3) :: wT cI cJ (t.2.1 4) (t.2.2 4) :: wT cI cJ (t.2.1 5) (t.2.2 5) :: []) (L' := wB cI cJ cO aP bT bR aS (fun i => some (t.2.1 i 0)) (sQT t.1 x, t.2)) 10 [1, 0, 2, 3, 4, 5, 6, 7, 8, 9] rfl rfl (by decide) k
theorem gP_TR {t : PS} {x : TS} {ws' : va_W} {st2 : List Value} {r : Option Value} {rest : List Value} (C : Cx p s m args meth c cc nL Ts own D tys A rt) (hr : Rn p l e R s m args below meth c D nL cells slots (wT cI cJ bT (qT t.1) ++ wT cI cJ bR (qR t.1)) r (wT cI cJ bT x ++ wT cI cJ bR (qR t.1)) lv pc st rest) (hw : wP cI cJ cO aP bT bR aS (sQT t.1 x, t.2) = ws') (hs2 : r.toList ++ rest = st2) (k : gw_G p l e R s m args below meth c D A Q nL cells slots ws' lv (pc + 3) st2) : gw_G p l e R s m args below meth c D A Q nL cells slots (wP cI cJ cO aP bT bR aS t) lv pc st := by
  subst hw
  refine gw_reord (L := wB cI cJ cO aP bT bR aS (fun i => some (t.2.1 i 0)) t) (L' := wT cI cJ bT (qT t.1) :: wT cI cJ bR (qR t.1) :: wO aP bT bR aS t.1 :: wR cO aS (fun i => some (t.2.1 i 0)) :: wT cI cJ (t.2.1 0) (t.2.2 0) :: wT cI cJ (t.2.1 1) (t.2.2 1) :: wT cI cJ (t.2.1 2) (t.2.2 2) :: wT cI cJ (t.2.1 3) (t.2.2 3) :: wT cI cJ (t.2.1 4) (t.2.2 4) :: wT cI cJ (t.2.1 5) (t.2.2 5) :: []) 10 [1, 2, 0, 3, 4, 5, 6, 7, 8, 9] rfl rfl (by decide) ?_
  refine gw_front (v := (wO aP bT bR aS t.1 :: wR cO aS (fun i => some (t.2.1 i 0)) :: wT cI cJ (t.2.1 0) (t.2.2 0) :: wT cI cJ (t.2.1 1) (t.2.2 1) :: wT cI cJ (t.2.1 2) (t.2.2 2) :: wT cI cJ (t.2.1 3) (t.2.2 3) :: wT cI cJ (t.2.1 4) (t.2.2 4) :: wT cI cJ (t.2.1 5) (t.2.2 5) :: []).flatten) C hr (List.append_assoc _ _ _) (List.append_assoc _ _ _) hs2 ?_
  exact gw_reord (L := wT cI cJ bT x :: wT cI cJ bR (qR t.1) :: wO aP bT bR aS t.1 :: wR cO aS (fun i => some (t.2.1 i 0)) :: wT cI cJ (t.2.1 0) (t.2.2 0) :: wT cI cJ (t.2.1 1) (t.2.2 1) :: wT cI cJ (t.2.1 2) (t.2.2 2) :: wT cI cJ (t.2.1 3) (t.2.2 3) :: wT cI cJ (t.2.1 4) (t.2.2 4) :: wT cI cJ (t.2.1 5) (t.2.2 5) :: []) (L' := wB cI cJ cO aP bT bR aS (fun i => some (t.2.1 i 0)) (sQT t.1 x, t.2)) 10 [2, 0, 1, 3, 4, 5, 6, 7, 8, 9] rfl rfl (by decide) k
theorem gP_RT {t : PS} {x : TS} {ws' : va_W} {st2 : List Value} {r : Option Value} {rest : List Value} (C : Cx p s m args meth c cc nL Ts own D tys A rt) (hr : Rn p l e R s m args below meth c D nL cells slots (wT cI cJ bR (qR t.1) ++ wT cI cJ bT (qT t.1)) r (wT cI cJ bR x ++ wT cI cJ bT (qT t.1)) lv pc st rest) (hw : wP cI cJ cO aP bT bR aS (sQR t.1 x, t.2) = ws') (hs2 : r.toList ++ rest = st2) (k : gw_G p l e R s m args below meth c D A Q nL cells slots ws' lv (pc + 3) st2) : gw_G p l e R s m args below meth c D A Q nL cells slots (wP cI cJ cO aP bT bR aS t) lv pc st := by
  subst hw
  refine gw_reord (L := wB cI cJ cO aP bT bR aS (fun i => some (t.2.1 i 0)) t) (L' := wT cI cJ bR (qR t.1) :: wT cI cJ bT (qT t.1) :: wO aP bT bR aS t.1 :: wR cO aS (fun i => some (t.2.1 i 0)) :: wT cI cJ (t.2.1 0) (t.2.2 0) :: wT cI cJ (t.2.1 1) (t.2.2 1) :: wT cI cJ (t.2.1 2) (t.2.2 2) :: wT cI cJ (t.2.1 3) (t.2.2 3) :: wT cI cJ (t.2.1 4) (t.2.2 4) :: wT cI cJ (t.2.1 5) (t.2.2 5) :: []) 10 [2, 1, 0, 3, 4, 5, 6, 7, 8, 9] rfl rfl (by decide) ?_
  refine gw_front (v := (wO aP bT bR aS t.1 :: wR cO aS (fun i => some (t.2.1 i 0)) :: wT cI cJ (t.2.1 0) (t.2.2 0) :: wT cI cJ (t.2.1 1) (t.2.2 1) :: wT cI cJ (t.2.1 2) (t.2.2 2) :: wT cI cJ (t.2.1 3) (t.2.2 3) :: wT cI cJ (t.2.1 4) (t.2.2 4) :: wT cI cJ (t.2.1 5) (t.2.2 5) :: []).flatten) C hr (List.append_assoc _ _ _) (List.append_assoc _ _ _) hs2 ?_
  exact gw_reord (L := wT cI cJ bR x :: wT cI cJ bT (qT t.1) :: wO aP bT bR aS t.1 :: wR cO aS (fun i => some (t.2.1 i 0)) :: wT cI cJ (t.2.1 0) (t.2.2 0) :: wT cI cJ (t.2.1 1) (t.2.2 1) :: wT cI cJ (t.2.1 2) (t.2.2 2) :: wT cI cJ (t.2.1 3) (t.2.2 3) :: wT cI cJ (t.2.1 4) (t.2.2 4) :: wT cI cJ (t.2.1 5) (t.2.2 5) :: []) (L' := wB cI cJ cO aP bT bR aS (fun i => some (t.2.1 i 0)) (sQR t.1 x, t.2)) 10 [2, 1, 0, 3, 4, 5, 6, 7, 8, 9] rfl rfl (by decide) k
end GQ

