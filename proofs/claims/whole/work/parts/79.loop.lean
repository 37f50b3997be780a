/-! the law's loop -/
theorem law_bound {i L : Nat} (hi : i ≤ L) (hL : L ≤ 1536) (h : ¬ (nI L - nI 3 < nI i)) : i + 3 ≤ L := by
  by_cases c : i + 3 ≤ L
  · exact c
  · refine absurd ?_ h
    by_cases c3 : 3 ≤ L
    · rw [nI_sub c3]
      exact nI_lt (by omega) (by omega)
    · have h0 : (nI L - nI 3) < 0 := by
        rcases (show L = 0 ∨ L = 1 ∨ L = 2 by omega) with rfl | rfl | rfl <;> decide
      have h1 : (0 : Int32) ≤ nI i := nI_pos' (by omega)
      exact Int32.lt_of_lt_of_le h0 h1
set_option maxHeartbeats 8000000 in
set_option maxRecDepth 100000 in
theorem law_loop {p : Program} {l : Launch} {e : Env} {s : State} {m : MethodId} {args : Array Value} {below : List Frame} {meth : Method} {c : Code} {D : va_G} {A : Nat → Prop} {Q : State → Prop} {cI cJ cO : ClassId} {rt : Option FieldType} (C : Cx p s m args meth c cL_law 9 wsL_law RL D (tysA cI cJ cO) A rt) (htr : l.stackTraces = false) (XF : Xf0 s A) (XH : xfH s)
    {b L : Nat} {xs : Nat → Int32} (hL : L ≤ 1536) (hX : va_X b L xs s s.heap) (hbl : b < s.heap.size) (hbA : ¬ A b) {aP aS ao : Nat} {bT bR a : Nat → Nat}
    (kend : ∀ (g : Nat → Int64) (q : PS) (mm : MS) (i : Int32), gw_G p l e room_1 s m args below meth c D A Q 9 601024 7293034 (wL cI cJ cO ao g aP bT bR aS q a mm) (lvI b aP (a 0) ao i) 948 []) :
    ∀ (n i : Nat), L < i + n → i ≤ L → ∀ (g : Nat → Int64) (q : PS) (mm : MS), Rl q mm → gw_G p l e room_1 s m args below meth c D A Q 9 (200 + i) (30000 + 6 * i) (wL cI cJ cO ao g aP bT bR aS q a mm) (lvI b aP (a 0) ao (nI i)) 23 [] := by
  intro n
  induction n with
  | zero => intro i h1 h2; exact absurd h1 (by omega)
  | succ n ih =>
    intro i hn hi g q mm hR
    refine gw_iload C dL_law_23 4 rfl ?_
    refine gw_aload_n C dL_law_25 0 rfl ?_
    refine gw_slen C hX hbl hbA dL_law_26 ?_
    refine gw_iconst (v := nI 3) C dL_law_27 rfl ?_
    refine gw_isub C dL_law_28 ?_
    refine gw_icmp_gt (Φ := fun _ : Unit => True) (X := ()) (Y := ()) (tgt := 948) C dL_law_29 (by decide) trivial (fun _ _ => gw_wide (by omega) (by omega) (kend g q mm (nI i))) (fun hc _ => ?_)
    have hi3 : i + 3 ≤ L := law_bound hi hL hc
    have hi1 : vp_in (nI i + nI 1) L := by rw [nI_add]; exact vp_in_nI (by omega) (by omega)
    have hi2 : vp_in (nI i + nI 2) L := by rw [nI_add]; exact vp_in_nI (by omega) (by omega)
    have hcs1 : 200 + i + 1 ≤ room_1.cells ∧ 30000 + 6 * i + 6 ≤ room_1.slots := ⟨(show 200 + i + 1 ≤ 601024 by omega), (show 30000 + 6 * i + 6 ≤ 7293034 by omega)⟩
    have hcs0 : 200 + i ≤ room_1.cells ∧ 30000 + 6 * i ≤ room_1.slots := ⟨(show 200 + i ≤ 601024 by omega), (show 30000 + 6 * i ≤ 7293034 by omega)⟩
    have K1 : ∀ (g' : Nat → Int64) (q' : PS) (mm' : MS), Rl q' mm' → gw_G p l e room_1 s m args below meth c D A Q 9 (200 + i + 1) (30000 + 6 * i + 6) (wL cI cJ cO ao g' aP bT bR aS q' a mm') (lvI b aP (a 0) ao (nI i)) 942 [] := by
      intro g' q' mm' hR'
      refine gw_iinc (v := nI (i + 3)) C dL_law_942 [(4, .int (nI (i + 3))), (0, .ref b), (1, .ref aP), (2, .ref (a 0)), (3, .ref ao)] 4 rfl (by rw [show Int32.ofInt 3 = nI 3 by decide]; exact nI_add i 3) (by decide) rfl ?_
      refine gw_goto (tgt := 23) C dL_law_945 (by decide) ?_
      refine gw_sub [1, 2, 3, 4, 0] rfl ?_
      exact gw_wide (by omega) (by omega) (ih (i + 3) (by omega) hi3 g' q' mm' hR')
    have K0 : ∀ (q' : PS) (mm' : MS), Rl q' mm' → gw_G p l e room_1 s m args below meth c D A Q 9 (200 + i) (30000 + 6 * i) (wL cI cJ cO ao g aP bT bR aS q' a mm') (lvI b aP (a 0) ao (nI i)) 942 [] :=
      fun q' mm' h => gw_wide (by omega) (by omega) (K1 g q' mm' h)
    have KT : ∀ (g' : Nat → Int64) (q' : PS) (mm' : MS) (kk bb : Int32), Rl q' mm' → gw_G p l e room_1 s m args below meth c D A Q 9 (200 + i + 1) (30000 + 6 * i + 6) (wL cI cJ cO ao g' aP bT bR aS q' a mm') (lvT b aP (a 0) ao (nI i) kk bb) 942 [] :=
      fun g' q' mm' kk bb h => gw_sub [2, 3, 4, 5, 6] rfl (K1 g' q' mm' h)
    refine gw_aload_n C dL_law_32 0 rfl ?_
    refine gw_iload C dL_law_33 4 rfl ?_
    refine gw_sld C hX hbl hbA (vp_in_nI (by omega) (by omega)) dL_law_35 ?_
    refine gw_bipush (v := nI 31) C dL_law_36 rfl ?_
    refine gw_iand C dL_law_38 ?_
    generalize (xs (nI i).toNatClampNeg &&& nI 31) = x
    by_cases c0 : x = 0
    · exact gw_tabIn (off := 97) (tgt := 136) (k := 0) C dL_law_39 c0 (by decide) (by decide) rfl (by decide) (case_append C htr XF XH hcs1 hX hbl hbA hi1 hi2 hR KT)
    by_cases c1 : x = 1
    · exact gw_tabIn (off := 153) (tgt := 192) (k := 1) C dL_law_39 c1 (by decide) (by decide) rfl (by decide) (case_clearBuffer C hcs0 hR K0)
    by_cases c2 : x = 2
    · exact gw_tabIn (off := 166) (tgt := 205) (k := 2) C dL_law_39 c2 (by decide) (by decide) rfl (by decide) (case_drop C htr XF XH hcs1 hX hbl hbA hi1 hi2 hR KT)
    by_cases c3 : x = 3
    · exact gw_tabIn (off := 210) (tgt := 249) (k := 3) C dL_law_39 c3 (by decide) (by decide) rfl (by decide) (case_add C htr XF XH hcs1 hX hbl hbA hi1 hi2 hR KT)
    by_cases c4 : x = 4
    · exact gw_tabIn (off := 254) (tgt := 293) (k := 4) C dL_law_39 c4 (by decide) (by decide) rfl (by decide) (case_remove C htr XF XH hcs1 hX hbl hbA hi1 hi2 hR KT)
    by_cases c5 : x = 5
    · exact gw_tabIn (off := 298) (tgt := 337) (k := 5) C dL_law_39 c5 (by decide) (by decide) rfl (by decide) (case_removeAll C hcs0 hR K0)
    by_cases c6 : x = 6
    · exact gw_tabIn (off := 311) (tgt := 350) (k := 6) C dL_law_39 c6 (by decide) (by decide) rfl (by decide) (case_pack C htr XF XH hcs1 hX hbl hbA hi1 hi2 hR KT)
    by_cases c7 : x = 7
    · exact gw_tabIn (off := 355) (tgt := 394) (k := 7) C dL_law_39 c7 (by decide) (by decide) rfl (by decide) (case_undo C htr XF XH hcs1 hX hbl hbA hi1 hi2 hR KT)
    by_cases c8 : x = 8
    · exact gw_tabIn (off := 399) (tgt := 438) (k := 8) C dL_law_39 c8 (by decide) (by decide) rfl (by decide) (case_cell C htr XF XH hcs1 hX hbl hbA hi1 hi2 hR KT)
    by_cases c9 : x = 9
    · exact gw_tabIn (off := 467) (tgt := 506) (k := 9) C dL_law_39 c9 (by decide) (by decide) rfl (by decide) (case_end C htr XF XH hcs1 hX hbl hbA hi1 hi2 hR KT)
    by_cases c10 : x = 10
    · exact gw_tabIn (off := 535) (tgt := 574) (k := 10) C dL_law_39 c10 (by decide) (by decide) rfl (by decide) (case_letter C htr XF XH hcs1 hX hbl hbA hi1 hi2 hR KT)
    by_cases c11 : x = 11
    · exact gw_tabIn (off := 603) (tgt := 642) (k := 11) C dL_law_39 c11 (by decide) (by decide) rfl (by decide) (case_count C htr XF XH hcs1 hX hbl hbA hi1 hi2 hR KT)
    by_cases c12 : x = 12
    · exact gw_tabIn (off := 659) (tgt := 698) (k := 12) C dL_law_39 c12 (by decide) (by decide) rfl (by decide) (case_find C hcs0 hR K0)
    by_cases c13 : x = 13
    · exact gw_tabIn (off := 672) (tgt := 711) (k := 13) C dL_law_39 c13 (by decide) (by decide) rfl (by decide) (case_longest C hcs0 hR K0)
    by_cases c14 : x = 14
    · exact gw_tabIn (off := 685) (tgt := 724) (k := 14) C dL_law_39 c14 (by decide) (by decide) rfl (by decide) (case_beginning C hcs0 hR K0)
    by_cases c15 : x = 15
    · exact gw_tabIn (off := 698) (tgt := 737) (k := 15) C dL_law_39 c15 (by decide) (by decide) rfl (by decide) (case_ahead C hcs0 hR K0)
    by_cases c16 : x = 16
    · exact gw_tabIn (off := 711) (tgt := 750) (k := 16) C dL_law_39 c16 (by decide) (by decide) rfl (by decide) (case_word C htr XF XH hcs1 hX hbl hbA hi1 hi2 hR KT)
    by_cases c17 : x = 17
    · exact gw_tabIn (off := 779) (tgt := 818) (k := 17) C dL_law_39 c17 (by decide) (by decide) rfl (by decide) (case_ifAdded C htr XF XH hcs1 hX hbl hbA hi1 hi2 hR KT)
    by_cases c18 : x = 18
    · exact gw_tabIn (off := 835) (tgt := 874) (k := 18) C dL_law_39 c18 (by decide) (by decide) rfl (by decide) (case_ifPacked C hcs0 hR K0)
    by_cases c19 : x = 19
    · exact gw_tabIn (off := 848) (tgt := 887) (k := 19) C dL_law_39 c19 (by decide) (by decide) rfl (by decide) (case_fullness C hcs0 hR K0)
    by_cases c20 : x = 20
    · exact gw_tabIn (off := 889) (tgt := 928) (k := 20) C dL_law_39 c20 (by decide) (by decide) rfl (by decide) (case_digest C hcs0 hR K0)
    exact gw_tabOut (tgt := 942) C dL_law_39 (gw_out21 c0 c1 c2 c3 c4 c5 c6 c7 c8 c9 c10 c11 c12 c13 c14 c15 c16 c17 c18 c19 c20) (by decide) (K0 q mm hR)
