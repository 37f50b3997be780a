/-! the model: a leaf is split, a word is added -/
theorem z_split {z : Sz} {D : Nat → Nat} {t : MS} (h : WF z D) (hz : Mz z (mZ t)) {ra : MS → Nat → Int32} (hA : Ap2 ra) {w : List Nat} (hw : okw w) (hr : Rw (ra t) w) {c a : Nat} (hk : z.K c = 2) (hb : z.B c ≠ 1) (ha : a ≤ w.length) (hl : D c + (w.drop a).length ≤ 12) (hne : z.X (z.E c - 1) ≠ w.drop a) :
    Gd (fun o => Az t o.2 ∧ (splS z c (w.drop a) = none → o.1 = 2) ∧ ∀ x zf, splS z c (w.drop a) = some (x, zf) → o.1 = 0 ∧ Mz zf (mZ o.2) ∧ mLn o.2 = nI x) (fM_split ra (nI c) (nI a) (nI w.length) t) := by
  have hs := h.sml
  have hc := h.lt (c := c) (by omega)
  have hc0 : c ≠ 0 := by intro q; rw [q, h.root.1] at hk; omega
  obtain ⟨hO, e, he, h40, hu⟩ := h.leaf hk
  have hx := h.e.2.2.1 e
  have hx12 := hx.1
  have hw12 := hw.1
  have hlen := h.len hk hb
  rw [he, Nat.add_sub_cancel] at hlen hne
  obtain ⟨d1, d2, d3⟩ := drop_ok h hk he
  have hwf := un_wf h hk hb d3 (dp_part11 hlen hl hne)
  have hsp : splS z c (w.drop a) = chS (z.X e) (w.drop a) (unL z c (dU z.U e) (dX z.U z.X e)) c := by rw [splS, he, Nat.add_sub_cancel]
  rw [hsp]
  unfold fM_split
  rw [i640, if_pos (inb_nI (by omega) (by omega)), nI_clamp' (by omega), hz.e c hc, he, eI_s, gw_let, z_length hz h40]
  simp only [Option.bind_some]
  refine gd_bind (P := fun t' => ∃ g, t' = sMOl t g ∧ Rw g (z.X e)) ?_ ?_
  · refine gd_lp (fun k y => k ≤ (z.X e).length ∧ ∃ g, y = (nI k, sMOl t g) ∧ ∀ i, i < k → g i = nI (hd0 ((z.X e).drop i))) (z.X e).length ⟨by omega, mOl t, rfl, fun i hi => absurd hi (Nat.not_lt_zero i)⟩ ?_ (by omega)
    rintro k y hkk ⟨-, g, rfl, g1⟩
    try dsimp only
    by_cases ek : k = (z.X e).length
    · rw [if_pos (nI_le (by omega) (by omega))]
      exact gd_inl ⟨g, rfl, fun i hi => g1 i (by omega)⟩
    · rw [if_neg (nI_ge (by omega) (by omega)), z_letter (t := sMOl t g) hz h40 (by omega)]
      simp only [Option.bind_some]
      rw [if_pos (inb_nI (by omega) (by omega)), gw_let, upd_nI _ (by omega), nI_1]
      refine gd_inr (by omega) ⟨by omega, upd g k (nI (hd0 ((z.X e).drop k))), rfl, ?_⟩
      intro i hi
      by_cases e5 : i = k
      · rw [e5, upd_eq]
      · rw [upd_ne _ _ e5]; exact g1 i (by omega)
  · rintro t1 ⟨g, rfl, hg⟩
    refine gd_bind (z_dropEnd hs (t := sMOl t g) hz hc h40 he hu) ?_
    rintro t2 ⟨f, rfl, m1⟩
    rw [i0, if_pos (inb_nI (by omega) (by omega)), gw_let, upd_nI _ (by omega)]
    have m2 : Mz (unL z c (dU z.U e) (dX z.U z.X e)) (upd (mZ (sMZ (sMOl t g) f)) c 1) := Mz_K m1 hc 1
    have haz : Az t (sMZ (sMZ (sMOl t g) f) (upd (mZ (sMZ (sMOl t g) f)) c 1)) := (((Az.refl t).ol g).z f).z _
    have hgo : Rw (mOl (sMZ (sMZ (sMOl t g) f) (upd (mZ (sMZ (sMOl t g) f)) c 1))) (z.X e) := hg
    refine gd_lp (fun k y => ∃ zi Di ci t', y = (nI ci, nI k, t') ∧ Az t t' ∧ Rw (mOl t') (z.X e) ∧ WF zi Di ∧ zi.K ci = 1 ∧ zi.O ci = 0 ∧ Mz zi (mZ t') ∧ Part Di ci ((z.X e).drop k) (w.drop (a + k)) ∧ (z.X e).drop k ≠ w.drop (a + k) ∧ chS ((z.X e).drop k) (w.drop (a + k)) zi ci = chS (z.X e) (w.drop a) (unL z c (dU z.U e) (dX z.U z.X e)) c ∧ k ≤ (z.X e).length ∧ a + k ≤ w.length) 12 ⟨_, D, c, _, rfl, haz, hgo, hwf, fu_eq _ _ _, hO, m2, ⟨hx, okw_drop hw a, hlen, hl, hc0⟩, hne, rfl, by omega, by omega⟩ ?_ (by omega)
    rintro k y hk12 ⟨zi, Di, ci, t', rfl, gA, gO, g1, g2, g3, g4, g5, g6, g7, g8, g9⟩
    have hr' : Rw (ra t') w := by rw [hA.r gA]; exact hr
    rw [gw_let]
    try dsimp only
    have l1 := hd0_lt g5.1.2
    have l2 := hd0_lt g5.2.1.2
    by_cases hh : hd0 ((z.X e).drop k) = hd0 (w.drop (a + k))
    · have hk1 : k < (z.X e).length := by
        by_cases q : k < (z.X e).length
        · exact q
        · have q1 : (z.X e).drop k = [] := List.drop_eq_nil_of_le (by omega)
          rw [q1] at hh g6
          exact absurd ((hd0_0 g5.2.1.2).mp hh.symm).symm g6
      have hk2 : a + k < w.length := by
        by_cases q : a + k < w.length
        · exact q
        · have q1 : w.drop (a + k) = [] := List.drop_eq_nil_of_le (by omega)
          rw [q1] at hh g6
          exact absurd ((hd0_0 g5.1.2).mp hh) g6
      have hu1 : (z.X e).drop k = hd0 ((z.X e).drop k) :: (z.X e).drop (k + 1) := drop_hd hk1
      have hw1 : w.drop (a + k) = hd0 (w.drop (a + k)) :: w.drop (a + (k + 1)) := drop_hd hk2
      rw [hu1, hw1, chS, if_pos hh] at g7
      have hl0 : 1 ≤ hd0 ((z.X e).drop k) := by
        have := g5.1.2
        rw [hu1] at this
        exact (this _ List.mem_cons_self).1
      have hci := g1.lt (c := ci) (by omega)
      have hm : 2 ^ hd0 ((z.X e).drop k) < 512 := Nat.pow_lt_pow_right (n := 9) (by omega) l1
      have hDu : Di ci + 1 ≤ 11 := dp_part11 (u := (z.X e).drop (k + 1)) (s := w.drop (a + (k + 1))) (by have := g5.2.2.1; rw [List.length_drop] at this ⊢; omega) (by have := g5.2.2.2.1; rw [List.length_drop] at this ⊢; omega) (fun q => g6 (by rw [hu1, hw1, hh, q]))
      rw [if_neg (nI_ge (by omega) (by omega)), nI_add, if_neg (nI_ge (by omega) (by omega)), if_pos (inb_nI (by omega) (by omega)), if_pos (inb_nI (by omega) (by omega)), rw_at gO hk1 (by omega), rw_at hr' hk2 (by omega), if_pos (by rw [hh]), if_pos (inb_nI (by omega) (by omega)), shl_e _ l1]
      obtain ⟨o1, o2⟩ := z_open g1.sml g4 hci hm
      by_cases el : lst zi (2 ^ hd0 ((z.X e).drop k)) = 0
      · rw [if_pos el] at g7
        rw [o1 el]
        simp only [Option.bind_some]
        first | rw [if_pos rfl] | rw [if_pos trivial]
        refine gd_inl ?_
        rw [← g7]
        exact ⟨gA, fun _ => rfl, fun x zf q => by cases q⟩
      · rw [if_neg el] at g7
        obtain ⟨f0, e0, m0⟩ := o2 el
        rw [e0]
        simp only [Option.bind_some]
        obtain ⟨p1, p2, p3⟩ := chain_put g1 g2 g3 hl0 l1 hDu el
        generalize lst zi (2 ^ hd0 ((z.X e).drop k)) = o at el g7 p1 p2 p3 m0 o1 o2 e0
        have hv : mOl (sMZ t' f0) (nI k).toNatClampNeg = nI (hd0 ((z.X e).drop k)) := rw_at gO hk1 (by omega)
        have hcx : o + hd0 ((z.X e).drop k) ≠ ci := by intro q; have := p1.2.2.2.2.2.1; rw [q] at this; omega
        have hOx : zi.O (o + hd0 ((z.X e).drop k)) = 0 := (g1.free p1.2.2.2.2.2.1).2.2.1
        obtain ⟨f1, e1, m3⟩ := z_putChild (t := sMZ t' f0) (l := hd0 ((z.X e).drop k)) m0 hci (fu_eq _ _ _) p1.2.2.2.2.1 (by show fu zi.O ci o _ = 0; rw [fu_ne _ _ hcx]; exact hOx) (k := 1) (kk := 1) rfl
        rw [if_neg (by decide), if_pos (inb_nI (by omega) (by omega)), hv, e1]
        simp only [Option.bind_some]
        rw [nI_1]
        refine gd_inr (by omega) ⟨putC zi ci o (hd0 ((z.X e).drop k)) 1 0 zi.U zi.X, fu Di (o + hd0 ((z.X e).drop k)) (Di ci + 1), o + hd0 ((z.X e).drop k), _, rfl, (gA.z f0).z f1, gO, p3, fu_eq _ _ _, ?_, m3, ?_, ?_, g7, by omega, by omega⟩
        · show fu zi.O ci o (o + hd0 ((z.X e).drop k)) = 0
          rw [fu_ne _ _ hcx]; exact hOx
        · have q1 := g5.2.2.1
          have q2 := g5.2.2.2.1
          rw [List.length_drop] at q1 q2
          refine ⟨okw_drop hx _, okw_drop hw _, ?_, ?_, by have := p1.2.2.1; omega⟩
          · rw [fu_eq, List.length_drop]; omega
          · rw [fu_eq, List.length_drop]; omega
        · intro q; exact g6 (by rw [hu1, hw1, hh, q])
    · rw [chS_frk hh] at g7
      have hf := z_frk g1 g4 hA hw hr' hx gO g2 g3 g8 g9 g5 hh
      rw [g7] at hf
      have hf2 : Gd (Sx (fun k y => ∃ zi Di ci t', y = (nI ci, nI k, t') ∧ Az t t' ∧ Rw (mOl t') (z.X e) ∧ WF zi Di ∧ zi.K ci = 1 ∧ zi.O ci = 0 ∧ Mz zi (mZ t') ∧ Part Di ci ((z.X e).drop k) (w.drop (a + k)) ∧ (z.X e).drop k ≠ w.drop (a + k) ∧ chS ((z.X e).drop k) (w.drop (a + k)) zi ci = chS (z.X e) (w.drop a) (unL z c (dU z.U e) (dX z.U z.X e)) c ∧ k ≤ (z.X e).length ∧ a + k ≤ w.length) (fun o : Int32 × MS => Az t o.2 ∧ (chS (z.X e) (w.drop a) (unL z c (dU z.U e) (dX z.U z.X e)) c = none → o.1 = 2) ∧ ∀ x zf, chS (z.X e) (w.drop a) (unL z c (dU z.U e) (dX z.U z.X e)) c = some (x, zf) → o.1 = 0 ∧ Mz zf (mZ o.2) ∧ mLn o.2 = nI x) 12 k) (frkM ra (nI ci) (nI k) t' (nI a) (nI w.length) (nI (z.X e).length)) := by
        refine gd_mono hf ?_
        rintro r ⟨o, rfl, q1, q2, q3⟩
        exact ⟨gA.trans q1, q2, q3⟩
      by_cases c1 : (z.X e).length ≤ k
      · rw [if_pos (nI_le c1 (by omega))]
        exact hf2
      · rw [if_neg (nI_ge (by omega) (by omega))]
        by_cases c2 : w.length ≤ a + k
        · rw [if_pos (show nI w.length ≤ nI a + nI k by rw [nI_add]; exact nI_le c2 (by omega))]
          exact hf2
        · rw [if_neg (show ¬ nI w.length ≤ nI a + nI k by rw [nI_add]; exact nI_ge (by omega) (by omega)), if_pos (inb_nI (by omega) (by omega)), if_pos (show inb (nI a + nI k) 12 by rw [nI_add]; exact inb_nI (by omega) (by omega)), if_neg]
          · exact hf2
          · rw [nI_add, rw_at gO (by omega) (by omega), rw_at hr' (by omega) (by omega)]
            exact fun q => hh (nI_inj (by omega) (by omega) q)
theorem z_addWord {z : Sz} {D : Nat → Nat} {t : MS} (h : WF z D) (hz : Mz z (mZ t)) {ra : MS → Nat → Int32} (hA : Ap2 ra) {w : List Nat} (hw : okw w) (hr : Rw (ra t) w) (hw0 : w ≠ []) :
    Gd (fun o => Az t o.2 ∧ (Fz z D 0 w ≠ 0 → o.1 = 1) ∧ (Fz z D 0 w = 0 → (insS z w = none → o.1 = 2) ∧ ∀ x zf, insS z w = some (x, zf) → o.1 = 0 ∧ Mz zf (mZ o.2) ∧ mLn o.2 = nI x)) (fM_addWord ra (nI w.length) t) := by
  have hs := h.sml
  have hw12 := hw.1
  unfold fM_addWord
  refine gd_lp (fun k y => ∃ c, y = (nI c, nI k) ∧ z.K c = 1 ∧ D c = k ∧ Fz z D c (w.drop k) = Fz z D 0 w ∧ insF z (13 - k) c (w.drop k) = insS z w ∧ (c = 0 → w.drop k ≠ [])) 13 ⟨0, rfl, h.root.1, h.root.2.2.2, rfl, rfl, fun _ => hw0⟩ ?_ (by omega)
  rintro k y hk ⟨c, rfl, g1, g2, g3, g4, g5⟩
  have hc := h.lt (c := c) (by omega)
  have hD := (h.inn g1).2.2.1
  have l1 := hd0_lt (okw_drop hw k).2
  have tl := tail_len (okw_drop hw k)
  rw [show 13 - k = (12 - k) + 1 by omega, insF] at g4
  rw [F_inner h g1] at g3
  rw [gw_let]
  try dsimp only
  have hch160 := ch_lt z c (hd0 (w.drop k))
  have htail : (w.drop k).tail = w.drop (min (k + 1) w.length) := by
    rw [List.tail_drop]
    by_cases e : k + 1 ≤ w.length
    · rw [Nat.min_eq_left e]
    · rw [Nat.min_eq_right (by omega), List.drop_eq_nil_of_le (by omega), List.drop_eq_nil_of_le (Nat.le_refl _)]
  have key : ∀ v2 : Int32, v2 = nI (hd0 (w.drop k)) → Gd (Sx (fun k y => ∃ c, y = (nI c, nI k) ∧ z.K c = 1 ∧ D c = k ∧ Fz z D c (w.drop k) = Fz z D 0 w ∧ insF z (13 - k) c (w.drop k) = insS z w ∧ (c = 0 → w.drop k ≠ [])) (fun o : Int32 × MS => Az t o.2 ∧ (Fz z D 0 w ≠ 0 → o.1 = 1) ∧ (Fz z D 0 w = 0 → (insS z w = none → o.1 = 2) ∧ ∀ x zf, insS z w = some (x, zf) → o.1 = 0 ∧ Mz zf (mZ o.2) ∧ mLn o.2 = nI x)) 13 k)
    ((fM_child (nI c) v2 t).bind fun q5 =>
   if q5 = (-1 : Int32) then
    (fM_addLeaf ra (nI c) v2 (nI k) (nI w.length) t).bind fun q7 =>
    some (.inl (q7.1, q7.2))
   else
    gw_let (α := Int32 → Option (Int32 × MS ⊕ Int32 × Int32)) (fun v8 =>
     (fM_isLeaf q5 t).bind fun q10 =>
     if q10 = 0 then
      some (.inr (q5, ((nI k) + (1 : Int32))))
     else
      gw_let (sMLn t q5) fun t12 =>
      if inb ((640 : Int32) + q5) 1361 then
      (fM_isEnd ra (mZ t12 ((640 : Int32) + q5).toNatClampNeg) v8 (nI w.length) t12).bind fun q14 =>
      if q14 = 0 then
       (fM_split ra q5 v8 (nI w.length) t12).bind fun q16 =>
       some (.inl (q16.1, q16.2))
      else
       some (.inl ((1 : Int32), t12))
      else none
    ) fun j8 =>
    if (nI w.length) ≤ (nI k) then
     j8 (nI w.length)
    else
     j8 ((nI k) + (1 : Int32))) := by
    rintro v2 rfl
    rw [z_child hs hz hc (by omega)]
    simp only [Option.bind_some]
    by_cases ec : ch z c (hd0 (w.drop k)) = 0
    · rw [if_pos ec] at g3 g4
      rw [if_pos ec]
      first | rw [if_pos rfl] | rw [if_pos trivial]
      refine gd_bind (z_addLeaf h hz hA hw hr g1 (by omega) ec) ?_
      rintro q ⟨q1, q2, q3⟩
      have q2' : insS z w = none → q.1 = 2 := by rw [← g4]; exact q2
      have q3' : ∀ x zf, insS z w = some (x, zf) → q.1 = 0 ∧ Mz zf (mZ q.2) ∧ mLn q.2 = nI x := by rw [← g4]; exact q3
      exact gd_inl ⟨q1, fun a => absurd g3.symm a, fun _ => ⟨q2', q3'⟩⟩
    · rw [if_neg ec] at g3 g4
      rw [if_neg ec, if_neg (nI_m1 (by omega)), gw_let]
      try dsimp only
      have e3 := h.chp ec
      have key2 : ∀ v8 : Int32, v8 = nI (min (k + 1) w.length) → Gd (Sx (fun k y => ∃ c, y = (nI c, nI k) ∧ z.K c = 1 ∧ D c = k ∧ Fz z D c (w.drop k) = Fz z D 0 w ∧ insF z (13 - k) c (w.drop k) = insS z w ∧ (c = 0 → w.drop k ≠ [])) (fun o : Int32 × MS => Az t o.2 ∧ (Fz z D 0 w ≠ 0 → o.1 = 1) ∧ (Fz z D 0 w = 0 → (insS z w = none → o.1 = 2) ∧ ∀ x zf, insS z w = some (x, zf) → o.1 = 0 ∧ Mz zf (mZ o.2) ∧ mLn o.2 = nI x)) 13 k)
          ((fM_isLeaf (nI (ch z c (hd0 (w.drop k)))) t).bind fun q10 =>
     if q10 = 0 then
      some (.inr (nI (ch z c (hd0 (w.drop k))), ((nI k) + (1 : Int32))))
     else
      gw_let (sMLn t (nI (ch z c (hd0 (w.drop k))))) fun t12 =>
      if inb ((640 : Int32) + (nI (ch z c (hd0 (w.drop k))))) 1361 then
      (fM_isEnd ra (mZ t12 ((640 : Int32) + (nI (ch z c (hd0 (w.drop k))))).toNatClampNeg) v8 (nI w.length) t12).bind fun q14 =>
      if q14 = 0 then
       (fM_split ra (nI (ch z c (hd0 (w.drop k)))) v8 (nI w.length) t12).bind fun q16 =>
       some (.inl (q16.1, q16.2))
      else
       some (.inl ((1 : Int32), t12))
      else none) := by
        rintro v8 rfl
        rw [z_isLeaf hs hz hch160]
        simp only [Option.bind_some]
        by_cases el : z.K (ch z c (hd0 (w.drop k))) = 2
        · rw [if_pos el] at g4
          rw [if_pos el, if_neg (by decide), gw_let]
          try dsimp only
          obtain ⟨hO, e, he, h40, hu⟩ := h.leaf el
          rw [i640, if_pos (inb_nI (by omega) (by omega))]
          have hE : mZ (sMLn t (nI (ch z c (hd0 (w.drop k))))) (nI (640 + ch z c (hd0 (w.drop k)))).toNatClampNeg = nI e := by
            rw [nI_clamp' (by omega)]
            show mZ t _ = _
            rw [hz.e _ hch160, he, eI_s]
          rw [hE]
          have hr' : Rw (ra (sMLn t (nI (ch z c (hd0 (w.drop k)))))) w := by
            rw [hA.r ((Az.refl t).ln _)]; exact hr
          rw [z_isEnd hs (t := sMLn t (nI (ch z c (hd0 (w.drop k))))) hz hw hr' h40 (Nat.min_le_right _ _), ← htail]
          simp only [Option.bind_some]
          rw [F_leaf h el, he, Nat.add_sub_cancel] at g3
          by_cases e4 : z.X e = (w.drop k).tail
          · rw [if_pos e4] at g3
            have hv : (if z.U e ≠ 0 ∧ z.X e = (w.drop k).tail then (1 : Int32) else 0) = 1 := if_pos ⟨hu, e4⟩
            rw [hv, if_neg (by decide)]
            exact gd_inl ⟨(Az.refl t).ln _, fun _ => rfl, fun a => absurd (g3.trans a) ec⟩
          · rw [if_neg e4] at g3
            have hv : (if z.U e ≠ 0 ∧ z.X e = (w.drop k).tail then (1 : Int32) else 0) = 0 := if_neg (fun a => e4 a.2)
            have hlne : hd0 (w.drop k) ≠ 0 := by
              intro q
              have q1 := (e3.2.2.2.2.2.2.2.1 q).2.2
              rw [he, Nat.add_sub_cancel] at q1
              exact e4 (by rw [q1, tl.1 q])
            rw [hv, if_pos rfl]
            have hsplit := z_split h (t := sMLn t (nI (ch z c (hd0 (w.drop k))))) hz hA hw hr' el (by rw [e3.2.2.1]; omega) (a := min (k + 1) w.length) (Nat.min_le_right _ _) (by rw [← htail, e3.2.2.2.2.2.2.1]; have := tl.2 (by omega); rw [List.length_drop] at this; omega) (by rw [← htail, he, Nat.add_sub_cancel]; exact e4)
            refine gd_bind hsplit ?_
            rintro q ⟨q1, q2, q3⟩
            rw [← htail, g4] at q2 q3
            exact gd_inl ⟨((Az.refl t).ln _).trans q1, fun a => absurd g3.symm a, fun _ => ⟨q2, q3⟩⟩
        · rw [if_neg el] at g4
          rw [if_neg el]
          first | rw [if_pos rfl] | rw [if_pos trivial]
          rw [nI_1]
          have hk1 : z.K (ch z c (hd0 (w.drop k))) = 1 := by have := h.k12 e3.1; omega
          have hD2 := (h.inn hk1).2.2.1
          refine gd_inr (by omega) ⟨_, rfl, hk1, by rw [e3.2.2.2.2.2.2.1, g2], ?_, ?_, fun a => absurd a ec⟩
          · rw [← g3, List.tail_drop]
          · rw [List.tail_drop] at g4
            rw [show 13 - (k + 1) = 12 - k by omega]; exact g4
      by_cases e5 : w.length ≤ k
      · rw [if_pos (nI_le e5 (by omega))]
        exact key2 _ (by rw [Nat.min_eq_right (by omega)])
      · rw [if_neg (nI_ge (by omega) (by omega))]
        exact key2 _ (by rw [nI_1, Nat.min_eq_left (by omega)])
  by_cases e5 : w.length ≤ k
  · rw [if_pos (nI_le e5 (by omega))]
    exact key _ (by rw [List.drop_eq_nil_of_le e5]; rfl)
  · rw [if_neg (nI_ge (by omega) (by omega)), if_pos (inb_nI (by omega) (by omega))]
    exact key _ (by rw [rw_at hr (by omega) (by omega)])
