/-! call by call: the changes -/
theorem s_add {q : PS} {m : MS} (h : Rl q m) : ∃ b m', fM_add m = some (b, m') ∧ ((∃ q', fP_add q = some (.inl (1, q')) ∧ mT m' = 1 ∧ Rl q' m') ∨ (∃ q', fP_add q = some (.inl (2, q')) ∧ mT m' = 2 ∧ Rl q' m') ∨ ∃ q', fP_add q = some (.inr (b, q')) ∧ mT m' = 0 ∧ Rl q' m') := by
  obtain ⟨z, D, w, n, hq, hs⟩ := h
  obtain ⟨h1, h2, h3, h4, h5, h6, h7, h8, h9, h10, h11⟩ := hq
  obtain ⟨c, hc, ⟨r, cr⟩, c3, c1, c2⟩ := t_tryToAdd h1 h2 h4 h5 h6
  obtain ⟨o, ho, oB, oS, o3, o1, o2⟩ := z_addIt h1 h3 h4 h7 h8
  have herr : ∀ (k : Int32) (f : Nat → Int32), Mz z f → Rq z D w n c.2 (sMZ (sMT o.2 k) f) := by
    intro k f hz
    rw [cr]
    exact ⟨h1, h2, hz, h4, h5, h6, by show Rw (mBu o.2) w; rw [oB.2.2.2.1]; exact h7, by show mTy o.2 = _; rw [oB.2.2.2.2.1]; exact h8, h9, by show mSm o.2 = _; rw [oB.2.2.1]; exact h10, h11⟩
  have hsv : Sv n q.2 (mSv o.2) := by rw [oB.2.1]; exact hs
  have herl : ∀ k : Int32, Mz z (mZ o.2) → Rl (c.2, q.2) (sMT o.2 k) := fun k hz => ⟨z, D, w, n, herr k _ hz, hsv⟩
  by_cases e : w = []
  · have c3' := c3 e
    obtain ⟨o3a, o3b⟩ := o3 e
    refine ⟨0, sMT o.2 1, ?_, Or.inl ⟨(c.2, q.2), ?_, rfl, herl 1 o3b⟩⟩
    · unfold fM_add
      rw [ho]
      simp only [Option.bind_some]
      rw [gw_let]
      try dsimp only
      rw [if_pos o3a, gw_let]
      try dsimp only
      rw [if_neg (show ¬ (1 : Int32) ≤ 0 by decide)]
    · unfold fP_add
      rw [hc]
      simp only [Option.bind_some]
      rw [gw_let]
      try dsimp only
      rw [if_pos c3']
  · by_cases eF : Fz z D 0 w = 0
    · obtain ⟨c2a, c2b⟩ := c2 e eF
      obtain ⟨o2a, o2b⟩ := o2 e eF
      cases hS : insS z w with
      | none =>
        have c2' := c2a hS
        obtain ⟨o2', o2z⟩ := o2a hS
        refine ⟨0, sMT o.2 2, ?_, Or.inr (Or.inl ⟨(c.2, q.2), ?_, rfl, herl 2 o2z⟩)⟩
        · unfold fM_add
          rw [ho]
          simp only [Option.bind_some]
          rw [gw_let]
          try dsimp only
          rw [if_neg (show ¬ o.1 = 3 by rw [o2']; decide), if_neg (show ¬ o.1 = 0 by rw [o2']; decide), gw_let]
          try dsimp only
          rw [if_neg (show ¬ (2 : Int32) ≤ 0 by decide)]
        · unfold fP_add
          rw [hc]
          simp only [Option.bind_some]
          rw [gw_let]
          try dsimp only
          rw [if_neg (show ¬ c.1 = 3 by rw [c2']; decide), if_neg (show ¬ c.1 = 1 by rw [c2']; decide), if_pos c2']
      | some v =>
        obtain ⟨x, zf⟩ := v
        obtain ⟨c2', cf⟩ := c2b x zf hS
        obtain ⟨o2', o2z, o2x⟩ := o2b x zf hS
        obtain ⟨Df, f1, f2, f3⟩ := ins_ok h1 h4 e eF hS
        obtain ⟨m3, hm3, f, em3, hf⟩ := z_bringBack (sMT o.2 0)
        have hz3 : Mz z f := Mz_congr (show Mz z (mSp (sMT o.2 0)) from oS) hf
        have hq3 : Rq z D w n c.2 m3 := by rw [em3]; exact herr 0 f hz3
        have hs3 : Sv n q.2 (mSv m3) := by rw [em3]; exact hsv
        have hT3 : mT m3 = 0 := by rw [em3]
        obtain ⟨n', q', hq', k1, k2, k3, k4, m4, hm4, ⟨f4, x4, e4⟩, g1, g2⟩ := rl_save (q := (c.2, q.2)) hq3 hs3
        obtain ⟨p1, p2, p3, p4, p5, p6, p7, p8, p9, p10, p11⟩ := g1
        obtain ⟨o5, ho5, b5, s5, _, _, o5c⟩ := z_addIt p1 p3 p4 p7 p8
        obtain ⟨o5', o5z, o5x⟩ := (o5c e eF).2 x zf hS
        have hT5 : mT o5.2 = 0 := by rw [b5.1, e4]; exact hT3
        have hR : Ht zf (Wz zf Df) (qR q'.1) := by rw [k2]; exact cf Df f1
        have hx0 : x ≠ 0 := fun a => by
          have := f1.root.1
          have := f2.1
          rw [a] at this; omega
        have hx : Fz zf Df 0 w = x := F_T f1 0 (by rw [f1.root.1]; omega) x w ((Hw_T f1).mp f2)
        have hleaf : fT_leafOf (qB q'.1) (qR q'.1) = some (nI x) := by
          rw [p5, t_leafOf f1 hR h4, hx, nz_1 hx0]
        refine ⟨nI x, o5.2, ?_, Or.inr (Or.inr ⟨(sQT q'.1 (qR q'.1), q'.2), ?_, hT5, zf, Df, w, n', ⟨f1, hR, o5z, p4, p5, p6, ?_, ?_, p9, ?_, p11⟩, ?_⟩)⟩
        · unfold fM_add
          rw [ho]
          simp only [Option.bind_some]
          rw [gw_let]
          try dsimp only
          rw [if_neg (show ¬ o.1 = 3 by rw [o2']; decide), if_pos o2', gw_let]
          try dsimp only
          rw [if_pos (show (0 : Int32) ≤ 0 by decide), gw_let]
          try dsimp only
          rw [show fM_bringBack (sMT o.2 0) = some m3 from hm3]
          simp only [Option.bind_some]
          rw [hm4]
          simp only [Option.bind_some]
          rw [ho5]
          simp only [Option.bind_some]
          rw [o2x]
        · unfold fP_add
          rw [hc]
          simp only [Option.bind_some]
          rw [gw_let]
          try dsimp only
          rw [if_neg (show ¬ c.1 = 3 by rw [c2']; decide), if_neg (show ¬ c.1 = 1 by rw [c2']; decide), if_neg (show ¬ c.1 = 2 by rw [c2']; decide), show fP_saveState (c.2, q.2) = some q' from hq']
          simp only [Option.bind_some]
          rw [gw_let]
          try dsimp only
          rw [gw_let]
          try dsimp only
          rw [show fT_leafOf (qB q'.1) (fT_copyFrom (qT q'.1) (qR q'.1)) = some (nI x) from hleaf]
          rfl
        · rw [b5.2.2.2.1]; exact p7
        · rw [b5.2.2.2.2.1]; exact p8
        · rw [b5.2.2.1]; exact p10
        · rw [b5.2.1]; exact g2
    · have c1' := c1 e eF
      obtain ⟨o1', o1z⟩ := o1 e eF
      refine ⟨0, sMT o.2 2, ?_, Or.inr (Or.inl ⟨(c.2, q.2), ?_, rfl, herl 2 o1z⟩)⟩
      · unfold fM_add
        rw [ho]
        simp only [Option.bind_some]
        rw [gw_let]
        try dsimp only
        rw [if_neg (show ¬ o.1 = 3 by rw [o1']; decide), if_neg (show ¬ o.1 = 0 by rw [o1']; decide), gw_let]
        try dsimp only
        rw [if_neg (show ¬ (2 : Int32) ≤ 0 by decide)]
      · unfold fP_add
        rw [hc]
        simp only [Option.bind_some]
        rw [gw_let]
        try dsimp only
        rw [if_neg (show ¬ c.1 = 3 by rw [c1']; decide), if_pos c1']
theorem s_remove {q : PS} {m : MS} (h : Rl q m) : ∃ b m', fM_remove m = some (b, m') ∧ ((fP_remove q = some (.inl (1, q)) ∧ mT m' = 1 ∧ Rl q m') ∨ (fP_remove q = some (.inl (2, q)) ∧ mT m' = 2 ∧ Rl q m') ∨ ∃ q', fP_remove q = some (.inr (b, q')) ∧ mT m' = 0 ∧ Rl q' m') := by
  have hl := h
  obtain ⟨z, D, w, n, hq, hs⟩ := h
  have hq' : Rq z D w n q.1 (sMT m 0) := hq
  obtain ⟨h1, h2, h3, h4, h5, h6, h7, h8, h9, h10, h11⟩ := hq
  have hw12 := h4.1
  have hm0 : fM_leafOf mBu (mTy m) m = some (if w = [] then -1 else nz (Fz z D 0 w)) := by
    rw [h8]; exact z_leafOf h1 h3 h4 h7
  by_cases e : w = []
  · refine ⟨0, sMT m 1, ?_, Or.inl ⟨?_, rfl, hl⟩⟩
    · unfold fM_remove
      rw [hm0]
      simp only [Option.bind_some]
      rw [gw_let]
      try dsimp only
      rw [if_pos (show mTy m = 0 by rw [h8, e]; rfl), gw_let]
      try dsimp only
      rw [if_neg (show ¬ (1 : Int32) ≤ 0 by decide)]
    · unfold fP_remove
      rw [if_pos (show qL q.1 = 0 by rw [h6, e]; rfl)]
  · have hl0 : w.length ≠ 0 := fun a => e (List.eq_nil_of_length_eq_zero a)
    rw [if_neg e] at hm0
    have hmT : ¬ mTy m = 0 := by rw [h8]; exact nI_ne0 (by omega) (by omega)
    have hqL : ¬ qL q.1 = 0 := by rw [h6]; exact nI_ne0 (by omega) (by omega)
    have hlf : fT_leafOf (qB q.1) (qT q.1) = some (nz (Fz z D 0 w)) := by rw [h5]; exact t_leafOf h1 h2 h4
    by_cases eF : Fz z D 0 w = 0
    · rw [eF, nz_0] at hm0 hlf
      refine ⟨0, sMT m 2, ?_, Or.inr (Or.inl ⟨?_, rfl, hl⟩)⟩
      · unfold fM_remove
        rw [hm0]
        simp only [Option.bind_some]
        rw [gw_let]
        try dsimp only
        rw [if_neg hmT]
        first | rw [if_pos rfl] | rw [if_pos trivial]
        rw [gw_let]
        try dsimp only
        rw [if_neg (show ¬ (2 : Int32) ≤ 0 by decide)]
      · unfold fP_remove
        rw [if_neg hqL, hlf]
        simp only [Option.bind_some]
        first | rw [if_pos rfl] | rw [if_pos trivial] | rfl
    · rw [nz_1 eF] at hm0 hlf
      have hmem := T_F h1 0 (by rw [h1.root.1]; omega) _ w (fun l hl => (h4.2 l hl).1) rfl eF
      have hk := (T_in h1 0 (by rw [h1.root.1]; omega) _ _ hmem).1
      have hlt := h1.lt (c := Fz z D 0 w) (by omega)
      generalize Fz z D 0 w = x at *
      have hx1 : ¬ nI x = -1 := nI_m1 (by omega)
      obtain ⟨n', q1, hq1, k1, k2, k3, k4, m4, hm4, ⟨f4, x4, e4⟩, g1, g2⟩ := rl_save hq' hs
      obtain ⟨p1, p2, p3, p4, p5, p6, p7, p8, p9, p10, p11⟩ := g1
      obtain ⟨c, hc, ca, cb⟩ := t_freeLeaf p1 p2 hk
      obtain ⟨o, ho, oa, f, ob, oc⟩ := z_removeLeaf p1 p3 hk
      have hrem := (rem_ok p1 hk).1
      refine ⟨nI (remS z x).1, o.2, ?_, Or.inr (Or.inr ⟨(sQT q1.1 c.2, q1.2), ?_, ?_, (remS z x).2, D, w, n', ⟨hrem, cb, ?_, p4, p5, p6, ?_, ?_, p9, ?_, p11⟩, ?_⟩)⟩
      · unfold fM_remove
        rw [hm0]
        simp only [Option.bind_some]
        rw [gw_let]
        try dsimp only
        rw [if_neg hmT, if_neg hx1, gw_let]
        try dsimp only
        rw [if_pos (show (0 : Int32) ≤ 0 by decide), show fM_save (sMT m 0) = some m4 from hm4]
        simp only [Option.bind_some]
        rw [ho]
        simp only [Option.bind_some]
        rw [oa]
      · unfold fP_remove
        rw [if_neg hqL, hlf]
        simp only [Option.bind_some]
        rw [if_neg hx1, hq1]
        simp only [Option.bind_some]
        rw [hc]
        simp only [Option.bind_some]
        rw [gw_let]
        try dsimp only
        rw [ca]
      · rw [ob, e4]
      · rw [ob]; exact oc
      · rw [ob]; exact p7
      · rw [ob]; exact p8
      · rw [ob]; exact p10
      · rw [ob]; exact g2
theorem s_removeAll {q : PS} {m : MS} (h : Rl q m) : ∃ b m' q', fM_removeAll m = some (b, m') ∧ fP_removeAll q = some (b, q') ∧ mT m' = 0 ∧ Rl q' m' := by
  obtain ⟨z, D, w, n, hq, hs⟩ := h
  have hq' : Rq z D w n q.1 (sMT m 0) := hq
  obtain ⟨h1, h2, h3, h4, h5, h6, h7, h8, h9, h10, h11⟩ := hq
  obtain ⟨n', q1, hq1, k1, k2, k3, k4, m4, hm4, ⟨f4, x4, e4⟩, g1, g2⟩ := rl_save hq' hs
  obtain ⟨p1, p2, p3, p4, p5, p6, p7, p8, p9, p10, p11⟩ := g1
  obtain ⟨c, hc, ca, t', cb, cc⟩ := t_removeAll h1 h2 h4 h5 hq1 k1 k3
  obtain ⟨o, ho, oa, f, m2, ob, oc, od⟩ := z_removeAll h1 h4 hm4 p3 p7 p8
  have hz := oc.z
  have hb := oc.bz
  have hT2 : mT m2 = 0 := by
    rw [hb.1]
    show mT m4 = 0
    rw [e4]
  refine ⟨o.1, m2, c.2, ?_, ?_, hT2, ?_⟩
  · rw [ho, ← ob]
  · rw [hc, oa, ← ca]
  · rw [cb]
    refine ⟨raF D w (nM w (Tz z D 0)) z, D, w, n', ⟨ra_ok h4 _ z h1, cc, by rw [hz]; exact od, p4, p5, p6, ?_, ?_, p9, ?_, p11⟩, ?_⟩
    · rw [hb.2.2.2.1]; exact p7
    · rw [hb.2.2.2.2.1]; exact p8
    · rw [hb.2.2.1]; exact p10
    · rw [hb.2.1]; exact g2
theorem s_pack {q : PS} {m : MS} (h : Rl q m) : ∃ b m', fM_pack m = some (b, m') ∧ ((∃ q', fP_pack q = some (.inl (2, q')) ∧ mT m' = 1 ∧ Rl q' m') ∨ ∃ q', fP_pack q = some (.inr (b, q')) ∧ mT m' = 0 ∧ Rl q' m') := by
  obtain ⟨z, D, w, n, hq, hs⟩ := h
  obtain ⟨h1, h2, h3, h4, h5, h6, h7, h8, h9, h10, h11⟩ := hq
  obtain ⟨c, hc, c1, c2⟩ := t_packFrom (t := qR q.1) h1 h2
  obtain ⟨m1, hm1, f0, em1, hf0⟩ := z_putAside m
  have hsp : Mz z f0 := Mz_congr h3 hf0
  have hz1 : Mz z (mZ m1) := by rw [em1]; exact h3
  obtain ⟨o, ho, oP, o1, o2⟩ := z_packIt h1 hz1
  have hbk : ∀ k : Int32, ∃ m3, fM_bringBack (sMT o.2 k) = some m3 ∧ mT m3 = k ∧ Rq z D w n (sQR q.1 c.2) m3 ∧ Sv n q.2 (mSv m3) := by
    intro k
    obtain ⟨m3, hm3, f, em3, hf⟩ := z_bringBack (sMT o.2 k)
    have hsp2 : mSp o.2 = f0 := by rw [oP.2.2.2.1, em1]
    have hz3 : Mz z f := Mz_congr hsp (fun j hj => by rw [hf j hj, ← hsp2])
    refine ⟨m3, hm3, by rw [em3], ⟨h1, h2, by rw [em3]; exact hz3, h4, h5, h6, ?_, ?_, h9, ?_, h11⟩, ?_⟩
    · rw [em3]
      show Rw (mBu o.2) w
      rw [oP.2.2.2.2.1, em1]; exact h7
    · rw [em3]
      show mTy o.2 = _
      rw [oP.2.2.2.2.2.1, em1]; exact h8
    · rw [em3]
      show mSm o.2 = _
      rw [oP.2.2.1, em1]; exact h10
    · rw [em3]
      show Sv n q.2 (mSv o.2)
      rw [oP.2.1, em1]; exact hs
  have hu : fM_used m = some (nI (usd z)) := z_used h1.sml h3
  cases hP : pkF (Tz z D 0) (clrS z.M) with
  | none =>
    obtain ⟨m3, hm3, hT3, hR3, hS3⟩ := hbk 1
    refine ⟨0, m3, ?_, Or.inl ⟨(sQR q.1 c.2, q.2), ?_, hT3, z, D, w, n, hR3, hS3⟩⟩
    · unfold fM_pack
      rw [hu]
      simp only [Option.bind_some]
      rw [hm1]
      simp only [Option.bind_some]
      rw [ho]
      simp only [Option.bind_some]
      rw [gw_let]
      try dsimp only
      rw [if_pos (o1 hP), gw_let]
      try dsimp only
      rw [show fM_bringBack (sMT o.2 1) = some m3 from hm3]
      simp only [Option.bind_some]
      rw [if_neg (show ¬ mT m3 ≤ 0 by rw [hT3]; decide)]
    · unfold fP_pack
      rw [hc]
      simp only [Option.bind_some]
      rw [gw_let]
      try dsimp only
      rw [if_pos (c1 hP)]
  | some zf =>
    obtain ⟨c1', Df, c2a, c2b⟩ := c2 zf hP
    obtain ⟨o1', o2z⟩ := o2 zf hP
    obtain ⟨m3, hm3, hT3, hR3, hS3⟩ := hbk 0
    obtain ⟨u1, u2, u3⟩ := usd_1 c2a
    obtain ⟨n', q1, hq1, k1, k2, k3, k4, m4, hm4, ⟨f4, x4, e4⟩, g1, g2⟩ := rl_save (q := (sQR q.1 c.2, q.2)) hR3 hS3
    obtain ⟨p1, p2, p3, p4, p5, p6, p7, p8, p9, p10, p11⟩ := g1
    obtain ⟨o5, ho5, b5, _, o5c⟩ := z_packIt p1 p3
    obtain ⟨o5', o5z⟩ := o5c zf hP
    have hu5 : fM_used o5.2 = some (nI (usd zf)) := z_used c2a.sml o5z
    have hT5 : mT o5.2 = 0 := by rw [b5.1, e4]; exact hT3
    have hR : Ht zf (Wz zf Df) (qR q1.1) := by rw [k2]; exact c2b
    refine ⟨nI (usd z) - nI (usd zf) + 1000, o5.2, ?_, Or.inr ⟨(sQT q1.1 (qR q1.1), q1.2), ?_, hT5, zf, Df, w, n', ⟨c2a, hR, o5z, p4, p5, p6, ?_, ?_, p9, ?_, p11⟩, ?_⟩⟩
    · unfold fM_pack
      rw [hu]
      simp only [Option.bind_some]
      rw [hm1]
      simp only [Option.bind_some]
      rw [ho]
      simp only [Option.bind_some]
      rw [gw_let]
      try dsimp only
      rw [if_neg (show ¬ o.1 = 0 by rw [o1']; decide), gw_let]
      try dsimp only
      rw [show fM_bringBack (sMT o.2 0) = some m3 from hm3]
      simp only [Option.bind_some]
      rw [if_pos (show mT m3 ≤ 0 by rw [hT3]; decide), hm4]
      simp only [Option.bind_some]
      rw [ho5]
      simp only [Option.bind_some]
      rw [hu5]
      rfl
    · unfold fP_pack
      rw [hc]
      simp only [Option.bind_some]
      rw [gw_let]
      try dsimp only
      rw [if_neg (show ¬ c.1 = -1 by rw [c1']; exact nI_m1 (by omega)), show fT_usedCells (qT q.1) = some (nI (usd z)) from t_usedCells h1.sml h2]
      simp only [Option.bind_some]
      rw [gw_let]
      try dsimp only
      rw [show fP_saveState (sQR q.1 c.2, q.2) = some q1 from hq1]
      simp only [Option.bind_some]
      rw [gw_let]
      try dsimp only
      rw [gw_let]
      try dsimp only
      rw [c1']
      rfl
    · rw [b5.2.2.2.2.1]; exact p7
    · rw [b5.2.2.2.2.2.1]; exact p8
    · rw [b5.2.2.1]; exact p10
    · rw [b5.2.1]; exact g2
theorem s_undo {q : PS} {m : MS} (h : Rl q m) : ∃ b m', fM_undo m = some (b, m') ∧ ((qN q.1 = nI 0 ∧ mT m' = 1 ∧ Rl q m') ∨ ∃ n, n < 6 ∧ qN q.1 = nI (n + 1) ∧ b = nI n ∧ mT m' = 0 ∧ Rl (sQT (sQN q.1 (nI n)) (q.2.2 n), q.2) m') := by
  have hl := h
  obtain ⟨z, D, w, n, hq, hs⟩ := h
  obtain ⟨h1, h2, h3, h4, h5, h6, h7, h8, h9, h10, h11⟩ := hq
  by_cases e : n = 0
  · refine ⟨0, sMT m 1, ?_, Or.inl ⟨by rw [h9, e], rfl, hl⟩⟩
    unfold fM_undo
    rw [gw_let]
    try dsimp only
    rw [if_pos (show mSm m = 0 by rw [h10, e]; rfl), gw_let]
    try dsimp only
    rw [if_neg (show ¬ (1 : Int32) ≤ 0 by decide)]
  · obtain ⟨k, rfl⟩ : ∃ k, n = k + 1 := ⟨n - 1, by omega⟩
    obtain ⟨zk, Dk, a1, a2, a3⟩ := hs k (by omega)
    have hg : Gd (fun o => o.1 = nI k ∧ ∃ f, o.2 = sMZ (sMSm (sMT m 0) (nI k)) f ∧ ∀ j, j < 1361 → f j = mSv m (k * 1361 + j)) (fM_undo m) := by
      unfold fM_undo
      rw [gw_let]
      try dsimp only
      rw [if_neg (show ¬ mSm m = 0 by rw [h10]; exact nI_ne0 (by omega) (by omega)), gw_let]
      try dsimp only
      rw [if_pos (show (0 : Int32) ≤ 0 by decide), gw_let]
      try dsimp only
      have hS : mSm m - 1 = nI k := by rw [h10, nI_pred]
      rw [hS]
      refine gd_bind (P := fun m' => ∃ f, m' = sMZ (sMSm (sMT m 0) (nI k)) f ∧ ∀ j, j < 1361 → f j = mSv m (k * 1361 + j)) ?_ ?_
      · refine gd_lp (fun i y => ∃ f, y = (nI i, sMZ (sMSm (sMT m 0) (nI k)) f) ∧ ∀ j, j < i → f j = mSv m (k * 1361 + j)) 1361 ⟨mZ m, rfl, fun j hj => absurd hj (Nat.not_lt_zero j)⟩ ?_ (by omega)
        rintro i y hi ⟨f, rfl, g1⟩
        try dsimp only
        by_cases e : i = 1361
        · subst e
          rw [if_pos (show (1361 : Int32) ≤ nI 1361 by decide)]
          exact gd_inl ⟨f, rfl, g1⟩
        · have hx : nI k * (1361 : Int32) + nI i = nI (k * 1361 + i) := by
            rw [show (1361 : Int32) = nI 1361 by rfl, nI_mul, nI_add]
          rw [if_neg (show ¬ (1361 : Int32) ≤ nI i from nI_ge (b := 1361) (by omega) (by omega)), if_pos (show inb (nI k * (1361 : Int32) + nI i) 8166 by rw [hx]; exact inb_nI (by omega) (by omega)), if_pos (inb_nI (by omega) (by omega)), gw_let, nI_1]
          refine gd_inr (by omega) ⟨upd f i (mSv m (k * 1361 + i)), ?_, fun j hj => ?_⟩
          · show (nI (i + 1), sMZ (sMSm (sMT m 0) (nI k)) (upd f (nI i).toNatClampNeg (mSv m (nI k * (1361 : Int32) + nI i).toNatClampNeg))) = _
            rw [hx, upd_nI _ (by omega), nI_clamp' (by omega)]
          · by_cases ej : j = i
            · rw [ej, upd_eq]
            · rw [upd_ne _ _ ej]; exact g1 j (by omega)
      · rintro m' ⟨f, rfl, g1⟩
        exact gd_some ⟨rfl, f, rfl, g1⟩
    obtain ⟨o, ho, oa, f, ob, oc⟩ := hg
    refine ⟨o.1, o.2, ho, Or.inr ⟨k, by omega, h9, oa, by rw [ob], zk, Dk, w, k, ⟨a1, a2, ?_, h4, h5, h6, ?_, ?_, rfl, ?_, by omega⟩, ?_⟩⟩
    · rw [ob]; exact Mz_congr a3 oc
    · rw [ob]; exact h7
    · rw [ob]; exact h8
    · rw [ob]
    · rw [ob]; exact fun i hi => hs i (by omega)
