/-! call by call: the class and the model answer alike -/
theorem in_no {p a b : Int32} (h : p < a ∨ b < p) : fM_in p a b = 0 := by
  unfold fM_in
  by_cases e : p < a
  · rw [if_pos e]
  · rw [if_neg e, if_pos (h.resolve_left e)]
theorem in_yes {p a b : Int32} (h1 : ¬ p < a) (h2 : ¬ b < p) : fM_in p a b = 1 := by
  unfold fM_in
  rw [if_neg h1, if_neg h2]
theorem in_ne {p a b : Int32} (h1 : ¬ p < a) (h2 : ¬ b < p) : ¬ fM_in p a b = 0 := by rw [in_yes h1 h2]; decide
theorem i32_le {a b : Int32} : a ≤ b ↔ ¬ b < a := by
  rw [Int32.le_iff_toInt_le, Int32.lt_iff_toInt_lt]; omega
theorem i32_rng {p : Int32} {a b : Nat} (hb : b < 2147483648) (h1 : ¬ p < nI a) (h2 : ¬ nI b < p) (ha : a < 2147483648) : ∃ k, a ≤ k ∧ k ≤ b ∧ p = nI k := by
  have h0 : ¬ p < 0 := by
    rw [Int32.lt_iff_toInt_lt, nI_toInt (by omega)] at h1
    rw [Int32.lt_iff_toInt_lt, Int32.toInt_zero]; omega
  obtain ⟨k, hk, rfl⟩ := nI_of h0
  refine ⟨k, ?_, ?_, rfl⟩
  · rw [nI_lt_iff (by omega) ha] at h1; omega
  · rw [nI_lt_iff hb (by omega)] at h2; omega
theorem s_append {q : PS} {m : MS} (h : Rl q m) (p : Int32) : ∃ b m', fM_append p m = some (b, m') ∧ ((fP_append p q.1 = some (.inl (1, q.1)) ∧ mT m' = 1 ∧ Rl q m') ∨ (fP_append p q.1 = some (.inl (2, q.1)) ∧ mT m' = 2 ∧ Rl q m') ∨ ∃ t', fP_append p q.1 = some (.inr (b, t')) ∧ mT m' = 0 ∧ Rl (t', q.2) m') := by
  obtain ⟨z, D, w, n, ⟨h1, h2, h3, h4, h5, h6, h7, h8, h9, h10, h11⟩, hs⟩ := h
  have hl : Rl q m := ⟨z, D, w, n, ⟨h1, h2, h3, h4, h5, h6, h7, h8, h9, h10, h11⟩, hs⟩
  have hw12 := h4.1
  by_cases e : p < nI 1 ∨ nI 8 < p
  · refine ⟨0, sMT m 1, ?_, Or.inl ⟨?_, rfl, hl⟩⟩
    · unfold fM_append
      rw [gw_let]
      try dsimp only
      rw [if_pos (show fM_in p 1 8 = 0 from in_no e)]
      rw [gw_let]
      try dsimp only
      rw [if_neg (show ¬ (1 : Int32) ≤ 0 by decide)]
    · unfold fP_append
      rw [gw_let]
      try dsimp only
      by_cases e1 : p < nI 1
      · rw [if_pos (show p < (1 : Int32) from e1)]
      · rw [if_neg (show ¬ p < (1 : Int32) from e1), if_neg (show ¬ p ≤ (8 : Int32) from fun a => i32_le.mp a (e.resolve_left e1))]
  · have e1 : ¬ p < nI 1 := fun a => e (Or.inl a)
    have e2 : ¬ nI 8 < p := fun a => e (Or.inr a)
    obtain ⟨l, hl1, hl8, rfl⟩ := i32_rng (by omega) e1 e2 (by omega)
    by_cases e3 : w.length = 12
    · refine ⟨0, sMT m 2, ?_, Or.inr (Or.inl ⟨?_, rfl, hl⟩)⟩
      · unfold fM_append
        rw [gw_let]
        try dsimp only
        rw [if_neg (show ¬ fM_in (nI l) 1 8 = 0 from in_ne e1 e2), if_pos (show mTy m = (12 : Int32) by rw [h8, e3]; rfl)]
        rw [gw_let]
        try dsimp only
        rw [if_neg (show ¬ (2 : Int32) ≤ 0 by decide)]
      · unfold fP_append
        rw [gw_let]
        try dsimp only
        rw [if_neg (show ¬ nI l < (1 : Int32) from e1), if_pos (show nI l ≤ (8 : Int32) from i32_le.mpr e2), h6, e3, if_neg (by decide)]
    · have hm : fM_append (nI l) m = some (nI (w.length + 1), sMTy (sMBu (sMT m 0) (upd (mBu m) w.length (nI l))) (nI (w.length + 1))) := by
        unfold fM_append
        rw [gw_let]
        try dsimp only
        rw [if_neg (show ¬ fM_in (nI l) 1 8 = 0 from in_ne e1 e2), if_neg (show ¬ mTy m = (12 : Int32) by rw [h8]; exact fun a => e3 (nI_inj (b := 12) (by omega) (by omega) a))]
        rw [gw_let]
        try dsimp only
        rw [if_pos (show (0 : Int32) ≤ 0 by decide)]
        have hty : mTy (sMT m 0) = nI w.length := h8
        rw [hty, if_pos (inb_nI (by omega) (by omega))]
        rw [gw_let]
        try dsimp only
        rw [gw_let]
        try dsimp only
        rw [upd_nI _ (by omega)]
        have hty2 : mTy (sMBu (sMT m 0) (upd (mBu (sMT m 0)) w.length (nI l))) + 1 = nI (w.length + 1) := by
          show mTy m + 1 = _
          rw [h8, nI_1]
        rw [hty2]
      refine ⟨_, _, hm, Or.inr (Or.inr ⟨sQL (sQB q.1 (lN (enc (w ++ [l])))) (nI (w ++ [l]).length), ?_, rfl, ?_⟩)⟩
      · unfold fP_append
        rw [gw_let]
        try dsimp only
        rw [if_neg (show ¬ nI l < (1 : Int32) from e1), if_pos (show nI l ≤ (8 : Int32) from i32_le.mpr e2), h6, if_pos (show nI w.length < (12 : Int32) from nI_lt (b := 12) (by omega) (by omega))]
        rw [gw_let]
        try dsimp only
        rw [gw_let]
        try dsimp only
        rw [h5, withLetter_e h4 hl8 (by omega)]
        have hq : qL (sQB q.1 (lN (enc (w ++ [l])))) + 1 = nI (w ++ [l]).length := by
          show qL q.1 + 1 = _
          rw [h6, nI_1, List.length_append, List.length_singleton]
        rw [hq, List.length_append, List.length_singleton]
      · refine ⟨z, D, w ++ [l], n, ⟨h1, h2, h3, ⟨by rw [List.length_append, List.length_singleton]; omega, ?_⟩, rfl, rfl, ?_, ?_, h9, h10, h11⟩, hs⟩
        · intro x hx
          rcases List.mem_append.mp hx with hx | hx
          · exact h4.2 x hx
          · rw [List.mem_singleton] at hx; omega
        · intro i hi
          rw [List.length_append, List.length_singleton] at hi
          show upd (mBu m) w.length (nI l) i = _
          by_cases ei : i = w.length
          · subst ei
            have := hd0_app (v := w) (u := [l]) 0
            rw [Nat.add_zero] at this
            rw [upd_eq, this]; rfl
          · rw [upd_ne _ _ ei, h7 i (by omega), drop_hd (show i < w.length by omega), drop_hd (show i < (w ++ [l]).length by rw [List.length_append, List.length_singleton]; omega)]
            show nI (hd0 (w.drop i)) = nI (hd0 ((w ++ [l]).drop i))
            rw [List.drop_append_of_le_length (by omega)]
            rw [drop_hd (show i < w.length by omega)]
            rfl
        · show nI (w.length + 1) = nI (w ++ [l]).length
          rw [List.length_append, List.length_singleton]
theorem s_clearBuffer {q : PS} {m : MS} (h : Rl q m) : ∃ b m' t', fM_clearBuffer m = (b, m') ∧ fP_clearBuffer q.1 = (b, t') ∧ mT m' = 0 ∧ Rl (t', q.2) m' := by
  obtain ⟨z, D, w, n, ⟨h1, h2, h3, h4, h5, h6, h7, h8, h9, h10, h11⟩, hs⟩ := h
  refine ⟨nI w.length, sMTy (sMT m 0) 0, sQL (sQB q.1 0) 0, ?_, ?_, rfl, z, D, [], n, ⟨h1, h2, h3, okw_nil, rfl, rfl, fun i hi => absurd hi (Nat.not_lt_zero i), rfl, h9, h10, h11⟩, hs⟩
  · rw [← h8]; rfl
  · rw [← h6]; rfl
theorem s_drop {q : PS} {m : MS} (h : Rl q m) : ∃ b m', fM_drop m = some (b, m') ∧ ((fP_drop q.1 = some (.inl (2, q.1)) ∧ mT m' = 1 ∧ Rl q m') ∨ ∃ t', fP_drop q.1 = some (.inr (b, t')) ∧ mT m' = 0 ∧ Rl (t', q.2) m') := by
  obtain ⟨z, D, w, n, ⟨h1, h2, h3, h4, h5, h6, h7, h8, h9, h10, h11⟩, hs⟩ := h
  have hl : Rl q m := ⟨z, D, w, n, ⟨h1, h2, h3, h4, h5, h6, h7, h8, h9, h10, h11⟩, hs⟩
  have hw12 := h4.1
  by_cases e : w = []
  · subst e
    refine ⟨0, sMT m 1, ?_, Or.inl ⟨?_, rfl, hl⟩⟩
    · unfold fM_drop
      rw [gw_let]
      try dsimp only
      rw [if_pos (show mTy m = 0 from h8)]
      rw [gw_let]
      try dsimp only
      rw [if_neg (show ¬ (1 : Int32) ≤ 0 by decide)]
    · unfold fP_drop
      rw [h6, if_neg (by decide)]
  · have hl0 : w.length ≠ 0 := fun a => e (List.eq_nil_of_length_eq_zero a)
    obtain ⟨k, hk⟩ : ∃ k, w.length = k + 1 := ⟨w.length - 1, by omega⟩
    have hlast : w.drop k = [hd0 (w.drop k)] := by
      have e1 : w.drop (k + 1) = [] := List.drop_eq_nil_of_le (by omega)
      have e2 := drop_hd (show k < w.length by omega)
      rw [e1] at e2
      rw [e2]
      rfl
    refine ⟨nI (hd0 (w.drop k)), sMTy (sMT m 0) (nI k), ?_, Or.inr ⟨sQB (sQL q.1 (nI k)) (lN (enc (w.take k))), ?_, rfl, ?_⟩⟩
    · unfold fM_drop
      rw [gw_let]
      try dsimp only
      rw [if_neg (show ¬ mTy m = 0 by rw [h8]; exact nI_ne0 (by omega) (by omega))]
      rw [gw_let]
      try dsimp only
      rw [if_pos (show (0 : Int32) ≤ 0 by decide)]
      rw [gw_let]
      try dsimp only
      have hty : mTy (sMT m 0) - 1 = nI k := by
        show mTy m - 1 = _
        rw [h8, hk, nI_pred]
      rw [hty]
      have hty2 : mTy (sMTy (sMT m 0) (nI k)) = nI k := rfl
      rw [hty2, if_pos (inb_nI (by omega) (by omega))]
      have hb : mBu (sMTy (sMT m 0) (nI k)) (nI k).toNatClampNeg = nI (hd0 (w.drop k)) := rw_at h7 (by omega) (by omega)
      rw [hb]
    · unfold fP_drop
      rw [h6, hk, if_pos (show (0 : Int32) < nI (k + 1) from nI_lt (a := 0) (by omega) (by omega))]
      rw [gw_let]
      try dsimp only
      rw [gw_let]
      try dsimp only
      rw [gw_let]
      try dsimp only
      rw [nI_pred]
      have hq : qB (sQL q.1 (nI k)) = lN (enc w) := h5
      have hq2 : qL (sQL q.1 (nI k)) = nI k := rfl
      rw [hq, hq2, letterAt_e h4 (by omega), startOf_e h4 (by omega)]
    · have htl : (w.take k).length = k := by rw [List.length_take]; omega
      refine ⟨z, D, w.take k, n, ⟨h1, h2, h3, okw_take h4 k, rfl, by rw [htl], ?_, by rw [htl], h9, h10, h11⟩, hs⟩
      intro i hi
      rw [htl] at hi
      show mBu m i = _
      rw [h7 i (by omega), drop_hd (show i < w.length by omega), drop_hd (show i < (w.take k).length by omega)]
      show nI (hd0 (w.drop i)) = nI (hd0 ((w.take k).drop i))
      have : (w.take k).drop i = (w.drop i).take (k - i) := by rw [List.drop_take]
      rw [this, drop_hd (show i < w.length by omega), show k - i = (k - i - 1) + 1 by omega, List.take_succ_cons]
      rfl
theorem s_find {q : PS} {m : MS} (h : Rl q m) : ∃ b m', fM_find m = some (b, m') ∧ fP_find q.1 = some b ∧ mT m' = 0 ∧ Rl q m' := by
  have hl := h
  obtain ⟨z, D, w, n, ⟨h1, h2, h3, h4, h5, h6, h7, h8, h9, h10, h11⟩, hs⟩ := h
  refine ⟨nz (Fz z D 0 w), sMT m 0, ?_, ?_, rfl, hl⟩
  · unfold fM_find
    rw [gw_let]
    try dsimp only
    rw [show mTy (sMT m 0) = nI w.length from h8, z_leafOf h1 (t := sMT m 0) h3 h4 h7]
    simp only [Option.bind_some]
    by_cases e : w = []
    · subst e
      rw [if_pos rfl]
      have : Fz z D 0 [] = 0 := by rw [F_inner h1 h1.root.1, show hd0 [] = 0 from rfl, h1.ch00, if_pos rfl]
      rw [this]; rfl
    · rw [if_neg e]
  · unfold fP_find
    rw [h5, t_leafOf h1 h2 h4]
    rfl
theorem s_longest {q : PS} {m : MS} (h : Rl q m) : ∃ b m', fM_longest m = some (b, m') ∧ fP_longest q.1 = some b ∧ mT m' = 0 ∧ Rl q m' := by
  have hl := h
  obtain ⟨z, D, w, n, ⟨h1, h2, h3, h4, h5, h6, h7, h8, h9, h10, h11⟩, hs⟩ := h
  have hg : Gd (fun o => o.1 = eI (lgs w (Tz z D 0) 0) ∧ Lz (sMT m 0) o.2) (fM_longest m) := by
    unfold fM_longest
    rw [gw_let]
    try dsimp only
    exact gd_bind (z_longest h1 (t := sMT m 0) h3 h4 h7 h8) (fun o ho => gd_some ho)
  obtain ⟨o, ho, e1, e2⟩ := hg
  refine ⟨o.1, o.2, ho, ?_, e2.bz.1, Rl_lz (m := sMT m 0) hl e2⟩
  unfold fP_longest
  rw [h5, t_longest h1 h2 h4, e1]
  rfl
theorem s_beginning {q : PS} {m : MS} (h : Rl q m) : ∃ b m', fM_beginning m = some (b, m') ∧ fP_beginning q.1 = some b ∧ mT m' = 0 ∧ Rl q m' := by
  have hl := h
  obtain ⟨z, D, w, n, ⟨h1, h2, h3, h4, h5, h6, h7, h8, h9, h10, h11⟩, hs⟩ := h
  have hg : Gd (fun o => o.1 = nI (nM w (Tz z D 0)) ∧ Lz (sMT m 0) o.2) (fM_beginning m) := by
    unfold fM_beginning
    rw [gw_let]
    try dsimp only
    exact gd_bind (z_beginning h1 (t := sMT m 0) h3 h4 h7 h8) (fun o ho => gd_some ho)
  obtain ⟨o, ho, e1, e2⟩ := hg
  refine ⟨o.1, o.2, ho, ?_, e2.bz.1, Rl_lz (m := sMT m 0) hl e2⟩
  unfold fP_beginning
  rw [h5, t_wordsWith h1 h2 h4, e1]
  rfl
theorem s_ahead {q : PS} {m : MS} (h : Rl q m) : ∃ b m', fM_ahead m = some (b, m') ∧ fP_ahead q.1 = some b ∧ mT m' = 0 ∧ Rl q m' := by
  have hl := h
  obtain ⟨z, D, w, n, ⟨h1, h2, h3, h4, h5, h6, h7, h8, h9, h10, h11⟩, hs⟩ := h
  have hg : Gd (fun o => o.1 = nI (nA w (Tz z D 0)) ∧ Lz (sMT m 0) o.2) (fM_ahead m) := by
    unfold fM_ahead
    rw [gw_let]
    try dsimp only
    exact gd_bind (z_ahead h1 (t := sMT m 0) h3 h4 h7 h8) (fun o ho => gd_some ho)
  obtain ⟨o, ho, e1, e2⟩ := hg
  refine ⟨o.1, o.2, ho, ?_, e2.bz.1, Rl_lz (m := sMT m 0) hl e2⟩
  unfold fP_ahead
  rw [h5, t_wordsAhead h1 h2 h4, e1]
  rfl
theorem s_cell {q : PS} {m : MS} (h : Rl q m) (p1 p2 : Int32) : ∃ b m', fM_cell p1 p2 m = some (b, m') ∧ Rl q m' ∧ ((fP_cell p1 p2 q.1 = some (.inl 3) ∧ mT m' = 1) ∨ (fP_cell p1 p2 q.1 = some (.inl 1) ∧ mT m' = 2) ∨ (fP_cell p1 p2 q.1 = some (.inr b) ∧ mT m' = 0)) := by
  have hl := h
  obtain ⟨z, D, w, n, ⟨h1, h2, h3, h4, h5, h6, h7, h8, h9, h10, h11⟩, hs⟩ := h
  by_cases e : p1 < nI 0 ∨ nI 159 < p1
  · refine ⟨0, sMT m 1, ?_, hl, Or.inl ⟨?_, rfl⟩⟩
    · unfold fM_cell
      rw [gw_let]
      try dsimp only
      rw [if_pos (show fM_in p1 0 159 = 0 from in_no e)]
      rw [gw_let]
      try dsimp only
      rw [if_neg (show ¬ (1 : Int32) ≤ 0 by decide)]
    · unfold fP_cell
      rw [gw_let]
      try dsimp only
      by_cases e1 : p1 < nI 0
      · rw [if_pos (show p1 < 0 from e1)]
      · have e2 := e.resolve_left e1
        rw [if_neg (show ¬ p1 < 0 from e1), if_neg]
        intro a
        rw [Int32.lt_iff_toInt_lt, nI_toInt (by omega)] at e2
        rw [Int32.lt_iff_toInt_lt, show (160 : Int32).toInt = 160 by decide] at a
        omega
  · obtain ⟨c, hc0, hc, rfl⟩ := i32_rng (by omega) (fun a => e (Or.inl a)) (fun a => e (Or.inr a)) (by omega)
    have e1 : ¬ nI c < nI 0 := fun a => e (Or.inl a)
    have e2 : ¬ nI 159 < nI c := fun a => e (Or.inr a)
    have hcP : ∀ p2 : Int32, fP_cell (nI c) p2 q.1 = if p2 < 0 then some (.inl 1) else if p2 ≤ 6 then some (.inr (fT_propertyOf (nI c) p2 (qT q.1))) else some (.inl 1) := by
      intro p2
      unfold fP_cell
      rw [gw_let]
      try dsimp only
      rw [if_neg (show ¬ nI c < 0 from e1), if_pos (show nI c < (160 : Int32) from nI_lt (b := 160) (by omega) (by omega))]
      rw [gw_let]
      try dsimp only
    by_cases e3 : p2 < nI 0 ∨ nI 6 < p2
    · refine ⟨0, sMT m 2, ?_, hl, Or.inr (Or.inl ⟨?_, rfl⟩)⟩
      · unfold fM_cell
        rw [gw_let]
        try dsimp only
        rw [if_neg (show ¬ fM_in (nI c) 0 159 = 0 from in_ne e1 e2), if_pos (show fM_in p2 0 6 = 0 from in_no e3)]
        rw [gw_let]
        try dsimp only
        rw [if_neg (show ¬ (2 : Int32) ≤ 0 by decide)]
      · rw [hcP]
        by_cases e4 : p2 < nI 0
        · rw [if_pos (show p2 < 0 from e4)]
        · rw [if_neg (show ¬ p2 < 0 from e4), if_neg (show ¬ p2 ≤ (6 : Int32) from fun a => i32_le.mp a (e3.resolve_left e4))]
    · have e4 : ¬ p2 < nI 0 := fun a => e3 (Or.inl a)
      have e5 : ¬ nI 6 < p2 := fun a => e3 (Or.inr a)
      have hg : Gd (fun o => o.1 = tell z D c p2 ∧ Lz (sMT m 0) o.2) (fM_cell (nI c) p2 m) := by
        unfold fM_cell
        rw [gw_let]
        try dsimp only
        rw [if_neg (show ¬ fM_in (nI c) 0 159 = 0 from in_ne e1 e2), if_neg (show ¬ fM_in p2 0 6 = 0 from in_ne e4 e5)]
        rw [gw_let]
        try dsimp only
        rw [if_pos (show (0 : Int32) ≤ 0 by decide)]
        exact gd_bind (z_toldCell h1 (t := sMT m 0) h3 (by omega) p2) (fun o ho => gd_some ho)
      obtain ⟨o, ho, f1, f2⟩ := hg
      refine ⟨o.1, o.2, ho, Rl_lz (m := sMT m 0) hl f2, Or.inr (Or.inr ⟨?_, ?_⟩)⟩
      · rw [hcP, if_neg (show ¬ p2 < 0 from e4), if_pos (show p2 ≤ (6 : Int32) from i32_le.mpr e5), t_property h2 (by omega), f1]
      · have := f2.pz.1
        rw [this]
theorem s_end {q : PS} {m : MS} (h : Rl q m) (p1 p2 : Int32) : ∃ b m', fM_end p1 p2 m = some (b, m') ∧ Rl q m' ∧ ((fP_end p1 p2 q.1 = some (.inl 3) ∧ mT m' = 1) ∨ (fP_end p1 p2 q.1 = some (.inl 1) ∧ mT m' = 2) ∨ (fP_end p1 p2 q.1 = some (.inr b) ∧ mT m' = 0)) := by
  have hl := h
  obtain ⟨z, D, w, n, ⟨h1, h2, h3, h4, h5, h6, h7, h8, h9, h10, h11⟩, hs⟩ := h
  by_cases e : p1 < nI 0 ∨ nI 39 < p1
  · refine ⟨0, sMT m 1, ?_, hl, Or.inl ⟨?_, rfl⟩⟩
    · unfold fM_end
      rw [gw_let]
      try dsimp only
      rw [if_pos (show fM_in p1 0 39 = 0 from in_no e)]
      rw [gw_let]
      try dsimp only
      rw [if_neg (show ¬ (1 : Int32) ≤ 0 by decide)]
    · unfold fP_end
      rw [gw_let]
      try dsimp only
      by_cases e1 : p1 < nI 0
      · rw [if_pos (show p1 < 0 from e1)]
      · have e2 := e.resolve_left e1
        rw [if_neg (show ¬ p1 < 0 from e1), if_neg]
        intro a
        rw [Int32.lt_iff_toInt_lt, nI_toInt (by omega)] at e2
        rw [Int32.lt_iff_toInt_lt, show (40 : Int32).toInt = 40 by decide] at a
        omega
  · obtain ⟨c, hc0, hc, rfl⟩ := i32_rng (by omega) (fun a => e (Or.inl a)) (fun a => e (Or.inr a)) (by omega)
    have e1 : ¬ nI c < nI 0 := fun a => e (Or.inl a)
    have e2 : ¬ nI 39 < nI c := fun a => e (Or.inr a)
    have hsu := h1.sml.u c
    have hx := h1.sml.x c
    have hu : fE_usesOf (nI c) (tN (qT q.1)) = nI (z.U c) := by
      unfold fE_usesOf
      rw [J_at_n _ (by omega) (by omega)]; exact h2.u (by omega)
    have htx : fE_textAt (nI c) (tN (qT q.1)) = some (lN (enc (z.X c))) := by
      unfold fE_textAt
      rw [gw_let]
      try dsimp only
      rw [if_neg (nI_lt0 (by omega)), if_neg (show ¬ (40 : Int32) ≤ nI c from nI_ge (b := 40) (by omega) (by omega)), if_pos (inb_nI (by omega) (by omega)), nI_clamp' (by omega), h2.x (by omega)]
    have hcP : ∀ p2 : Int32, ¬ p2 < 0 → p2 ≤ 1 → fP_end (nI c) p2 q.1 = some (.inr (if p2 = 0 then nI (z.U c) else if z.U c = 0 then -1 else nI (z.X c).length)) := by
      intro p2 a1 a2
      unfold fP_end
      rw [gw_let]
      try dsimp only
      rw [if_neg (show ¬ nI c < 0 from e1), if_pos (show nI c < (40 : Int32) from nI_lt (b := 40) (by omega) (by omega))]
      rw [gw_let]
      try dsimp only
      rw [if_neg a1, if_pos a2]
      rw [gw_let]
      try dsimp only
      rw [hu]
      by_cases a3 : p2 = 0
      · rw [if_pos a3, if_pos a3]
      · rw [if_neg a3, if_neg a3]
        by_cases a4 : z.U c = 0
        · rw [if_pos (show nI (z.U c) = 0 by rw [a4]; rfl), if_pos a4]
        · rw [if_neg (nI_ne0 (by omega) (by omega)), if_neg a4, htx]
          simp only [Option.bind_some]
          rw [t_lengthOf hx]
          rfl
    by_cases e3 : p2 < nI 0 ∨ nI 1 < p2
    · refine ⟨0, sMT m 2, ?_, hl, Or.inr (Or.inl ⟨?_, rfl⟩)⟩
      · unfold fM_end
        rw [gw_let]
        try dsimp only
        rw [if_neg (show ¬ fM_in (nI c) 0 39 = 0 from in_ne e1 e2), if_pos (show fM_in p2 0 1 = 0 from in_no e3)]
        rw [gw_let]
        try dsimp only
        rw [if_neg (show ¬ (2 : Int32) ≤ 0 by decide)]
      · unfold fP_end
        rw [gw_let]
        try dsimp only
        rw [if_neg (show ¬ nI c < 0 from e1), if_pos (show nI c < (40 : Int32) from nI_lt (b := 40) (by omega) (by omega))]
        rw [gw_let]
        try dsimp only
        by_cases e4 : p2 < nI 0
        · rw [if_pos (show p2 < 0 from e4)]
        · rw [if_neg (show ¬ p2 < 0 from e4), if_neg (show ¬ p2 ≤ (1 : Int32) from fun a => i32_le.mp a (e3.resolve_left e4))]
    · have e4 : ¬ p2 < nI 0 := fun a => e3 (Or.inl a)
      have e5 : ¬ nI 1 < p2 := fun a => e3 (Or.inr a)
      refine ⟨_, sMT m 0, ?_, hl, Or.inr (Or.inr ⟨hcP p2 e4 (i32_le.mpr e5), rfl⟩)⟩
      unfold fM_end
      rw [gw_let]
      try dsimp only
      rw [if_neg (show ¬ fM_in (nI c) 0 39 = 0 from in_ne e1 e2), if_neg (show ¬ fM_in p2 0 1 = 0 from in_ne e4 e5)]
      rw [gw_let]
      try dsimp only
      rw [if_pos (show (0 : Int32) ≤ 0 by decide), z_toldEnd h1.sml (t := sMT m 0) h3 (by omega) p2]
      rfl
theorem s_letter {q : PS} {m : MS} (h : Rl q m) (p1 p2 : Int32) : ∃ b m', fM_letter p1 p2 m = some (b, m') ∧ Rl q m' ∧ ((fP_letter p1 p2 q.1 = some (.inl 3) ∧ mT m' = 1) ∨ (fP_letter p1 p2 q.1 = some (.inl 1) ∧ mT m' = 2) ∨ (fP_letter p1 p2 q.1 = some (.inr b) ∧ mT m' = 0)) := by
  have hl := h
  obtain ⟨z, D, w, n, ⟨h1, h2, h3, h4, h5, h6, h7, h8, h9, h10, h11⟩, hs⟩ := h
  by_cases e : p1 < nI 0 ∨ nI 39 < p1
  · refine ⟨0, sMT m 1, ?_, hl, Or.inl ⟨?_, rfl⟩⟩
    · unfold fM_letter
      rw [gw_let]
      try dsimp only
      rw [if_pos (show fM_in p1 0 39 = 0 from in_no e)]
      rw [gw_let]
      try dsimp only
      rw [if_neg (show ¬ (1 : Int32) ≤ 0 by decide)]
    · unfold fP_letter
      rw [gw_let]
      try dsimp only
      by_cases e1 : p1 < nI 0
      · rw [if_pos (show p1 < 0 from e1)]
      · have e2 := e.resolve_left e1
        rw [if_neg (show ¬ p1 < 0 from e1), if_neg]
        intro a
        rw [Int32.lt_iff_toInt_lt, nI_toInt (by omega)] at e2
        rw [Int32.lt_iff_toInt_lt, show (40 : Int32).toInt = 40 by decide] at a
        omega
  · obtain ⟨c, hc0, hc, rfl⟩ := i32_rng (by omega) (fun a => e (Or.inl a)) (fun a => e (Or.inr a)) (by omega)
    have e1 : ¬ nI c < nI 0 := fun a => e (Or.inl a)
    have e2 : ¬ nI 39 < nI c := fun a => e (Or.inr a)
    have hsu := h1.sml.u c
    have hx := h1.sml.x c
    have hx12 := hx.1
    have htx : fE_textAt (nI c) (tN (qT q.1)) = some (lN (enc (z.X c))) := by
      unfold fE_textAt
      rw [gw_let]
      try dsimp only
      rw [if_neg (nI_lt0 (by omega)), if_neg (show ¬ (40 : Int32) ≤ nI c from nI_ge (b := 40) (by omega) (by omega)), if_pos (inb_nI (by omega) (by omega)), nI_clamp' (by omega), h2.x (by omega)]
    by_cases e3 : p2 < nI 0 ∨ nI 11 < p2
    · refine ⟨0, sMT m 2, ?_, hl, Or.inr (Or.inl ⟨?_, rfl⟩)⟩
      · unfold fM_letter
        rw [gw_let]
        try dsimp only
        rw [if_neg (show ¬ fM_in (nI c) 0 39 = 0 from in_ne e1 e2), if_pos (show fM_in p2 0 11 = 0 from in_no e3)]
        rw [gw_let]
        try dsimp only
        rw [if_neg (show ¬ (2 : Int32) ≤ 0 by decide)]
      · unfold fP_letter
        rw [gw_let]
        try dsimp only
        rw [if_neg (show ¬ nI c < 0 from e1), if_pos (show nI c < (40 : Int32) from nI_lt (b := 40) (by omega) (by omega))]
        rw [gw_let]
        try dsimp only
        by_cases e4 : p2 < nI 0
        · rw [if_pos (show p2 < 0 from e4)]
        · have e5 := e3.resolve_left e4
          rw [if_neg (show ¬ p2 < 0 from e4), if_neg]
          intro a
          rw [Int32.lt_iff_toInt_lt, nI_toInt (by omega)] at e5
          rw [Int32.lt_iff_toInt_lt, show (12 : Int32).toInt = 12 by decide] at a
          omega
    · obtain ⟨a, ha0, ha, rfl⟩ := i32_rng (by omega) (fun a => e3 (Or.inl a)) (fun a => e3 (Or.inr a)) (by omega)
      have e4 : ¬ nI a < nI 0 := fun a => e3 (Or.inl a)
      have e5 : ¬ nI 11 < nI a := fun a => e3 (Or.inr a)
      have hd := hd0_lt (okw_drop hx a).2
      have hcP : fP_letter (nI c) (nI a) q.1 = some (.inr (if a < (z.X c).length then nI (hd0 ((z.X c).drop a)) else -1)) := by
        unfold fP_letter
        rw [gw_let]
        try dsimp only
        rw [if_neg (show ¬ nI c < 0 from e1), if_pos (show nI c < (40 : Int32) from nI_lt (b := 40) (by omega) (by omega))]
        rw [gw_let]
        try dsimp only
        rw [if_neg (show ¬ nI a < 0 from e4), if_pos (show nI a < (12 : Int32) from nI_lt (b := 12) (by omega) (by omega)), htx]
        simp only [Option.bind_some]
        rw [gw_let]
        try dsimp only
        rw [letterAt_e hx (by omega)]
        by_cases a4 : a < (z.X c).length
        · have : hd0 ((z.X c).drop a) ≠ 0 := fun b => by
            have := (hd0_0 (okw_drop hx a).2).mp b
            have := List.drop_eq_nil_iff.mp this
            omega
          rw [if_neg (nI_ne0 (by omega) (by omega)), if_pos a4]
        · rw [List.drop_eq_nil_of_le (by omega), if_pos (show nI (hd0 []) = 0 from rfl), if_neg a4]
      refine ⟨_, sMT m 0, ?_, hl, Or.inr (Or.inr ⟨hcP, rfl⟩)⟩
      unfold fM_letter
      rw [gw_let]
      try dsimp only
      rw [if_neg (show ¬ fM_in (nI c) 0 39 = 0 from in_ne e1 e2), if_neg (show ¬ fM_in (nI a) 0 11 = 0 from in_ne e4 e5)]
      rw [gw_let]
      try dsimp only
      rw [if_pos (show (0 : Int32) ≤ 0 by decide), z_users (t := sMT m 0) h3 (by omega)]
      simp only [Option.bind_some]
      by_cases a3 : z.U c = 0
      · rw [if_pos (show nI (z.U c) ≤ 0 by rw [a3]; decide), h1.e.2.1 c a3, if_neg (by show ¬ a < 0; omega)]
      · rw [if_neg (nI_nle (by omega) (by omega)), z_length (t := sMT m 0) h3 (by omega)]
        simp only [Option.bind_some]
        by_cases a4 : a < (z.X c).length
        · rw [if_neg (nI_ge (by omega) (by omega)), z_letter (t := sMT m 0) h3 (by omega) (by omega), if_pos a4]
          rfl
        · rw [if_pos (nI_le (by omega) (by omega)), if_neg a4]
theorem s_countC {q : PS} {m : MS} (h : Rl q m) (p : Int32) : ∃ b m', fM_count p m = some (b, m') ∧ Rl q m' ∧ ((fP_count p q.1 = some (.inl 1) ∧ mT m' = 1) ∨ (fP_count p q.1 = some (.inr b) ∧ mT m' = 0)) := by
  have hl := h
  obtain ⟨z, D, w, n, hq, hs⟩ := h
  by_cases e : p < nI 0 ∨ nI 9 < p
  · refine ⟨0, sMT m 1, ?_, hl, Or.inl ⟨?_, rfl⟩⟩
    · unfold fM_count
      rw [gw_let]
      try dsimp only
      rw [if_pos (show fM_in p 0 9 = 0 from in_no e)]
      rw [gw_let]
      try dsimp only
      rw [if_neg (show ¬ (1 : Int32) ≤ 0 by decide)]
    · refine s_count_no (fun k hk a => ?_)
      rw [a] at e
      rcases e with e | e
      · exact nI_lt0 (by omega) e
      · rw [nI_lt_iff (by omega) (by omega)] at e; omega
  · obtain ⟨k, hk0, hk, rfl⟩ := i32_rng (by omega) (fun a => e (Or.inl a)) (fun a => e (Or.inr a)) (by omega)
    have e1 : ¬ nI k < nI 0 := fun a => e (Or.inl a)
    have e2 : ¬ nI 9 < nI k := fun a => e (Or.inr a)
    have hq' : Rq z D w n q.1 (sMT m 0) := hq
    obtain ⟨v, v1, v2⟩ := s_count hq' (show k < 10 by omega)
    have hg : Gd (fun o => o.1 = v ∧ Lz (sMT m 0) o.2) (fM_count (nI k) m) := by
      unfold fM_count
      rw [gw_let]
      try dsimp only
      rw [if_neg (show ¬ fM_in (nI k) 0 9 = 0 from in_ne e1 e2)]
      rw [gw_let]
      try dsimp only
      rw [if_pos (show (0 : Int32) ≤ 0 by decide)]
      exact gd_bind v2 (fun o ho => gd_some ho)
    obtain ⟨o, ho, f1, f2⟩ := hg
    refine ⟨o.1, o.2, ho, Rl_lz (m := sMT m 0) hl f2, Or.inr ⟨by rw [f1]; exact v1, ?_⟩⟩
    have := f2.pz.1
    rw [this]
theorem s_wordC {q : PS} {m : MS} (h : Rl q m) (p1 p2 : Int32) : ∃ b m', fM_word p1 p2 m = some (b, m') ∧ Rl q m' ∧ ((fP_word p1 p2 q.1 = some (.inl 1) ∧ mT m' = 1) ∨ (fP_word p1 p2 q.1 = some (.inr b) ∧ mT m' = 0)) := by
  have hl := h
  obtain ⟨z, D, w, n, hq, hs⟩ := h
  by_cases e0 : p1 < 0
  · refine ⟨0, sMT m 1, ?_, hl, Or.inl ⟨?_, rfl⟩⟩
    · unfold fM_word
      rw [gw_let]
      try dsimp only
      rw [gw_let]
      try dsimp only
      rw [if_pos e0]
      rw [gw_let]
      try dsimp only
      rw [if_neg (show ¬ (1 : Int32) ≤ 0 by decide)]
    · unfold fP_word
      rw [if_neg (fun a => i32_le.mp a e0)]
  · by_cases e : p2 < nI 0 ∨ nI 12 < p2
    · refine ⟨0, sMT m 1, ?_, hl, Or.inl ⟨?_, rfl⟩⟩
      · unfold fM_word
        rw [gw_let]
        try dsimp only
        rw [gw_let]
        try dsimp only
        rw [if_neg e0, if_pos (show fM_in p2 0 12 = 0 from in_no e)]
        rw [gw_let]
        try dsimp only
        rw [if_neg (show ¬ (1 : Int32) ≤ 0 by decide)]
      · unfold fP_word
        rw [if_pos (i32_le.mpr e0)]
        rw [gw_let]
        try dsimp only
        by_cases e1 : p2 < nI 0
        · rw [if_pos (show p2 < 0 from e1)]
        · rw [if_neg (show ¬ p2 < 0 from e1), if_neg (show ¬ p2 ≤ (12 : Int32) from fun a => i32_le.mp a (e.resolve_left e1))]
    · obtain ⟨a, ha0, ha, rfl⟩ := i32_rng (by omega) (fun a => e (Or.inl a)) (fun a => e (Or.inr a)) (by omega)
      have e1 : ¬ nI a < nI 0 := fun a => e (Or.inl a)
      have e2 : ¬ nI 12 < nI a := fun a => e (Or.inr a)
      have hq' : Rq z D w n q.1 (sMT m 0) := hq
      obtain ⟨v, v1, v2⟩ := s_word hq' (i32_le.mpr e0) ha
      have hg : Gd (fun o => o.1 = v ∧ Lz (sMT m 0) o.2) (fM_word p1 (nI a) m) := by
        unfold fM_word
        rw [gw_let]
        try dsimp only
        rw [gw_let]
        try dsimp only
        rw [if_neg e0, if_neg (show ¬ fM_in (nI a) 0 12 = 0 from in_ne e1 e2)]
        rw [gw_let]
        try dsimp only
        rw [if_pos (show (0 : Int32) ≤ 0 by decide)]
        exact gd_bind v2 (fun o ho => gd_some ho)
      obtain ⟨o, ho, f1, f2⟩ := hg
      refine ⟨o.1, o.2, ho, Rl_lz (m := sMT m 0) hl f2, Or.inr ⟨by rw [f1]; exact v1, ?_⟩⟩
      have := f2.pz.1
      rw [this]
theorem s_ifAdded {q : PS} {m : MS} (h : Rl q m) (p : Int32) : ∃ b m', fM_ifAdded p m = some (b, m') ∧ ((fP_ifAdded p q.1 = some (.inl (1, q.1)) ∧ mT m' = 1 ∧ Rl q m') ∨ ∃ t', fP_ifAdded p q.1 = some (.inr (b, t')) ∧ mT m' = 0 ∧ Rl (t', q.2) m') := by
  have hl := h
  obtain ⟨z, D, w, n, hq, hs⟩ := h
  by_cases e : p < nI 0 ∨ nI 3 < p
  · refine ⟨0, sMT m 1, ?_, Or.inl ⟨?_, rfl, hl⟩⟩
    · unfold fM_ifAdded
      rw [gw_let]
      try dsimp only
      rw [if_pos (show fM_in p 0 3 = 0 from in_no e)]
      rw [gw_let]
      try dsimp only
      rw [if_neg (show ¬ (1 : Int32) ≤ 0 by decide)]
    · unfold fP_ifAdded
      rw [gw_let]
      try dsimp only
      by_cases e1 : p < nI 0
      · rw [if_pos (show p < 0 from e1)]
      · rw [if_neg (show ¬ p < 0 from e1), if_neg (show ¬ p ≤ (3 : Int32) from fun a => i32_le.mp a (e.resolve_left e1))]
  · obtain ⟨a, ha0, ha, rfl⟩ := i32_rng (by omega) (fun a => e (Or.inl a)) (fun a => e (Or.inr a)) (by omega)
    have e1 : ¬ nI a < nI 0 := fun a => e (Or.inl a)
    have e2 : ¬ nI 3 < nI a := fun a => e (Or.inr a)
    have hq' : Rq z D w n q.1 (sMT m 0) := hq
    have hg : Gd (fun o => o.1 = cost z D w a ∧ Bz (sMT m 0) o.2 ∧ Mz z (mZ o.2)) (fM_ifAdded (nI a) m) := by
      unfold fM_ifAdded
      rw [gw_let]
      try dsimp only
      rw [if_neg (show ¬ fM_in (nI a) 0 3 = 0 from in_ne e1 e2)]
      rw [gw_let]
      try dsimp only
      rw [if_pos (show (0 : Int32) ≤ 0 by decide)]
      exact gd_bind (z_wouldAdd hq' (by omega)) (fun o ho => gd_some ho)
    obtain ⟨o, ho, f1, f2, f3⟩ := hg
    obtain ⟨c, hc, ⟨r, c1⟩, c2, c3⟩ := t_how hq
    refine ⟨o.1, o.2, ho, Or.inr ⟨c.2, ?_, f2.1, ?_⟩⟩
    · unfold fP_ifAdded
      rw [gw_let]
      try dsimp only
      rw [if_neg (show ¬ nI a < 0 from e1), if_pos (show nI a ≤ (3 : Int32) from i32_le.mpr e2), hc]
      simp only [Option.bind_some]
      rw [c3 a (by omega), f1]
      rfl
    · rw [c1]
      obtain ⟨h1, h2, h3, h4, h5, h6, h7, h8, h9, h10, h11⟩ := hq
      exact ⟨z, D, w, n, ⟨h1, h2, f3, h4, h5, h6, by rw [f2.2.2.2.1]; exact h7, by rw [f2.2.2.2.2.1]; exact h8, h9, by rw [f2.2.2.1]; exact h10, h11⟩, by rw [f2.2.1]; exact hs⟩
theorem t_packV {z : Sz} {D : Nat → Nat} {t u : TS} (h : WF z D) (hu : Ht z (Wz z D) u) : Gd (fun o => o.1 = pkv z D) (fT_packFrom t u) := by
  refine gd_mono (t_packFrom h hu) ?_
  rintro o ⟨o1, o2⟩
  cases hP : pkF (Tz z D 0) (clrS z.M) with
  | none => rw [pkv, hP]; exact o1 hP
  | some zf => rw [pkv, hP]; exact (o2 zf hP).1
theorem s_ifPacked {q : PS} {m : MS} (h : Rl q m) : ∃ b m' t', fM_ifPacked m = some (b, m') ∧ fP_ifPacked q.1 = some (b, t') ∧ mT m' = 0 ∧ Rl (t', q.2) m' := by
  obtain ⟨z, D, w, n, ⟨h1, h2, h3, h4, h5, h6, h7, h8, h9, h10, h11⟩, hs⟩ := h
  have hg : Gd (fun o => o.1 = pkv z D ∧ Bz (sMT m 0) o.2 ∧ Mz z (mZ o.2)) (fM_ifPacked m) := by
    unfold fM_ifPacked
    rw [gw_let]
    try dsimp only
    exact gd_bind (z_wouldPack h1 (m := sMT m 0) h3) (fun o ho => gd_some ho)
  obtain ⟨o, ho, f1, f2, f3⟩ := hg
  obtain ⟨c, hc, c1⟩ := t_packV (t := qR q.1) h1 h2
  refine ⟨o.1, o.2, sQR q.1 c.2, ho, ?_, f2.1, z, D, w, n, ⟨h1, h2, f3, h4, h5, h6, by rw [f2.2.2.2.1]; exact h7, by rw [f2.2.2.2.2.1]; exact h8, h9, by rw [f2.2.2.1]; exact h10, h11⟩, by rw [f2.2.1]; exact hs⟩
  unfold fP_ifPacked
  rw [hc]
  simp only [Option.bind_some]
  rw [gw_let]
  try dsimp only
  rw [c1, f1]
theorem s_full {z : Sz} {D : Nat → Nat} {t : TS} {m : MS} (h : WF z D) (ht : Ht z (Wz z D) t) (hz : Mz z (mZ m)) (q : QS) (hq : qT q = t) : fP_fullness q = some (fpv (usd z) (gst z 160)) ∧ fM_full m = some (fpv (usd z) (gst z 160)) := by
  obtain ⟨u1, u2, u3⟩ := usd_1 h
  have hnn := fp_nn u3 u1 u2
  constructor
  · unfold fP_fullness
    rw [hq, t_usedCells h.sml ht]
    simp only [Option.bind_some]
    rw [t_greatestUsed h.sml ht]
    simp only [Option.bind_some]
    rw [nI_1]
    exact if_pos hnn
  · unfold fM_full
    rw [z_used h.sml hz]
    simp only [Option.bind_some]
    rw [z_greatest h.sml hz]
    simp only [Option.bind_some]
    rw [nI_1]
    exact if_pos hnn
theorem s_fullness {q : PS} {m : MS} (h : Rl q m) : ∃ b m', nn64 b ∧ fM_fullness m = some (b, m') ∧ fP_fullness q.1 = some b ∧ mT m' = 0 ∧ Rl q m' := by
  have hl := h
  obtain ⟨z, D, w, n, ⟨h1, h2, h3, h4, h5, h6, h7, h8, h9, h10, h11⟩, hs⟩ := h
  obtain ⟨u1, u2, u3⟩ := usd_1 h1
  obtain ⟨a1, a2⟩ := s_full h1 h2 (m := sMT m 0) h3 q.1 rfl
  refine ⟨_, sMT m 0, fp_nn u3 u1 u2, ?_, a1, rfl, hl⟩
  unfold fM_fullness
  rw [gw_let]
  try dsimp only
  rw [a2]
  rfl
