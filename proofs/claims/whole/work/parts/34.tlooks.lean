/-! the class's looks -/
theorem nI_K {z : Sz} {D : Nat → Nat} (h : WF z D) (c : Nat) : (nI (z.K c) = (2 : Int32)) = (z.K c = 2) := by
  have := h.k3 c
  exact propext (nI_eq_iff (b := 2) (by omega) (by omega))
theorem t_endOf {z : Sz} {D W : Nat → Nat} {t : TS} (h : WF z D) (ht : Ht z W t) {c : Nat} (hk : z.K c = 2) : fT_endOf (nI c) t = some (lN (enc (z.X (z.E c - 1)))) := by
  obtain ⟨-, e, he, h40, -⟩ := h.leaf hk
  have hc := h.lt (c := c) (by omega)
  unfold fT_endOf
  rw [J_at_n _ hc (by omega), ht.e hc, he, eI_s]
  simp only [fE_textAt, gw_let]
  rw [if_neg (nI_lt0 (by omega)), if_neg (show ¬ (40 : Int32) ≤ nI e from nI_ge (b := 40) (by omega) (by omega)), if_pos (inb_nI h40 (by omega)), nI_clamp' (by omega), ht.x h40]
  rfl
theorem t_child {z : Sz} {W : Nat → Nat} {t : TS} (ht : Ht z W t) {c l : Nat} (hc : c < 160) (hl : l < 9) : fT_childOf (nI c) (nI l) t = nz (ch z c l) := t_childOf ht hc hl
theorem t_W {z : Sz} {W : Nat → Nat} {t : TS} (ht : Ht z W t) {c : Nat} (hc : c < 160) : J_at 160 (tW t) (nI c) = nI (W c) := by
  rw [J_at_n _ hc (by omega), ht.w hc]
theorem t_K {z : Sz} {W : Nat → Nat} {t : TS} (ht : Ht z W t) {c : Nat} (hc : c < 160) : J_at 160 (tK t) (nI c) = nI (z.K c) := by
  rw [J_at_n _ hc (by omega), ht.k hc]
theorem t_leafOf {z : Sz} {D W : Nat → Nat} {t : TS} (h : WF z D) (ht : Ht z W t) {w : List Nat} (hw : okw w) : fT_leafOf (lN (enc w)) t = some (nz (Fz z D 0 w)) := by
  have h0 : z.K 0 ≠ 0 := by rw [h.root.1]; omega
  unfold fT_leafOf
  refine lp_walk (fun k y => (∃ c u, z.K c ≠ 0 ∧ D c = k ∧ okw u ∧ y = (nI c, lN (enc u), nI k) ∧ Fz z D c u = Fz z D 0 w) ∨ (Fz z D 0 w = 0 ∧ ∃ v, y = (-1, v, nI k))) 13 _ (Or.inl ⟨0, w, h0, h.root.2.2.2, hw, rfl, rfl⟩) ?_ (by omega)
  rintro k y hk (⟨c, u, h1, h2, h3, rfl, h4⟩ | ⟨h1, v, rfl⟩)
  · have hc := h.lt h1
    have hd := h.dp h1
    try dsimp only
    rw [if_neg (show ¬ (12 : Int32) < nI k from nI_nlt (b := k) (a := 12) (by omega) (by omega)), if_neg (nI_m1 (by omega)), t_K ht hc]
    simp only [nI_K h]
    by_cases e : z.K c = 2
    · left
      rw [if_pos e, t_endOf h ht e]
      rw [F_leaf h e] at h4
      show (if lN (enc _) = lN (enc u) then _ else _) = _
      by_cases e2 : z.X (z.E c - 1) = u
      · have e3 : c ≠ 0 := by
          intro e3; subst e3; have := h.root.1; omega
        rw [if_pos e2] at h4
        rw [if_pos (by rw [e2]), ← h4, nz_1 e3]
      · rw [if_neg e2] at h4
        rw [if_neg (fun a => e2 ((encN_eq (h.e.2.2.1 _) h3).mp a)), ← h4]; rfl
    · right
      have e1 : z.K c = 1 := by have := h.k12 h1; omega
      rw [if_neg e]
      simp only [gw_let]
      rw [firstOf_e h3, withoutFirst_e h3, t_child ht hc (hd0_lt h3.2), nI_1]
      have hD := (h.inn e1).2.2.1
      refine ⟨by omega, _, rfl, ?_⟩
      rw [F_inner h e1] at h4
      by_cases e2 : ch z c (hd0 u) = 0
      · right
        rw [if_pos e2] at h4
        rw [e2]
        exact ⟨h4.symm, _, rfl⟩
      · left
        rw [if_neg e2] at h4
        have e3 := h.chp e2
        refine ⟨ch z c (hd0 u), u.tail, e3.1, by rw [e3.2.2.2.2.2.2.1, h2], okw_tl h3, ?_, h4⟩
        rw [nz_1 e2]
  · left
    try dsimp only
    rw [h1]
    by_cases e : k = 13
    · rw [if_pos (show (12 : Int32) < nI k by rw [e]; decide)]; rfl
    · rw [if_neg (show ¬ (12 : Int32) < nI k from nI_nlt (b := k) (a := 12) (by omega) (by omega)), if_pos rfl]; rfl
theorem t_wordsBefore {z : Sz} {D : Nat → Nat} {t : TS} (h : WF z D) (ht : Ht z (Wz z D) t) {c l : Nat} (hc : c < 160) (hl : l ≤ 9) : fT_wordsBefore (nI c) (nI l) t = some (nI (bef z D c l)) := by
  unfold fT_wordsBefore
  rw [lp_eq (S := fun k => (nI (bef z D c k), nI k)) (N := l) (o := nI (bef z D c l))]
  · rfl
  · rfl
  · intro k hk
    try dsimp only
    rw [if_neg (nI_ge hk (by omega))]
    simp only [gw_let]
    rw [t_child ht hc (by omega)]
    have e : bef z D c (k + 1) = bef z D c k + (Tc z D c k).length := rfl
    rw [Tc_len h] at e
    have := ch_lt z c k
    by_cases e2 : ch z c k = 0
    · rw [if_pos e2] at e
      rw [e2, nz_0, if_pos rfl, nI_1, e]; rfl
    · rw [if_neg e2] at e
      rw [nz_1 e2, if_neg (nI_m1 (by omega)), t_W ht this, nI_add, nI_1, e]
  · dsimp only
    rw [if_pos (nI_le (Nat.le_refl _) (by omega))]
  · omega
theorem bef_at (g : Nat → Nat) {r : Nat} : ∀ {n : Nat}, r < sm g n → ∃ l, l < n ∧ sm g l ≤ r ∧ r < sm g (l + 1)
  | 0, h => by have : r < 0 := h; omega
  | n + 1, h => by
    by_cases e : r < sm g n
    · obtain ⟨l, h1, h2⟩ := bef_at g e
      exact ⟨l, by omega, h2⟩
    · exact ⟨n, by omega, by omega, h⟩
theorem bef_uni {g : Nat → Nat} {r l k : Nat} (h1 : sm g l ≤ r) (h2 : r < sm g (l + 1)) (h3 : sm g k ≤ r) (h4 : r < sm g (k + 1)) : l = k := by
  rcases Nat.lt_trichotomy l k with e | e | e
  · have := sm_mono g (show l + 1 ≤ k by omega); omega
  · exact e
  · have := sm_mono g (show k + 1 ≤ l by omega); omega
theorem bef_le {z : Sz} {D : Nat → Nat} (h : WF z D) {c : Nat} (hk : z.K c = 1) {l : Nat} (hl : l ≤ 9) : bef z D c l ≤ 160 := by
  have h1 := sm_mono (fun k => (Tc z D c k).length) hl
  have h2 : (Tz z D c).length = sm (fun k => (Tc z D c k).length) 9 := by rw [T_inner h hk, gr_len]
  have h3 := Wz_le z D c
  rw [← T_len h (by omega)] at h3
  show sm _ l ≤ 160
  omega
theorem t_letterOfRank {z : Sz} {D : Nat → Nat} {t : TS} (h : WF z D) (ht : Ht z (Wz z D) t) {c l r : Nat} (hk : z.K c = 1) (hl : l < 9) (h1 : bef z D c l ≤ r) (h2 : r < bef z D c (l + 1)) : fT_letterOfRank (nI c) (nI r) t = some (nI l) := by
  have hc := h.lt (c := c) (by omega)
  have hr : r < 160 := by have := bef_le h hk (show l + 1 ≤ 9 by omega); omega
  unfold fT_letterOfRank
  refine lp_walk (fun k y => k ≤ l ∧ y = (nI (r - bef z D c k), nI k)) 8 _ ⟨by omega, rfl⟩ ?_ (by omega)
  rintro k y hk8 ⟨hkl, rfl⟩
  have hb : bef z D c k ≤ r := by have := sm_mono (fun k => (Tc z D c k).length) hkl; show sm _ k ≤ r; exact Nat.le_trans this h1
  try dsimp only
  by_cases e : k = 8
  · left
    rw [if_pos (show (8 : Int32) ≤ nI k by rw [e]; decide), show l = 8 by omega]; rfl
  · rw [if_neg (show ¬ (8 : Int32) ≤ nI k from nI_ge (b := 8) (by omega) (by omega))]
    simp only [gw_let]
    rw [t_child ht hc (by omega)]
    have e1 : bef z D c (k + 1) = bef z D c k + (Tc z D c k).length := rfl
    rw [Tc_len h] at e1
    have e2 := ch_lt z c k
    have e3 := bef_le h hk (show k + 1 ≤ 9 by omega)
    by_cases e5 : k = l
    · left
      subst e5
      by_cases e6 : ch z c k = 0
      · rw [if_pos e6] at e1; omega
      · rw [if_neg e6] at e1
        rw [nz_1 e6, if_neg (nI_m1 (by omega)), t_W ht e2, if_neg (nI_ge (by omega) (by omega))]
    · right
      have h3 := sm_mono (fun k => (Tc z D c k).length) (show k + 1 ≤ l by omega)
      have h4 : bef z D c (k + 1) ≤ r := Nat.le_trans h3 h1
      refine ⟨by omega, (nI (r - bef z D c (k + 1)), nI (k + 1)), ?_, by omega, rfl⟩
      by_cases e6 : ch z c k = 0
      · rw [if_pos e6] at e1
        have e1' : bef z D c (k + 1) = bef z D c k := e1
        rw [e6, nz_0, if_pos rfl, if_pos (show (0 : Int32) ≤ nI (r - bef z D c k) from nI_le (a := 0) (by omega) (by omega)), nI_1, e1', Int32.sub_zero]
      · rw [if_neg e6] at e1
        rw [nz_1 e6, if_neg (nI_m1 (by omega)), t_W ht e2, if_pos (nI_le (by omega) (by omega)), nI_1]
        have : nI (r - bef z D c k) - nI (Wz z D (ch z c k)) = nI (r - bef z D c (k + 1)) := by
          rw [show r - bef z D c k = (r - bef z D c (k + 1)) + Wz z D (ch z c k) by omega, ← nI_add, Int32.add_sub_cancel]
        rw [this]
theorem t_words {z : Sz} {D : Nat → Nat} {t : TS} (h : WF z D) (ht : Ht z (Wz z D) t) : fT_words t = nI (Tz z D 0).length := by
  unfold fT_words
  rw [show (0 : Int32) = nI 0 by rfl, t_W ht (by omega), T_len h (by rw [h.root.1]; omega)]
theorem T0_len {z : Sz} {D : Nat → Nat} (h : WF z D) : (Tz z D 0).length ≤ 160 := by
  rw [T_len h (by rw [h.root.1]; omega)]; exact Wz_le z D 0
theorem t_wordAt {z : Sz} {D : Nat → Nat} {t : TS} (h : WF z D) (ht : Ht z (Wz z D) t) {r : Nat} {p : Nat × List Nat} (hp : (Tz z D 0)[r]? = some p) : fT_wordAt (nI r) t = some (lN (enc p.2)) := by
  have h0 : z.K 0 ≠ 0 := by rw [h.root.1]; omega
  obtain ⟨hr, -⟩ := List.getElem?_eq_some_iff.mp hp
  have hr2 := T0_len h
  have hpo := T0_ok h (y := p.1) (u := p.2) (List.mem_of_getElem? hp)
  unfold fT_wordAt
  simp only [gw_let]
  rw [if_neg (nI_lt0 (by omega)), t_words h ht, if_pos (nI_lt hr (by omega))]
  refine lp_walk (fun k y => ∃ c v s u, z.K c ≠ 0 ∧ D c = k ∧ okw v ∧ y = (nI c, nI s, lN (enc v), nI k) ∧ (Tz z D c)[s]? = some (p.1, u) ∧ p.2 = v ++ u ∧ (v.length = k ∨ z.K c = 2 ∧ u = [])) 12 _ ⟨0, [], r, p.2, h0, h.root.2.2.2, okw_nil, rfl, hp, rfl, Or.inl rfl⟩ ?_ (by omega)
  rintro k y hk ⟨c, v, s, u, h1, h2, h3, rfl, h4, h5, h6⟩
  have hc := h.lt h1
  have hd := h.dp h1
  have hlen : p.2.length = v.length + u.length := by rw [h5, List.length_append]
  have hl12 := hpo.1.1
  try dsimp only
  rw [if_neg (show ¬ (12 : Int32) < nI k from nI_nlt (b := k) (a := 12) (by omega) (by omega)), t_K ht hc]
  simp only [nI_K h]
  by_cases e : z.K c = 2
  · left
    rw [if_pos e, t_endOf h ht e]
    rw [T_leaf h e] at h4
    have e1 : u = z.X (z.E c - 1) := by
      have hm : (p.1, u) ∈ [(c, z.X (z.E c - 1))] := List.mem_of_getElem? h4
      rw [List.mem_singleton] at hm
      injection hm
    show some (Sum.inl (lN (enc v) ||| (lN (enc (z.X (z.E c - 1))) <<< (((4 : Int32) * nI k).toInt64 &&& 63)))) = _
    rw [← e1]
    rcases h6 with h6 | ⟨-, h6⟩
    · rw [← h6, join_e h3 (by rw [e1]; exact h.e.2.2.1 _) (by omega), ← h5]
    · rw [h5, h6, show lN (enc []) = 0 by rfl, join_0, List.append_nil]
  · right
    have e1 : z.K c = 1 := by have := h.k12 h1; omega
    have hD := (h.inn e1).2.2.1
    have h7 : v.length = k := by
      rcases h6 with h6 | h6
      · exact h6
      · exact absurd h6.1 e
    rw [if_neg e]
    rw [T_inner h e1] at h4
    obtain ⟨l, g1, g2, g3, q, g4, g5⟩ := gr_at h4
    have hs : s < 160 := by have := bef_le h e1 (show l + 1 ≤ 9 by omega); exact Nat.lt_of_lt_of_le g3 this
    have hch : ch z c l ≠ 0 := by
      intro a
      rw [Tc_0 a] at g4; simp at g4
    have e3 := h.chp hch
    rw [t_letterOfRank h ht e1 g1 g2 g3]
    simp only [Option.bind_some]
    rw [t_wordsBefore h ht hc (by omega)]
    simp only [Option.bind_some, gw_let]
    rw [t_child ht hc g1, nz_1 hch, nI_1]
    have e4 : nI s - nI (bef z D c l) = nI (s - bef z D c l) := by
      have : bef z D c l ≤ s := g2
      rw [show s = (s - bef z D c l) + bef z D c l by omega, ← nI_add, Int32.add_sub_cancel, Nat.add_sub_cancel]
    have e5 : u = pre l q.2 := by injection g5
    have e6 : p.1 = q.1 := by injection g5
    rw [Tc_1 hch] at g4
    rw [e4]
    refine ⟨by omega, _, rfl, ch z c l, if l = 0 then v else v ++ [l], s - bef z D c l, q.2, e3.1, by rw [e3.2.2.2.2.2.2.1, h2], ?_, ?_, by rw [e6]; exact g4, ?_, ?_⟩
    · by_cases e7 : l = 0
      · rw [if_pos e7]; exact h3
      · rw [if_neg e7]
        rw [e5, pre_s (by omega), List.length_cons] at hlen
        refine ⟨by rw [List.length_append, List.length_singleton]; omega, ?_⟩
        intro x hx
        rcases List.mem_append.mp hx with hx | hx
        · exact h3.2 x hx
        · rw [List.mem_singleton] at hx; omega
    · by_cases e7 : l = 0
      · rw [if_pos e7, e7]
        have : fX_withLetter (lN (enc v)) (nI k) (nI 0) = lN (enc v) := by
          show lN (enc v) ||| ((nI 0).toInt64 <<< (((4 : Int32) * nI k).toInt64 &&& 63)) = _
          rw [show (nI 0).toInt64 = 0 by rfl, join_0]
        rw [this]
      · rw [if_neg e7, ← h7, withLetter_e h3 (by omega) (by rw [e5, pre_s (by omega), List.length_cons] at hlen; omega)]
    · by_cases e7 : l = 0
      · rw [if_pos e7, h5, e5, e7]; rfl
      · rw [if_neg e7, h5, e5, pre_s (by omega), List.append_assoc]; rfl
    · by_cases e7 : l = 0
      · right
        have := e3.2.2.2.2.2.2.2.1 e7
        refine ⟨this.1, ?_⟩
        rw [T_leaf h this.1, this.2.2] at g4
        have hm : q ∈ [(ch z c l, ([] : List Nat))] := List.mem_of_getElem? g4
        rw [List.mem_singleton] at hm
        rw [hm]
      · left
        rw [if_neg e7, List.length_append, List.length_singleton, h7]
theorem t_wordAt_no {z : Sz} {D : Nat → Nat} {t : TS} (h : WF z D) (ht : Ht z (Wz z D) t) {i : Int32} (hi : ¬ i < nI (Tz z D 0).length) : fT_wordAt i t = some 0 := by
  unfold fT_wordAt
  simp only [gw_let]
  by_cases e : i < 0
  · rw [if_pos e]
  · rw [if_neg e, t_words h ht, if_neg hi]
theorem dp12 {z : Sz} {D : Nat → Nat} (h : WF z D) {c : Nat} (hk : z.K c ≠ 0) (hb : z.B c ≠ 1) : D c ≤ 12 := by
  rcases h.k12 hk with h1 | h1
  · have := (h.inn h1).2.2.1; omega
  · have := h.len h1 hb; omega
theorem t_wordsWith {z : Sz} {D : Nat → Nat} {t : TS} (h : WF z D) (ht : Ht z (Wz z D) t) {w : List Nat} (hw : okw w) : fT_wordsWith (lN (enc w)) t = some (nI (nM w (Tz z D 0))) := by
  have h0 : z.K 0 ≠ 0 := by rw [h.root.1]; omega
  unfold fT_wordsWith
  refine lp_walk (fun k y => (∃ c u, z.K c ≠ 0 ∧ z.B c ≠ 1 ∧ D c = k ∧ okw u ∧ y = (nI c, lN (enc u), nI k) ∧ nM u (Tz z D c) = nM w (Tz z D 0)) ∨ (nM w (Tz z D 0) = 0 ∧ ∃ v, y = (-1, v, nI k))) 13 _ (Or.inl ⟨0, w, h0, by rw [h.root.2.2.1]; omega, h.root.2.2.2, hw, rfl, rfl⟩) ?_ (by omega)
  rintro k y hk (⟨c, u, h1, hb, h2, h3, rfl, h4⟩ | ⟨h1, v, rfl⟩)
  · have hc := h.lt h1
    have hd := dp12 h h1 hb
    try dsimp only
    rw [if_neg (show ¬ (12 : Int32) < nI k from nI_nlt (b := k) (a := 12) (by omega) (by omega)), if_neg (nI_m1 (by omega)), t_K ht hc]
    simp only [nI_K h]
    by_cases e : z.K c = 2
    · left
      rw [if_pos e, t_endOf h ht e]
      rw [T_leaf h e] at h4
      simp only [Option.bind_some]
      rw [t_begins (h.e.2.2.1 _) h3]
      simp only [Option.bind_some]
      rw [← h4]
      simp only [nM, List.countP_cons, List.countP_nil]
      by_cases e2 : pfx u (z.X (z.E c - 1)) = true
      · rw [if_pos e2, if_neg (by decide), if_pos e2]; rfl
      · rw [if_neg e2, if_pos rfl, if_neg e2]; rfl
    · have e1 : z.K c = 1 := by have := h.k12 h1; omega
      rw [if_neg e]
      cases u with
      | nil =>
        left
        rw [if_pos (show lN (enc []) = 0 by rfl), t_W ht hc, ← h4, nM_nil, T_len h h1]
      | cons l r =>
        right
        have hl := okw_head h3
        rw [if_neg (fun a => nomatch (encN_0 h3).mp a)]
        simp only [gw_let]
        rw [firstOf_e h3, withoutFirst_e h3, t_child ht hc (hd0_lt h3.2), nI_1]
        refine ⟨by omega, _, rfl, ?_⟩
        rw [nM_inner h e1 hl.1 (by omega)] at h4
        show (∃ c' u', _ ∧ _ ∧ _ ∧ _ ∧ (nz (ch z c l), lN (enc r), nI (k + 1)) = _ ∧ _) ∨ _ ∧ ∃ v, (nz (ch z c l), lN (enc r), nI (k + 1)) = _
        by_cases e2 : ch z c l = 0
        · right
          rw [Tc_0 e2] at h4
          rw [e2]
          exact ⟨h4.symm, _, rfl⟩
        · left
          rw [Tc_1 e2] at h4
          have e3 := h.chp e2
          exact ⟨ch z c l, r, e3.1, by omega, by rw [e3.2.2.2.2.2.2.1, h2], okw_tail h3, by rw [nz_1 e2], h4⟩
  · left
    try dsimp only
    rw [h1]
    by_cases e : k = 13
    · rw [if_pos (show (12 : Int32) < nI k by rw [e]; decide)]; rfl
    · rw [if_neg (show ¬ (12 : Int32) < nI k from nI_nlt (b := k) (a := 12) (by omega) (by omega)), if_pos rfl]; rfl
theorem t_wordsAhead {z : Sz} {D : Nat → Nat} {t : TS} (h : WF z D) (ht : Ht z (Wz z D) t) {w : List Nat} (hw : okw w) : fT_wordsAhead (lN (enc w)) t = some (nI (nA w (Tz z D 0))) := by
  have h0 : z.K 0 ≠ 0 := by rw [h.root.1]; omega
  unfold fT_wordsAhead
  refine lp_walk (fun k y => (∃ c u a, z.K c ≠ 0 ∧ z.B c ≠ 1 ∧ D c = k ∧ okw u ∧ y = (nI a, nI c, lN (enc u), nI k) ∧ a + nA u (Tz z D c) = nA w (Tz z D 0)) ∨ (∃ v, y = (nI (nA w (Tz z D 0)), -1, v, nI k))) 13 _ (Or.inl ⟨0, w, 0, h0, by rw [h.root.2.2.1]; omega, h.root.2.2.2, hw, rfl, Nat.zero_add _⟩) ?_ (by omega)
  rintro k y hk (⟨c, u, a, h1, hb, h2, h3, rfl, h4⟩ | ⟨v, rfl⟩)
  · have hc := h.lt h1
    have hd := dp12 h h1 hb
    try dsimp only
    rw [if_neg (show ¬ (12 : Int32) < nI k from nI_nlt (b := k) (a := 12) (by omega) (by omega)), if_neg (nI_m1 (by omega))]
    cases u with
    | nil =>
      left
      rw [if_pos (show lN (enc []) = 0 by rfl), ← h4, nA_nil, Nat.add_zero]
    | cons l r =>
      have hl := okw_head h3
      rw [if_neg (fun a => nomatch (encN_0 h3).mp a), t_K ht hc]
      simp only [nI_K h]
      by_cases e : z.K c = 2
      · left
        rw [if_pos e, t_endOf h ht e]
        rw [T_leaf h e] at h4
        simp only [Option.bind_some]
        rw [t_isAhead (h.e.2.2.1 _) h3]
        simp only [Option.bind_some]
        rw [← h4]
        simp only [nA, List.countP_cons, List.countP_nil]
        by_cases e2 : ltw (z.X (z.E c - 1)) (l :: r) = true
        · rw [if_pos e2, if_neg (by decide), if_pos e2, nI_1]
        · rw [if_neg e2, if_pos rfl, if_neg e2]; rfl
      · right
        have e1 : z.K c = 1 := by have := h.k12 h1; omega
        rw [if_neg e, firstOf_e h3]
        show _ ∧ ∃ y', ((fT_wordsBefore (nI c) (nI l) t).bind _) = _ ∧ _
        rw [t_wordsBefore h ht hc (by omega)]
        simp only [Option.bind_some, gw_let]
        rw [withoutFirst_e h3, t_child ht hc (hd0_lt h3.2), nI_1, nI_add]
        refine ⟨by omega, _, rfl, ?_⟩
        rw [nA_inner h e1 hl.1 (by omega)] at h4
        show (∃ c' u' a', _ ∧ _ ∧ _ ∧ _ ∧ (nI (a + bef z D c l), nz (ch z c l), lN (enc r), nI (k + 1)) = _ ∧ _) ∨ ∃ v, (nI (a + bef z D c l), nz (ch z c l), lN (enc r), nI (k + 1)) = _
        by_cases e2 : ch z c l = 0
        · right
          rw [Tc_0 e2] at h4
          rw [e2, ← h4]
          exact ⟨_, rfl⟩
        · left
          rw [Tc_1 e2] at h4
          have e3 := h.chp e2
          exact ⟨ch z c l, r, a + bef z D c l, e3.1, by omega, by rw [e3.2.2.2.2.2.2.1, h2], okw_tail h3, by rw [nz_1 e2], by omega⟩
  · left
    try dsimp only
    by_cases e : k = 13
    · rw [if_pos (show (12 : Int32) < nI k by rw [e]; decide)]
    · rw [if_neg (show ¬ (12 : Int32) < nI k from nI_nlt (b := k) (a := 12) (by omega) (by omega)), if_pos rfl]
