/-! the class's counts -/
theorem t_longest {z : Sz} {D : Nat → Nat} {t : TS} (h : WF z D) (ht : Ht z (Wz z D) t) {w : List Nat} (hw : okw w) : fT_longestAtStartOf (lN (enc w)) t = some (eI (lgs w (Tz z D 0) 0)) := by
  have h0 : z.K 0 ≠ 0 := by rw [h.root.1]; omega
  unfold fT_longestAtStartOf
  refine lp_walk (fun k y => (∃ c u b, z.K c ≠ 0 ∧ z.B c ≠ 1 ∧ D c = k ∧ okw u ∧ b < 100 ∧ y = (eI b, nI c, lN (enc u), nI k) ∧ (if lgs u (Tz z D c) 0 = 0 then b else k + lgs u (Tz z D c) 0) = lgs w (Tz z D 0) 0) ∨ (∃ v, y = (eI (lgs w (Tz z D 0) 0), -1, v, nI k))) 13 _ (Or.inl ⟨0, w, 0, h0, by rw [h.root.2.2.1]; omega, h.root.2.2.2, hw, by omega, rfl, ?_⟩) ?_ (by omega)
  · split
    · rename_i e; exact e.symm
    · exact Nat.zero_add _
  rintro k y hk (⟨c, u, b, h1, hb, h2, h3, hb1, rfl, h4⟩ | ⟨v, rfl⟩)
  · have hc := h.lt h1
    have hd := dp12 h h1 hb
    try dsimp only
    rw [if_neg (show ¬ (12 : Int32) < nI k from nI_nlt (b := k) (a := 12) (by omega) (by omega)), if_neg (nI_m1 (by omega)), t_K ht hc]
    simp only [nI_K h]
    by_cases e : z.K c = 2
    · left
      have hx := h.e.2.2.1 (z.E c - 1)
      rw [if_pos e, t_endOf h ht e]
      rw [T_leaf h e] at h4
      simp only [Option.bind_some]
      rw [t_begins h3 hx]
      simp only [Option.bind_some]
      have hL : lgs u [(c, z.X (z.E c - 1))] 0 = if pfx (z.X (z.E c - 1)) u = true then (z.X (z.E c - 1)).length + 1 else 0 := by
        simp [lgs]
      rw [← h4]
      by_cases e2 : pfx (z.X (z.E c - 1)) u = true
      · rw [if_pos e2] at hL
        rw [hL, if_pos e2, if_neg (by decide), t_lengthOf hx]
        simp only [Option.bind_some]
        rw [if_neg (by omega), nI_add, show k + ((z.X (z.E c - 1)).length + 1) = k + (z.X (z.E c - 1)).length + 1 by omega, eI_s]
      · rw [if_neg e2] at hL
        rw [hL, if_neg e2, if_pos rfl, if_pos rfl]
    · right
      have e1 : z.K c = 1 := by have := h.k12 h1; omega
      refine ⟨by omega, ?_⟩
      rw [if_neg e]
      simp only [gw_let]
      rw [show (0 : Int32) = nI 0 by rfl, t_child ht hc (by omega), show (0 : Int64) = lN (enc []) by rfl]
      have hL := lgs_inner h e1 u h3.2
      have hz1 := ch_lt z c 0
      cases u with
      | nil =>
        simp only at hL
        rw [if_pos rfl]
        by_cases e2 : ch z c 0 = 0
        · rw [e2, nz_0, if_pos rfl, nI_1]
          rw [if_pos e2] at hL
          rw [if_pos hL] at h4
          exact ⟨_, rfl, Or.inr ⟨_, by rw [h4]⟩⟩
        · rw [nz_1 e2, if_neg (nI_m1 (by omega)), nI_1]
          rw [if_neg e2] at hL
          rw [if_neg (by omega), hL] at h4
          exact ⟨_, rfl, Or.inr ⟨_, by rw [← h4, eI_s]⟩⟩
      | cons l r =>
        have hl := okw_head h3
        simp only at hL
        have hne : ¬ lN (enc (l :: r)) = lN (enc []) := fun a => nomatch (encN_eq h3 okw_nil).mp a
        rw [firstOf_e h3, withoutFirst_e h3, t_child ht hc (hd0_lt h3.2), nI_1]
        have hn : (∃ y', (some (Sum.inr ((if ch z c 0 = 0 then eI b else nI k), nz (ch z c l), lN (enc r), nI (k + 1))) : Option (Int32 ⊕ Int32 × Int32 × Int64 × Int32)) = some (Sum.inr y') ∧ ((∃ c' u' b', z.K c' ≠ 0 ∧ z.B c' ≠ 1 ∧ D c' = k + 1 ∧ okw u' ∧ b' < 100 ∧ y' = (eI b', nI c', lN (enc u'), nI (k + 1)) ∧ (if lgs u' (Tz z D c') 0 = 0 then b' else k + 1 + lgs u' (Tz z D c') 0) = lgs w (Tz z D 0) 0) ∨ (∃ v, y' = (eI (lgs w (Tz z D 0) 0), -1, v, nI (k + 1))))) := by
          refine ⟨_, rfl, ?_⟩
          have hbest : (if ch z c 0 = 0 then eI b else nI k) = eI (if ch z c 0 = 0 then b else k + 1) := by
            split
            · rfl
            · rw [eI_s]
          rw [hbest]
          by_cases e3 : ch z c l = 0
          · right
            rw [Tc_0 e3] at hL
            have hL2 : lgs (l :: r) (Tz z D c) 0 = if ch z c 0 = 0 then 0 else 1 := by rw [hL]; exact if_pos rfl
            refine ⟨lN (enc r), ?_⟩
            rw [e3, nz_0, ← h4, hL2]
            by_cases e2 : ch z c 0 = 0
            · rw [if_pos e2, if_pos e2, if_pos rfl]
            · rw [if_neg e2, if_neg e2, if_neg (by omega)]
          · left
            rw [Tc_1 e3] at hL
            have e4 := h.chp e3
            refine ⟨ch z c l, r, _, e4.1, by omega, by rw [e4.2.2.2.2.2.2.1, h2], okw_tail h3, ?_, by rw [nz_1 e3], ?_⟩
            · split <;> omega
            · rw [← h4, hL]
              by_cases e5 : lgs r (Tz z D (ch z c l)) 0 = 0
              · rw [if_pos e5, if_pos e5]
                by_cases e2 : ch z c 0 = 0
                · rw [if_pos e2, if_pos e2, if_pos rfl]
                · rw [if_neg e2, if_neg e2, if_neg (by omega)]
              · rw [if_neg e5, if_neg e5, if_neg (by omega)]; omega
        by_cases e2 : ch z c 0 = 0
        · rw [if_pos e2] at hn
          rw [e2, nz_0, if_pos rfl, if_neg hne]
          exact hn
        · rw [if_neg e2] at hn
          rw [nz_1 e2, if_neg (nI_m1 (by omega)), if_neg hne]
          exact hn
  · left
    try dsimp only
    by_cases e : k = 13
    · rw [if_pos (show (12 : Int32) < nI k by rw [e]; decide)]
    · rw [if_neg (show ¬ (12 : Int32) < nI k from nI_nlt (b := k) (a := 12) (by omega) (by omega)), if_pos rfl]
theorem t_innerCells {z : Sz} {W : Nat → Nat} {t : TS} (hs : Sm z) (h : Ht z W t) : fT_innerCells t = some (nI (cnt (fun c => decide (z.K c = 1)) 160)) := by
  unfold fT_innerCells
  rw [lp_eq (S := fun k => (nI (cnt (fun c => decide (z.K c = 1)) k), nI k)) (N := 160) (o := nI (cnt (fun c => decide (z.K c = 1)) 160))]
  · rfl
  · rfl
  · intro k hk
    have hb := hs.k k
    try dsimp only
    rw [if_neg (show ¬ (160 : Int32) ≤ nI k from nI_ge (b := 160) (by omega) (by omega)), if_pos (inb_nI (by omega) (by omega))]
    simp only [nI_clamp' (show k < 2147483648 by omega), h.k hk, cnt]
    by_cases h0 : z.K k = 1
    · rw [if_pos (by rw [h0]; rfl), if_pos (by simp [h0]), nI_1, nI_1]
    · rw [if_neg (show ¬ nI (z.K k) = (1 : Int32) from fun a => h0 ((nI_eq_iff (b := 1) (by omega) (by omega)).mp a)), if_neg (by simp [h0]), Nat.add_zero, nI_1]
  · dsimp only
    rw [if_pos (show (160 : Int32) ≤ nI 160 by decide)]
  · omega
/-- the greatest used cell below n -/
def gst (z : Sz) : Nat → Nat
  | 0 => 0
  | n + 1 => if z.K n = 0 then gst z n else n
theorem gst_lt (z : Sz) : ∀ n, gst z n ≤ n
  | 0 => Nat.le_refl _
  | n + 1 => by
    have := gst_lt z n
    rw [gst]; split <;> omega
theorem t_greatestUsed {z : Sz} {W : Nat → Nat} {t : TS} (hs : Sm z) (h : Ht z W t) : fT_greatestUsed t = some (nI (gst z 160)) := by
  unfold fT_greatestUsed
  rw [lp_eq (S := fun k => (nI (gst z k), nI k)) (N := 160) (o := nI (gst z 160))]
  · rfl
  · rfl
  · intro k hk
    have hb := hs.k k
    try dsimp only
    rw [if_neg (show ¬ (160 : Int32) ≤ nI k from nI_ge (b := 160) (by omega) (by omega)), if_pos (inb_nI (by omega) (by omega))]
    simp only [nI_clamp' (show k < 2147483648 by omega), h.k hk, gst]
    by_cases h0 : z.K k = 0
    · rw [if_pos (by rw [h0]; rfl), if_pos h0, nI_1]
    · rw [if_neg (nI_ne0 (by omega) (by omega)), if_neg h0, nI_1]
  · dsimp only
    rw [if_pos (show (160 : Int32) ≤ nI 160 by decide)]
  · omega
theorem t_kept {z : Sz} {W : Nat → Nat} {t : TS} (hs : Sm z) (h : Ht z W t) : fE_kept (tN t) = some (nI (cnt (fun p => decide (z.U p ≠ 0)) 40)) := by
  unfold fE_kept
  rw [lp_eq (S := fun k => (nI (cnt (fun p => decide (z.U p ≠ 0)) k), nI k)) (N := 40) (o := nI (cnt (fun p => decide (z.U p ≠ 0)) 40))]
  · rfl
  · rfl
  · intro k hk
    have hb := hs.u k
    try dsimp only
    rw [if_neg (show ¬ (40 : Int32) ≤ nI k from nI_ge (b := 40) (by omega) (by omega)), if_pos (inb_nI (by omega) (by omega))]
    simp only [nI_clamp' (show k < 2147483648 by omega), h.u hk, cnt]
    by_cases h0 : z.U k = 0
    · rw [if_pos (by rw [h0]; decide), if_neg (by simp [h0]), Nat.add_zero, nI_1]
    · rw [if_neg (nI_nle (by omega) (by omega)), if_pos (by simp [h0]), nI_1, nI_1]
  · dsimp only
    rw [if_pos (show (40 : Int32) ≤ nI 40 by decide)]
  · omega
theorem t_letters {z : Sz} {W : Nat → Nat} {t : TS} (hs : Sm z) (h : Ht z W t) : fE_letters (tN t) = some (nI (sm (fun p => (z.X p).length) 40)) := by
  unfold fE_letters
  rw [lp_eq (S := fun k => (nI (sm (fun p => (z.X p).length) k), nI k)) (N := 40) (o := nI (sm (fun p => (z.X p).length) 40))]
  · rfl
  · rfl
  · intro k hk
    try dsimp only
    rw [if_neg (show ¬ (40 : Int32) ≤ nI k from nI_ge (b := 40) (by omega) (by omega)), if_pos (inb_nI (by omega) (by omega)), nI_clamp' (by omega), h.x hk, t_lengthOf (hs.x k)]
    simp only [Option.bind_some, gw_let]
    rw [nI_add, nI_1]
    rfl
  · dsimp only
    rw [if_pos (show (40 : Int32) ≤ nI 40 by decide)]
  · omega
theorem t_lettersOfWords {z : Sz} {D : Nat → Nat} {t : TS} (h : WF z D) (ht : Ht z (Wz z D) t) : fT_lettersOfWords t = some (nI (lsum (Tz z D 0))) := by
  have hs := h.sml
  rw [lsum_T h]
  unfold fT_lettersOfWords
  rw [lp_eq (S := fun k => (nI (sm (fun y => (if 1 < z.B y then Wz z D y else 0) + (if z.K y = 2 then (z.X (z.E y - 1)).length else 0)) k), nI k)) (N := 160) (o := nI (sm (fun y => (if 1 < z.B y then Wz z D y else 0) + (if z.K y = 2 then (z.X (z.E y - 1)).length else 0)) 160))]
  · rfl
  · rfl
  · intro k hk
    have hb := hs.b k
    try dsimp only
    rw [if_neg (show ¬ (160 : Int32) ≤ nI k from nI_ge (b := 160) (by omega) (by omega))]
    simp only [gw_let]
    rw [t_K ht hk]
    simp only [nI_K h]
    rw [t_W ht hk, J_at_n _ hk (by omega), ht.b hk]
    have e1 : (eI (z.B k) ≤ 0) = ¬ (1 < z.B k) := by
      apply propext
      rw [Int32.le_iff_toInt_le, eI_toInt (by omega), Int32.toInt_zero]
      omega
    have e2 : ∀ v : Nat, (if z.K k = 2 then (fT_endOf (nI k) t).bind fun q7 => (fX_lengthOf q7).bind fun q8 => some (Sum.inr (nI v + q8, nI k + (1 : Int32))) else some (Sum.inr (nI v, nI k + 1))) = (some (Sum.inr (nI (v + if z.K k = 2 then (z.X (z.E k - 1)).length else 0), nI (k + 1))) : Option (Int32 ⊕ Int32 × Int32)) := by
      intro v
      by_cases e : z.K k = 2
      · rw [if_pos e, if_pos e, t_endOf h ht e]
        simp only [Option.bind_some]
        rw [t_lengthOf (hs.x _)]
        simp only [Option.bind_some]
        rw [nI_add, nI_1]
      · rw [if_neg e, if_neg e, nI_1]
        rfl
    by_cases e3 : 1 < z.B k
    · rw [if_neg (by rw [e1]; exact fun a => a e3), nI_add, e2]
      show _ = some (Sum.inr (nI (sm _ k + ((if 1 < z.B k then _ else _) + _)), _))
      rw [if_pos e3, Nat.add_assoc]
    · rw [if_pos (by rw [e1]; exact e3), e2]
      show _ = some (Sum.inr (nI (sm _ k + ((if 1 < z.B k then _ else _) + _)), _))
      rw [if_neg e3, Nat.zero_add]
  · dsimp only
    rw [if_pos (show (160 : Int32) ≤ nI 160 by decide)]
  · omega
