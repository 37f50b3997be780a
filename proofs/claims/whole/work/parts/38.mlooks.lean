/-! the model's looks -/
theorem z_lay {z : Sz} {D : Nat → Nat} {t : MS} (h : WF z D) (hz : Mz z (mZ t)) : Gd (Ly z D t) (fM_layBelow t) := by
  refine gd_mono (z_layBelow h hz) ?_
  rintro t' ⟨f, rfl, hf⟩
  exact ⟨⟨f, mWd t, mWl t, mWf t, rfl⟩, hf⟩
theorem z_word {z : Sz} {D : Nat → Nat} {t t1 : MS} (h : WF z D) (hz : Mz z (mZ t)) (hL : Ly z D t t1) {r : Nat} {p : Nat × List Nat} (hp : (Tz z D 0)[r]? = some p) : Gd (Wy z D t p) (fM_layWord (nI r) t1) := z_layWord h hz hL hp
/-- in how many first letters two texts are alike -/
def cpl : List Nat → List Nat → Nat
  | a :: u, b :: v => if a = b then cpl u v + 1 else 0
  | [], _ => 0
  | _ :: _, [] => 0
theorem cpl_le : ∀ u v : List Nat, cpl u v ≤ u.length ∧ cpl u v ≤ v.length
  | [], v => ⟨Nat.le_refl _, Nat.zero_le _⟩
  | a :: u, [] => ⟨Nat.zero_le _, Nat.le_refl _⟩
  | a :: u, b :: v => by
    have := cpl_le u v
    simp only [cpl, List.length_cons]
    split <;> omega
theorem cpl_pfx : ∀ u v : List Nat, cpl u v = v.length ↔ pfx v u = true
  | u, [] => by
    cases u <;> simp [cpl, pfx]
  | [], b :: v => by simp [cpl, pfx]
  | a :: u, b :: v => by
    simp only [cpl, pfx, List.length_cons]
    by_cases e : a = b
    · rw [if_pos e, if_pos e, ← cpl_pfx u v]; omega
    · rw [if_neg e, if_neg e]
      constructor
      · intro h; omega
      · intro h; cases h
theorem cpl_pfx' : ∀ u v : List Nat, cpl u v = u.length ↔ pfx u v = true
  | [], v => by simp [cpl, pfx]
  | a :: u, [] => by simp [cpl, pfx]
  | a :: u, b :: v => by
    simp only [cpl, pfx, List.length_cons]
    by_cases e : a = b
    · rw [if_pos e, if_pos e.symm, ← cpl_pfx' u v]; omega
    · rw [if_neg e, if_neg (fun x => e x.symm)]
      constructor
      · intro h; omega
      · intro h; cases h
theorem cpl_ltw : ∀ u v : List Nat, (cpl u v < v.length ∧ (cpl u v = u.length ∨ hd0 (u.drop (cpl u v)) < hd0 (v.drop (cpl u v)))) ↔ ltw u v = true
  | u, [] => by
    cases u <;> simp [cpl, ltw]
  | [], b :: v => by simp [cpl, ltw]
  | a :: u, b :: v => by
    simp only [cpl, ltw, List.length_cons]
    by_cases e : a = b
    · rw [if_pos e, if_pos e, ← cpl_ltw u v]
      simp only [List.drop_succ_cons]
      constructor
      · rintro ⟨h1, h2⟩
        exact ⟨by omega, h2.imp (fun x => by omega) id⟩
      · rintro ⟨h1, h2⟩
        exact ⟨by omega, h2.imp (fun x => by omega) id⟩
    · rw [if_neg e, if_neg e]
      show (0 < _ ∧ (0 = _ ∨ a < b)) ↔ _
      constructor
      · rintro ⟨-, h | h⟩
        · omega
        · exact decide_eq_true h
      · intro h
        exact ⟨by omega, Or.inr (of_decide_eq_true h)⟩
theorem cpl_step : ∀ {u v : List Nat} {k : Nat}, k ≤ cpl u v → k < u.length → k < v.length → (k < cpl u v ↔ hd0 (u.drop k) = hd0 (v.drop k))
  | [], _, _, _, h, _ => by simp at h
  | _ :: _, [], _, _, _, h => by simp at h
  | a :: u, b :: v, k, h1, h2, h3 => by
    simp only [cpl] at h1 ⊢
    by_cases e : a = b
    · rw [if_pos e] at h1 ⊢
      cases k with
      | zero =>
        constructor
        · intro _; exact e
        · intro _; omega
      | succ k =>
        simp only [List.drop_succ_cons, List.length_cons] at h2 h3 ⊢
        rw [← cpl_step (u := u) (v := v) (k := k) (by omega) (by omega) (by omega)]
        omega
    · rw [if_neg e] at h1 ⊢
      have : k = 0 := by omega
      subst this
      constructor
      · intro h; omega
      · intro h; exact absurd h e
theorem z_alike {t : MS} {u b : List Nat} (hu : okw u) (hb : okw b) (h1 : Rw (mWd t) u) (h2 : mWl t = nI u.length) (h3 : Rw (mBu t) b) (h4 : mTy t = nI b.length) : fM_alike t = some (nI (cpl u b)) := by
  have hu12 := hu.1
  have hb12 := hb.1
  have hc := cpl_le u b
  unfold fM_alike
  have : gw_lp (σ := Int32) (ω := Int32) (fun x1 =>
  if (mTy t) ≤ x1 then
   some (.inl x1)
  else
   if (mWl t) ≤ x1 then
    some (.inl x1)
   else
    if inb x1 13 then
    if inb x1 12 then
    if (mWd t x1.toNatClampNeg) = (mBu t x1.toNatClampNeg) then
     some (.inr (x1 + (1 : Int32)))
    else
     some (.inl x1)
    else none
    else none) gw_fl (0 : Int32) = some (nI (cpl u b)) := by
    refine lp_walk (fun k y => k ≤ cpl u b ∧ y = nI k) (cpl u b) _ ⟨by omega, rfl⟩ ?_ (by omega)
    rintro k y hk ⟨-, rfl⟩
    try dsimp only
    rw [h2, h4]
    by_cases e1 : b.length ≤ k
    · left
      rw [if_pos (nI_le e1 (by omega)), show k = cpl u b by omega]
    · rw [if_neg (nI_ge (by omega) (by omega))]
      by_cases e2 : u.length ≤ k
      · left
        rw [if_pos (nI_le e2 (by omega)), show k = cpl u b by omega]
      · rw [if_neg (nI_ge (by omega) (by omega)), if_pos (inb_nI (by omega) (by omega)), if_pos (inb_nI (by omega) (by omega)), rw_at h1 (by omega) (by omega), rw_at h3 (by omega) (by omega)]
        have d1 := hd0_lt (okw_drop hu k).2
        have d2 := hd0_lt (okw_drop hb k).2
        have hs := cpl_step (u := u) (v := b) hk (by omega) (by omega)
        by_cases e3 : hd0 (u.drop k) = hd0 (b.drop k)
        · right
          rw [if_pos (by rw [e3]), nI_1]
          have := hs.mpr e3
          exact ⟨this, _, rfl, by omega, rfl⟩
        · left
          rw [if_neg (fun a => e3 (nI_inj (by omega) (by omega) a))]
          have : ¬ k < cpl u b := fun a => e3 (hs.mp a)
          rw [show k = cpl u b by omega]
  rw [this]
  rfl
/-! loops over the words by their ranks -/
theorem take_s {α : Type} {L : List α} {k : Nat} {p : α} (h : L[k]? = some p) : L.take (k + 1) = L.take k ++ [p] := by
  rw [List.take_add_one, h]; rfl
theorem T_get {z : Sz} {D : Nat → Nat} {k : Nat} (hk : k < (Tz z D 0).length) : ∃ p, (Tz z D 0)[k]? = some p := ⟨_, List.getElem?_eq_getElem hk⟩
theorem Ly.b0 {z : Sz} {D : Nat → Nat} {t t' : MS} (h : WF z D) (hL : Ly z D t t') : mBe t' (0 : Int32).toNatClampNeg = nI (Tz z D 0).length := by
  rw [T_len h (by rw [h.root.1]; omega)]; exact hL.2 0 (by omega)
theorem inb0 : inb (0 : Int32) 160 := inb_nI (n := 0) (by omega) (by omega)
theorem z_lettersOfWords {z : Sz} {D : Nat → Nat} {t : MS} (h : WF z D) (hz : Mz z (mZ t)) : Gd (fun o => o.1 = nI (lsum (Tz z D 0)) ∧ Lz t o.2) (fM_lettersOfWords t) := by
  have hlen := T0_len h
  unfold fM_lettersOfWords
  refine gd_bind (z_lay h hz) (fun t1 hL => ?_)
  refine gd_bind (P := fun o => o.1 = nI (lsum (Tz z D 0)) ∧ Lz t o.2) ?_ (fun a ha => gd_some ha)
  refine gd_lp (fun k y => ∃ t2, Ly z D t t2 ∧ y = (nI (lsum ((Tz z D 0).take k)), nI k, t2)) (Tz z D 0).length ⟨t1, hL, rfl⟩ ?_ (by omega)
  rintro k y hk ⟨t2, hL2, rfl⟩
  try dsimp only
  rw [if_pos inb0, hL2.b0 h]
  by_cases e : k = (Tz z D 0).length
  · rw [if_pos (nI_le (by omega) (by omega))]
    exact gd_inl ⟨by rw [e, List.take_length], hL2.1⟩
  · rw [if_neg (nI_ge (by omega) (by omega))]
    obtain ⟨p, hp⟩ := T_get (z := z) (D := D) (k := k) (by omega)
    refine gd_bind (z_word h hz hL2 hp) (fun t3 hw => ?_)
    simp only [gw_let]
    rw [hw.2.2.1, nI_add, nI_1]
    refine gd_inr (by omega) ⟨t3, hw.1, ?_⟩
    rw [take_s hp, lsum, lsum, List.map_append, List.sum_append_nat]
    rfl
theorem z_beginning {z : Sz} {D : Nat → Nat} {t : MS} {b : List Nat} (h : WF z D) (hz : Mz z (mZ t)) (hb : okw b) (h3 : Rw (mBu t) b) (h4 : mTy t = nI b.length) : Gd (fun o => o.1 = nI (nM b (Tz z D 0)) ∧ Lz t o.2) (fM_beginningMany t) := by
  have hlen := T0_len h
  unfold fM_beginningMany
  refine gd_bind (z_lay h hz) (fun t1 hL => ?_)
  refine gd_bind (P := fun o => o.1 = nI (nM b (Tz z D 0)) ∧ Lz t o.2) ?_ (fun a ha => gd_some ha)
  refine gd_lp (fun k y => ∃ t2, Ly z D t t2 ∧ y = (nI (nM b ((Tz z D 0).take k)), nI k, t2)) (Tz z D 0).length ⟨t1, hL, rfl⟩ ?_ (by omega)
  rintro k y hk ⟨t2, hL2, rfl⟩
  try dsimp only
  rw [if_pos inb0, hL2.b0 h]
  by_cases e : k = (Tz z D 0).length
  · rw [if_pos (nI_le (by omega) (by omega))]
    exact gd_inl ⟨by rw [e, List.take_length], hL2.1⟩
  · rw [if_neg (nI_ge (by omega) (by omega))]
    obtain ⟨p, hp⟩ := T_get (z := z) (D := D) (k := k) (by omega)
    have hpo := T0_ok h (y := p.1) (u := p.2) (List.mem_of_getElem? hp)
    refine gd_bind (z_word h hz hL2 hp) (fun t3 hw => ?_)
    have hb12 := hb.1
    have hc := cpl_le p.2 b
    rw [z_alike hpo.1 hb hw.2.1 hw.2.2.1 (by rw [hw.1.1.bu]; exact h3) (by rw [hw.1.1.ty]; exact h4)]
    simp only [Option.bind_some, gw_let]
    rw [hw.1.1.ty, h4]
    have hx := cpl_pfx p.2 b
    have hm : nM b ((Tz z D 0).take (k + 1)) = nM b ((Tz z D 0).take k) + if pfx b p.2 = true then 1 else 0 := by
      rw [take_s hp, nM, List.countP_append, nM, List.countP_singleton]
    by_cases e2 : pfx b p.2 = true
    · rw [if_pos (by rw [hx.mpr e2]), nI_1, nI_1]
      refine gd_inr (by omega) ⟨t3, hw.1, ?_⟩
      rw [hm, if_pos e2]
    · rw [if_neg (fun a => e2 (hx.mp (nI_inj (by omega) (by omega) a))), Int32.add_zero, nI_1]
      refine gd_inr (by omega) ⟨t3, hw.1, ?_⟩
      rw [hm, if_neg e2]; rfl
theorem z_ahead {z : Sz} {D : Nat → Nat} {t : MS} {b : List Nat} (h : WF z D) (hz : Mz z (mZ t)) (hb : okw b) (h3 : Rw (mBu t) b) (h4 : mTy t = nI b.length) : Gd (fun o => o.1 = nI (nA b (Tz z D 0)) ∧ Lz t o.2) (fM_aheadMany t) := by
  have hlen := T0_len h
  unfold fM_aheadMany
  refine gd_bind (z_lay h hz) (fun t1 hL => ?_)
  refine gd_bind (P := fun o => o.1 = nI (nA b (Tz z D 0)) ∧ Lz t o.2) ?_ (fun a ha => gd_some ha)
  refine gd_lp (fun k y => ∃ t2, Ly z D t t2 ∧ y = (nI (nA b ((Tz z D 0).take k)), nI k, t2)) (Tz z D 0).length ⟨t1, hL, rfl⟩ ?_ (by omega)
  rintro k y hk ⟨t2, hL2, rfl⟩
  try dsimp only
  rw [if_pos inb0, hL2.b0 h]
  by_cases e : k = (Tz z D 0).length
  · rw [if_pos (nI_le (by omega) (by omega))]
    exact gd_inl ⟨by rw [e, List.take_length], hL2.1⟩
  · rw [if_neg (nI_ge (by omega) (by omega))]
    obtain ⟨p, hp⟩ := T_get (z := z) (D := D) (k := k) (by omega)
    have hpo := T0_ok h (y := p.1) (u := p.2) (List.mem_of_getElem? hp)
    refine gd_bind (z_word h hz hL2 hp) (fun t3 hw => ?_)
    have hb12 := hb.1
    have hp12 := hpo.1.1
    have hc := cpl_le p.2 b
    have hbu : mBu t3 = mBu t := hw.1.1.bu
    rw [z_alike hpo.1 hb hw.2.1 hw.2.2.1 (by rw [hbu]; exact h3) (by rw [hw.1.1.ty]; exact h4)]
    simp only [Option.bind_some, gw_let]
    rw [hw.1.1.ty, h4, hw.2.2.1, hbu]
    have hx := cpl_ltw p.2 b
    have hm : nA b ((Tz z D 0).take (k + 1)) = nA b ((Tz z D 0).take k) + if ltw p.2 b = true then 1 else 0 := by
      rw [take_s hp, nA, List.countP_append, nA, List.countP_singleton]
    have hno : ¬ ltw p.2 b = true → Gd (Sx (fun k y => ∃ t2, Ly z D t t2 ∧ y = (nI (nA b ((Tz z D 0).take k)), nI k, t2)) (fun o : Int32 × MS => o.1 = nI (nA b (Tz z D 0)) ∧ Lz t o.2) (Tz z D 0).length k) (some (Sum.inr (nI (nA b ((Tz z D 0).take k)) + 0, nI k + 1, t3))) := by
      intro e2
      rw [Int32.add_zero, nI_1]
      refine gd_inr (by omega) ⟨t3, hw.1, ?_⟩
      rw [hm, if_neg e2]; rfl
    have hyes : ltw p.2 b = true → Gd (Sx (fun k y => ∃ t2, Ly z D t t2 ∧ y = (nI (nA b ((Tz z D 0).take k)), nI k, t2)) (fun o : Int32 × MS => o.1 = nI (nA b (Tz z D 0)) ∧ Lz t o.2) (Tz z D 0).length k) (some (Sum.inr (nI (nA b ((Tz z D 0).take k)) + 1, nI k + 1, t3))) := by
      intro e2
      rw [nI_1, nI_1]
      refine gd_inr (by omega) ⟨t3, hw.1, ?_⟩
      rw [hm, if_pos e2]
    by_cases e1 : b.length ≤ cpl p.2 b
    · rw [if_pos (nI_le e1 (by omega)), if_pos trivial]
      exact hno (fun a => by have := (hx.mpr a).1; omega)
    · rw [if_neg (nI_ge (by omega) (by omega))]
      by_cases e2 : cpl p.2 b = p.2.length
      · rw [if_pos (by rw [e2]), if_neg (by decide)]
        exact hyes (hx.mp ⟨by omega, Or.inl e2⟩)
      · rw [if_neg (fun a => e2 (nI_inj (by omega) (by omega) a)), if_pos (inb_nI (by omega) (by omega)), if_pos (inb_nI (by omega) (by omega)), rw_at h3 (by omega) (by omega), rw_at hw.2.1 (by omega) (by omega)]
        have d1 := hd0_lt (okw_drop hpo.1 (cpl p.2 b)).2
        have d2 := hd0_lt (okw_drop hb (cpl p.2 b)).2
        by_cases e3 : hd0 (p.2.drop (cpl p.2 b)) < hd0 (b.drop (cpl p.2 b))
        · rw [if_neg (nI_ge e3 (by omega)), if_neg (by decide)]
          exact hyes (hx.mp ⟨by omega, Or.inr e3⟩)
        · rw [if_pos (nI_le (by omega) (by omega)), if_pos trivial]
          exact hno (fun a => by rcases (hx.mpr a).2 with q | q <;> omega)
theorem lgs_app (r : List Nat) (p : Nat × List Nat) : ∀ (L : List (Nat × List Nat)) (m : Nat), lgs r (L ++ [p]) m = if pfx p.2 r = true ∧ lgs r L m < p.2.length + 1 then p.2.length + 1 else lgs r L m
  | [], _ => rfl
  | q :: L, m => lgs_app r p L _
theorem lgs_le {r : List Nat} {L : List (Nat × List Nat)} (h : ∀ p ∈ L, p.2.length ≤ 12) : lgs r L 0 ≤ 13 := by
  rcases (lgs_max r L 0).2.2 with e | ⟨p, hp, -, e⟩
  · omega
  · have := h p hp; omega
theorem z_longest {z : Sz} {D : Nat → Nat} {t : MS} {b : List Nat} (h : WF z D) (hz : Mz z (mZ t)) (hb : okw b) (h3 : Rw (mBu t) b) (h4 : mTy t = nI b.length) : Gd (fun o => o.1 = eI (lgs b (Tz z D 0) 0) ∧ Lz t o.2) (fM_longestOne t) := by
  have hlen := T0_len h
  unfold fM_longestOne
  refine gd_bind (z_lay h hz) (fun t1 hL => ?_)
  refine gd_bind (P := fun o => o.1 = eI (lgs b (Tz z D 0) 0) ∧ Lz t o.2) ?_ (fun a ha => gd_some ha)
  refine gd_lp (fun k y => ∃ t2, Ly z D t t2 ∧ y = (eI (lgs b ((Tz z D 0).take k) 0), nI k, t2)) (Tz z D 0).length ⟨t1, hL, rfl⟩ ?_ (by omega)
  rintro k y hk ⟨t2, hL2, rfl⟩
  try dsimp only
  rw [if_pos inb0, hL2.b0 h]
  by_cases e : k = (Tz z D 0).length
  · rw [if_pos (nI_le (by omega) (by omega))]
    exact gd_inl ⟨by rw [e, List.take_length], hL2.1⟩
  · rw [if_neg (nI_ge (by omega) (by omega))]
    obtain ⟨p, hp⟩ := T_get (z := z) (D := D) (k := k) (by omega)
    have hpo := T0_ok h (y := p.1) (u := p.2) (List.mem_of_getElem? hp)
    refine gd_bind (z_word h hz hL2 hp) (fun t3 hw => ?_)
    have hb12 := hb.1
    have hp12 := hpo.1.1
    have hc := cpl_le p.2 b
    have hbu : mBu t3 = mBu t := hw.1.1.bu
    rw [z_alike hpo.1 hb hw.2.1 hw.2.2.1 (by rw [hbu]; exact h3) (by rw [hw.1.1.ty]; exact h4)]
    simp only [Option.bind_some, gw_let]
    rw [hw.2.2.1, nI_1]
    have hx := cpl_pfx' p.2 b
    have hl13 : lgs b ((Tz z D 0).take k) 0 ≤ 13 := lgs_le (fun q hq => (T0_ok h (y := q.1) (u := q.2) (List.mem_of_mem_take hq)).1.1)
    have hm := lgs_app b p ((Tz z D 0).take k) 0
    rw [← take_s hp] at hm
    have hle : (nI p.2.length ≤ eI (lgs b ((Tz z D 0).take k) 0)) = (p.2.length + 1 ≤ lgs b ((Tz z D 0).take k) 0) := by
      apply propext
      rw [Int32.le_iff_toInt_le, eI_toInt (by omega), nI_toInt (by omega)]
      omega
    by_cases e1 : cpl p.2 b = p.2.length
    · rw [if_pos (by rw [e1])]
      by_cases e2 : p.2.length + 1 ≤ lgs b ((Tz z D 0).take k) 0
      · rw [if_pos (by rw [hle]; exact e2)]
        refine gd_inr (by omega) ⟨t3, hw.1, ?_⟩
        rw [hm, if_neg (fun a => by omega)]
      · rw [if_neg (by rw [hle]; exact e2)]
        refine gd_inr (by omega) ⟨t3, hw.1, ?_⟩
        rw [hm, if_pos ⟨hx.mp e1, by omega⟩, eI_s]
    · rw [if_neg (fun a => e1 (nI_inj (by omega) (by omega) a))]
      refine gd_inr (by omega) ⟨t3, hw.1, ?_⟩
      rw [hm, if_neg (fun a => e1 (hx.mpr a.1))]
theorem z_leafBeginning {z : Sz} {D : Nat → Nat} {t : MS} {b : List Nat} (h : WF z D) (hz : Mz z (mZ t)) (hb : okw b) (h3 : Rw (mBu t) b) (h4 : mTy t = nI b.length) :
    Gd (fun o => Lz t o.2 ∧ ((nM b (Tz z D 0) = 0 ∧ o.1 = -1) ∨ (nM b (Tz z D 0) ≠ 0 ∧ ∃ p, (Tz z D 0)[nA b (Tz z D 0)]? = some p ∧ o.1 = nI p.1))) (fM_leafBeginning t) := by
  have hlen := T0_len h
  have h0 : z.K 0 ≠ 0 := by rw [h.root.1]; omega
  unfold fM_leafBeginning
  refine gd_bind (z_lay h hz) (fun t1 hL => ?_)
  refine gd_lp (fun k y => (∃ t2, Ly z D t t2 ∧ y = (nI k, t2)) ∧ (nM b (Tz z D 0) = 0 ∨ k ≤ nA b (Tz z D 0))) (Tz z D 0).length ⟨⟨t1, hL, rfl⟩, Or.inr (by omega)⟩ ?_ (by omega)
  rintro k y hk ⟨⟨t2, hL2, rfl⟩, hk2⟩
  try dsimp only
  rw [if_pos inb0, hL2.b0 h]
  by_cases e : k = (Tz z D 0).length
  · rw [if_pos (nI_le (by omega) (by omega))]
    refine gd_inl ⟨hL2.1, ?_⟩
    rcases hk2 with hk2 | hk2
    · exact Or.inl ⟨hk2, rfl⟩
    · have e1 : ∀ L : List (Nat × List Nat), nA b L + nM b L ≤ L.length := by
        intro L
        induction L with
        | nil => exact Nat.le_refl _
        | cons a L ihL =>
          simp only [nA, nM, List.countP_cons, List.length_cons] at ihL ⊢
          cases h1 : ltw a.2 b
          · cases h2 : pfx b a.2 <;> simp <;> omega
          · rw [ltw_pfx h1]; simp; omega
      have := e1 (Tz z D 0)
      exact Or.inl ⟨by omega, rfl⟩
  · rw [if_neg (nI_ge (by omega) (by omega))]
    obtain ⟨p, hp⟩ := T_get (z := z) (D := D) (k := k) (by omega)
    have hpo := T0_ok h (y := p.1) (u := p.2) (List.mem_of_getElem? hp)
    refine gd_bind (z_word h hz hL2 hp) (fun t3 hw => ?_)
    have hb12 := hb.1
    have hp12 := hpo.1.1
    have hc := cpl_le p.2 b
    have hbu : mBu t3 = mBu t := hw.1.1.bu
    rw [z_alike hpo.1 hb hw.2.1 hw.2.2.1 (by rw [hbu]; exact h3) (by rw [hw.1.1.ty]; exact h4)]
    simp only [Option.bind_some]
    rw [hw.1.1.ty, h4, hw.2.2.2, nI_1]
    have hx := cpl_pfx p.2 b
    have hsp := (T_spl h 0 h0 b hb.2 k p hp).2
    by_cases e1 : pfx b p.2 = true
    · rw [if_pos (by rw [hx.mpr e1])]
      have e2 := hsp.mp e1
      refine gd_inl ⟨hw.1.1, Or.inr ⟨by omega, p, ?_, rfl⟩⟩
      rw [show nA b (Tz z D 0) = k by omega]; exact hp
    · rw [if_neg (fun a => e1 (hx.mp (nI_inj (by omega) (by omega) a)))]
      refine gd_inr (by omega) ⟨⟨t3, hw.1, rfl⟩, ?_⟩
      rcases hk2 with hk2 | hk2
      · exact Or.inl hk2
      · by_cases e3 : nM b (Tz z D 0) = 0
        · exact Or.inl e3
        · right
          by_cases e4 : k = nA b (Tz z D 0)
          · exact absurd (hsp.mpr ⟨by omega, by omega⟩) e1
          · omega
theorem z_toldWord {z : Sz} {D : Nat → Nat} {t : MS} (h : WF z D) (hz : Mz z (mZ t)) {r : Int32} (hr : 0 ≤ r) {a : Nat} (ha : a ≤ 12) :
    Gd (fun o => Lz t o.2 ∧ ((¬ r < nI (Tz z D 0).length ∧ o.1 = -1) ∨ ∃ k p, r = nI k ∧ (Tz z D 0)[k]? = some p ∧ o.1 = if a ≤ p.2.length then nI (hd0 (p.2.drop a)) else -1)) (fM_toldWord r (nI a) t) := by
  have hlen := T0_len h
  unfold fM_toldWord
  refine gd_bind (z_lay h hz) (fun t1 hL => ?_)
  rw [if_pos inb0, hL.b0 h]
  by_cases e : r < nI (Tz z D 0).length
  · rw [if_pos e]
    have hr0 : ¬ r < 0 := by
      rw [Int32.lt_iff_toInt_lt]; rw [Int32.le_iff_toInt_le] at hr; omega
    obtain ⟨k, hk, rfl⟩ := nI_of hr0
    have hk2 : k < (Tz z D 0).length := (nI_lt_iff (by omega) (by omega)).mp e
    obtain ⟨p, hp⟩ := T_get (z := z) (D := D) (k := k) (by omega)
    have hpo := T0_ok h (y := p.1) (u := p.2) (List.mem_of_getElem? hp)
    have hp12 := hpo.1.1
    refine gd_bind (z_word h hz hL hp) (fun t3 hw => ?_)
    rw [hw.2.2.1]
    by_cases e1 : p.2.length ≤ a
    · rw [if_pos (nI_le e1 (by omega))]
      by_cases e2 : a = p.2.length
      · rw [if_pos (by rw [e2])]
        refine gd_some ⟨hw.1.1, Or.inr ⟨k, p, rfl, hp, ?_⟩⟩
        rw [if_pos (by omega), List.drop_eq_nil_of_le e1]; rfl
      · rw [if_neg (fun b => e2 (nI_inj (by omega) (by omega) b))]
        refine gd_some ⟨hw.1.1, Or.inr ⟨k, p, rfl, hp, ?_⟩⟩
        rw [if_neg (by omega)]
    · rw [if_neg (nI_ge (by omega) (by omega)), if_pos (inb_nI (by omega) (by omega)), rw_at hw.2.1 (by omega) (by omega)]
      refine gd_some ⟨hw.1.1, Or.inr ⟨k, p, rfl, hp, ?_⟩⟩
      rw [if_pos (by omega)]
  · rw [if_neg e]
    exact gd_some ⟨hL.1, Or.inl ⟨e, rfl⟩⟩
