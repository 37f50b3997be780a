/-! the model's rows: ends, texts in a row -/
def Rw (r : Nat → Int32) (w : List Nat) : Prop := ∀ i, i < w.length → r i = nI (hd0 (w.drop i))
theorem drop_hd {w : List Nat} {k : Nat} (h : k < w.length) : w.drop k = hd0 (w.drop k) :: w.drop (k + 1) := by
  rw [List.drop_eq_getElem_cons h]; rfl
theorem i14 (p : Nat) : (800 : Int32) + ((14 : Int32) * nI p) = nI (800 + 14 * p) := by
  rw [show (14 : Int32) = nI 14 by rfl, nI_mul, show (800 : Int32) = nI 800 by rfl, nI_add]
theorem z_users {z : Sz} {t : MS} (h : Mz z (mZ t)) {p : Nat} (hp : p < 40) : fM_usersOf (nI p) t = some (nI (z.U p)) := by
  unfold fM_usersOf
  rw [i14, if_pos (inb_nI (by omega) (by omega)), nI_clamp' (by omega), h.u p hp]
theorem z_length {z : Sz} {t : MS} (h : Mz z (mZ t)) {p : Nat} (hp : p < 40) : fM_lengthOf (nI p) t = some (nI (z.X p).length) := by
  unfold fM_lengthOf
  rw [i14, nI_1, if_pos (inb_nI (by omega) (by omega)), nI_clamp' (by omega), h.n p hp]
theorem z_letter {z : Sz} {t : MS} (h : Mz z (mZ t)) {p i : Nat} (hp : p < 40) (hi : i < 12) : fM_letterOf (nI p) (nI i) t = some (nI (hd0 ((z.X p).drop i))) := by
  unfold fM_letterOf
  rw [i14, show (2 : Int32) = nI 2 by rfl, nI_add, nI_add, if_pos (inb_nI (by omega) (by omega)), nI_clamp' (by omega), h.x p i hp hi]
theorem nI_sub {a b : Nat} (h : b ≤ a) : nI a - nI b = nI (a - b) := by
  rw [show a = (a - b) + b by omega, ← nI_add, Int32.add_sub_cancel, Nat.add_sub_cancel]
theorem rw_at {r : Nat → Int32} {w : List Nat} (h : Rw r w) {k : Nat} (hk : k < w.length) (h31 : k < 2147483648) : r (nI k).toNatClampNeg = nI (hd0 (w.drop k)) := by
  rw [nI_clamp' h31, h k hk]
theorem z_isEnd {z : Sz} {t : MS} (hs : Sm z) (h : Mz z (mZ t)) {ra : MS → Nat → Int32} {w : List Nat} (hw : okw w) (hr : Rw (ra t) w) {p a : Nat} (hp : p < 40) (ha : a ≤ w.length) :
    fM_isEnd ra (nI p) (nI a) (nI w.length) t = some (if z.U p ≠ 0 ∧ z.X p = w.drop a then 1 else 0) := by
  have hu := hs.u p
  have hx := hs.x p
  have hw12 := hw.1
  have hx12 := hx.1
  have key : ∀ (v : Int32) (R : Int32), (v = 0 ∧ R = 0 ∨ v = 1 ∧ (z.X p).length = w.length - a ∧ R = if z.X p = w.drop a then 1 else 0) →
      gw_lp (σ := Int32 × Int32) (ω := Int32) (fun x7 =>
   if nI w.length ≤ x7.2 then
    some (.inl x7.1)
   else
    if x7.1 = 0 then
     some (.inl x7.1)
    else
     (fM_letterOf (nI p) (x7.2 - nI a) t).bind fun q10 =>
     if inb x7.2 12 then
     gw_let (α := Int32 → Option (Int32 ⊕ Int32 × Int32)) (fun v12 =>
      some (.inr (v12, (x7.2 + (1 : Int32))))
     ) fun j12 =>
     if q10 = (ra t x7.2.toNatClampNeg) then
      j12 (1 : Int32)
     else
      j12 (0 : Int32)
     else none
  ) gw_fl (v, nI a) = some R := by
    intro v R hv
    refine lp_walk (fun k y => k ≤ w.length - a ∧ ∃ v', y = (v', nI (a + k)) ∧ (v' = 0 ∧ R = 0 ∨ v' = 1 ∧ (z.X p).length = w.length - a ∧ R = if (z.X p).drop k = w.drop (a + k) then 1 else 0)) (w.length - a) R ⟨by omega, v, rfl, hv⟩ ?_ (by omega)
    rintro k y hk ⟨-, v', rfl, hv'⟩
    try dsimp only
    by_cases e : k = w.length - a
    · left
      rw [if_pos (nI_le (by omega) (by omega))]
      rcases hv' with ⟨rfl, rfl⟩ | ⟨rfl, h1, h2⟩
      · rfl
      · rw [h2, List.drop_eq_nil_of_le (by omega), List.drop_eq_nil_of_le (by omega)]; rfl
    · rw [if_neg (nI_ge (by omega) (by omega))]
      rcases hv' with ⟨rfl, rfl⟩ | ⟨rfl, h1, h2⟩
      · left
        rw [if_pos rfl]
      · right
        rw [if_neg (by decide), nI_sub (by omega), show a + k - a = k by omega, z_letter h hp (by omega)]
        simp only [Option.bind_some, gw_let]
        rw [if_pos (inb_nI (by omega) (by omega)), rw_at hr (by omega) (by omega), nI_1]
        have d1 := hd0_lt (okw_drop hx k).2
        have d2 := hd0_lt (okw_drop hw (a + k)).2
        have e1 : (z.X p).drop k = hd0 ((z.X p).drop k) :: (z.X p).drop (k + 1) := drop_hd (by omega)
        have e2 : w.drop (a + k) = hd0 (w.drop (a + k)) :: w.drop (a + (k + 1)) := drop_hd (by omega)
        refine ⟨by omega, ?_⟩
        by_cases e3 : hd0 ((z.X p).drop k) = hd0 (w.drop (a + k))
        · refine ⟨_, by rw [if_pos (by rw [e3])]; rfl, by omega, 1, rfl, Or.inr ⟨rfl, h1, ?_⟩⟩
          rw [h2]
          by_cases e4 : (z.X p).drop (k + 1) = w.drop (a + (k + 1))
          · rw [if_pos e4, if_pos (by rw [e1, e2, e3, e4])]
          · rw [if_neg e4, if_neg (fun b => e4 (by rw [e1, e2] at b; injection b))]
        · refine ⟨_, by rw [if_neg (fun b => e3 (nI_inj (by omega) (by omega) b))]; rfl, by omega, 0, rfl, Or.inl ⟨rfl, ?_⟩⟩
          rw [h2, if_neg (fun b => e3 (by rw [b]))]
  unfold fM_isEnd
  rw [z_users h hp]
  simp only [Option.bind_some, gw_let]
  by_cases e : z.U p = 0
  · rw [if_pos (show nI (z.U p) ≤ 0 by rw [e]; decide)]
    have := key 0 0 (Or.inl ⟨rfl, rfl⟩)
    simp only [gw_let] at this
    rw [this]
    simp only [Option.bind_some]
    rw [if_pos (Or.inl trivial), if_neg (fun a => a.1 e)]
  · rw [if_neg (nI_nle (by omega) (by omega)), z_length h hp]
    simp only [Option.bind_some]
    rw [nI_sub ha]
    by_cases e1 : (z.X p).length = w.length - a
    · rw [if_pos (by rw [e1])]
      have := key 1 (if z.X p = w.drop a then 1 else 0) (Or.inr ⟨rfl, e1, rfl⟩)
      simp only [gw_let] at this
      rw [this]
      simp only [Option.bind_some]
      by_cases e2 : z.X p = w.drop a
      · rw [if_pos e2, if_pos (Or.inr rfl), if_pos ⟨e, e2⟩]
      · rw [if_neg e2, if_pos (Or.inl rfl), if_neg (fun b => e2 b.2)]
    · rw [if_neg (fun b => e1 (nI_inj (by omega) (by omega) b))]
      have := key 0 0 (Or.inl ⟨rfl, rfl⟩)
      simp only [gw_let] at this
      rw [this]
      simp only [Option.bind_some]
      rw [if_pos (Or.inl trivial), if_neg (fun b => e1 (by rw [b.2, List.length_drop]))]
theorem z_leafOf {z : Sz} {D : Nat → Nat} {t : MS} (h : WF z D) (hz : Mz z (mZ t)) {ra : MS → Nat → Int32} {w : List Nat} (hw : okw w) (hr : Rw (ra t) w) : fM_leafOf ra (nI w.length) t = some (if w = [] then -1 else nz (Fz z D 0 w)) := by
  have hs := h.sml
  have h0 : z.K 0 ≠ 0 := by rw [h.root.1]; omega
  have hw12 := hw.1
  unfold fM_leafOf
  obtain ⟨o, h1, h2⟩ := lp_run (step := fun x1 : Int32 × Int32 =>
  if x1.1 = (-1 : Int32) then
   some (.inl (x1.1, x1.2))
  else
   (fM_isLeaf x1.1 t).bind fun q3 =>
   if q3 = 0 then
    gw_let (α := Int32 → Option ((Int32 × Int32) ⊕ Int32 × Int32)) (fun v5 =>
     (fM_child x1.1 v5 t).bind fun q8 =>
     some (.inr (q8, (x1.2 + (1 : Int32))))
    ) fun j5 =>
    if nI w.length ≤ x1.2 then
     j5 (0 : Int32)
    else
     if inb x1.2 12 then
     j5 (ra t x1.2.toNatClampNeg)
     else none
   else
    some (.inl (x1.1, x1.2)))
    (fun k y => (∃ c, z.K c ≠ 0 ∧ D c = k ∧ y = (nI c, nI k) ∧ Fz z D c (w.drop k) = Fz z D 0 w) ∨ (y.1 = -1 ∧ Fz z D 0 w = 0))
    (fun o => (o.1 = -1 ∧ Fz z D 0 w = 0) ∨ (∃ c, z.K c = 2 ∧ o = (nI c, nI (D c)) ∧ Fz z D c (w.drop (D c)) = Fz z D 0 w)) 14 ((0 : Int32), (0 : Int32))
    (Or.inl ⟨0, h0, h.root.2.2.2, rfl, rfl⟩) (by
      rintro k y hk (⟨c, g1, g2, rfl, g3⟩ | ⟨g1, g2⟩)
      · have hc := h.lt g1
        have hd := h.dp g1
        try dsimp only
        rw [if_neg (nI_m1 (by omega)), z_isLeaf hs hz hc]
        simp only [Option.bind_some]
        by_cases e : z.K c = 2
        · left
          rw [if_pos e, if_neg (by decide)]
          exact ⟨_, rfl, Or.inr ⟨c, e, by rw [g2], by rw [g2]; exact g3⟩⟩
        · right
          have e1 : z.K c = 1 := by have := h.k12 g1; omega
          have hD := (h.inn e1).2.2.1
          rw [if_neg e, if_pos rfl]
          simp only [gw_let]
          have hh : (if nI w.length ≤ nI k then ((fM_child (nI c) 0 t).bind fun q8 => some (Sum.inr (q8, nI k + (1 : Int32)))) else if inb (nI k) 12 then ((fM_child (nI c) (ra t (nI k).toNatClampNeg) t).bind fun q8 => some (Sum.inr (q8, nI k + 1))) else none) = (some (Sum.inr (nz (ch z c (hd0 (w.drop k))), nI (k + 1))) : Option ((Int32 × Int32) ⊕ Int32 × Int32)) := by
            have d1 := hd0_lt (okw_drop hw k).2
            by_cases e2 : w.length ≤ k
            · rw [if_pos (nI_le e2 (by omega)), show (0 : Int32) = nI 0 by rfl, z_child hs hz hc (by omega), List.drop_eq_nil_of_le e2, nI_1]
              rfl
            · rw [if_neg (nI_ge (by omega) (by omega)), if_pos (inb_nI (by omega) (by omega)), rw_at hr (by omega) (by omega), z_child hs hz hc (by omega), nI_1]
              rfl
          rw [hh]
          refine ⟨by omega, _, rfl, ?_⟩
          rw [F_inner h e1] at g3
          by_cases e2 : ch z c (hd0 (w.drop k)) = 0
          · right
            rw [if_pos e2] at g3
            rw [e2]
            exact ⟨rfl, g3.symm⟩
          · left
            rw [if_neg e2] at g3
            have e3 := h.chp e2
            refine ⟨_, e3.1, by rw [e3.2.2.2.2.2.2.1, g2], by rw [nz_1 e2], ?_⟩
            rw [← g3, List.tail_drop]
      · left
        obtain ⟨y1, y2⟩ := y
        dsimp only at g1 ⊢
        subst g1
        rw [if_pos rfl]
        exact ⟨_, rfl, Or.inl ⟨rfl, g2⟩⟩) (by omega)
  rw [h1]
  simp only [Option.bind_some, gw_let]
  rcases h2 with ⟨h2, h3⟩ | ⟨c, h2, h3, h4⟩
  · rw [if_pos h2, h3]
    split <;> rfl
  · subst h3
    have hc := h.lt (c := c) (by omega)
    have hd := h.dp (c := c) (by omega)
    obtain ⟨-, e, he, h40, heu⟩ := h.leaf h2
    try dsimp only
    rw [if_neg (nI_m1 (by omega))]
    by_cases e1 : w = []
    · rw [if_pos (by rw [e1]; rfl), if_pos e1]
    · have hl : w.length ≠ 0 := fun a => e1 (List.eq_nil_of_length_eq_zero a)
      rw [if_neg (nI_ne0 (by omega) (by omega)), if_neg e1, show (640 : Int32) = nI 640 by rfl, nI_add, if_pos (inb_nI (by omega) (by omega)), nI_clamp' (by omega), hz.e c hc, he, eI_s]
      rw [F_leaf h h2, he, Nat.add_sub_cancel] at h4
      have hc0 : c ≠ 0 := by intro a; subst a; have := h.root.1; omega
      by_cases e2 : w.length ≤ D c
      · rw [if_pos (nI_le e2 (by omega)), z_isEnd hs hz hw hr h40 (Nat.le_refl _), List.drop_eq_nil_of_le (Nat.le_refl _), ← h4, List.drop_eq_nil_of_le e2]
        simp only [Option.bind_some]
        by_cases e3 : z.X e = []
        · have hv : (if z.U e ≠ 0 ∧ z.X e = [] then (1 : Int32) else 0) = 1 := if_pos ⟨heu, e3⟩
          rw [hv, if_neg (by decide), if_pos e3, nz_1 hc0]
        · have hv : (if z.U e ≠ 0 ∧ z.X e = [] then (1 : Int32) else 0) = 0 := if_neg (fun a => e3 a.2)
          rw [hv, if_pos rfl, if_neg e3]; rfl
      · rw [if_neg (nI_ge (by omega) (by omega)), z_isEnd hs hz hw hr h40 (by omega), ← h4]
        simp only [Option.bind_some]
        by_cases e3 : z.X e = w.drop (D c)
        · have hv : (if z.U e ≠ 0 ∧ z.X e = w.drop (D c) then (1 : Int32) else 0) = 1 := if_pos ⟨heu, e3⟩
          rw [hv, if_neg (by decide), if_pos e3, nz_1 hc0]
        · have hv : (if z.U e ≠ 0 ∧ z.X e = w.drop (D c) then (1 : Int32) else 0) = 0 := if_neg (fun a => e3 a.2)
          rw [hv, if_pos rfl, if_neg e3]; rfl
