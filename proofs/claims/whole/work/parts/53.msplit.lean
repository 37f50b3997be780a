/-! the model: two leaves at once -/
def frkM (ra : MS → Nat → Int32) (x1 x2 : Int32) (x3 : MS) (p2 p3 q3 : Int32) : Option (Int32 × MS ⊕ Int32 × Int32 × MS) :=
   gw_let (α := Int32 → Option (Int32 × MS ⊕ Int32 × Int32 × MS)) (fun v24 =>
    gw_let (α := Int32 → Option (Int32 × MS ⊕ Int32 × Int32 × MS)) (fun v27 =>
     (fM_open x1 (((1 : Int32) <<< (v24 &&& 31)) ||| ((1 : Int32) <<< (v27 &&& 31))) x3).bind fun q30 =>
     if q30.1 = 0 then
      some (.inl ((2 : Int32), q30.2))
     else
      (fM_putChild x1 v24 (2 : Int32) q30.2).bind fun q32 =>
      (fM_putChild x1 v27 (2 : Int32) q32.2).bind fun q33 =>
      gw_let (sMLn q33.2 q33.1) fun t34 =>
      gw_let (α := Int32 → Option (Int32 × MS ⊕ Int32 × Int32 × MS)) (fun v35 =>
       (fM_giveEnd mOl q32.1 v35 q3 t34).bind fun q37 =>
       if q37.1 = 0 then
        some (.inl ((2 : Int32), q37.2))
       else
        gw_let (α := Int32 → Option (Int32 × MS ⊕ Int32 × Int32 × MS)) (fun v39 =>
         (fM_giveEnd ra (mLn q37.2) v39 p3 q37.2).bind fun q41 =>
         if q41.1 = 0 then
          some (.inl ((2 : Int32), q41.2))
         else
          some (.inl ((0 : Int32), q41.2))
        ) fun j39 =>
        if p3 ≤ (p2 + x2) then
         j39 p3
        else
         j39 ((p2 + x2) + (1 : Int32))
      ) fun j35 =>
      if q3 ≤ x2 then
       j35 q3
      else
       j35 (x2 + (1 : Int32))
    ) fun j27 =>
    if p3 ≤ (p2 + x2) then
     j27 (0 : Int32)
    else
     if inb (p2 + x2) 12 then
     j27 (ra x3 (p2 + x2).toNatClampNeg)
     else none
   ) fun j24 =>
   if q3 ≤ x2 then
    j24 (0 : Int32)
   else
    if inb x2 12 then
    j24 (mOl x3 x2.toNatClampNeg)
    else none
def zp1 (z : Sz) (c o l : Nat) : Sz := sE (sB (sP (sK (sO z (fu z.O c o)) (fu z.K (o + l) 2)) (fu z.P (o + l) (c + 1))) (fu z.B (o + l) (l + 1))) (fu z.E (o + l) 0)
def zp2 (z : Sz) (c o l : Nat) : Sz := sE (sB (sP (sK z (fu z.K (o + l) 2)) (fu z.P (o + l) (c + 1))) (fu z.B (o + l) (l + 1))) (fu z.E (o + l) 0)
theorem frk_z {z : Sz} {c o l1 l2 p p' : Nat} {U1 U2 : Nat → Nat} {X1 X2 : Nat → List Nat} (hne : o + l1 ≠ o + l2) :
    sE (sX (sE (sX (zp2 (zp1 z c o l1) c o l2) U1 X1) (fu (zp2 (zp1 z c o l1) c o l2).E (o + l1) (p + 1))) U2 X2) (fu (fu (zp2 (zp1 z c o l1) c o l2).E (o + l1) (p + 1)) (o + l2) (p' + 1)) = putC (putC z c o l1 2 (p + 1) U1 X1) c o l2 2 (p' + 1) U2 X2 := by
  have h1 : fu (fu (fu (fu z.E (o + l1) 0) (o + l2) 0) (o + l1) (p + 1)) (o + l2) (p' + 1) = fu (fu z.E (o + l1) (p + 1)) (o + l2) (p' + 1) := by
    rw [fu_comm (fu z.E (o + l1) 0) 0 (p + 1) (fun q => hne q.symm), fu_fu, fu_fu]
  show (_, _, _, fu z.O c o, fu (fu (fu (fu z.E (o + l1) 0) (o + l2) 0) (o + l1) (p + 1)) (o + l2) (p' + 1), _, _, _) = (_, _, _, fu (fu z.O c o) c o, fu (fu z.E (o + l1) (p + 1)) (o + l2) (p' + 1), _, _, _)
  rw [fu_fu z.O, h1]
  rfl
theorem z_frk {z : Sz} {D : Nat → Nat} {t : MS} (h : WF z D) (hz : Mz z (mZ t)) {ra : MS → Nat → Int32} (hA : Ap2 ra) {w u : List Nat} (hw : okw w) (hr : Rw (ra t) w) (hu : okw u) (ho : Rw (mOl t) u) {c k a : Nat} (hcK : z.K c = 1) (hO : z.O c = 0) (hk : k ≤ u.length) (hak : a + k ≤ w.length) (hpt : Part D c (u.drop k) (w.drop (a + k))) (hne : hd0 (u.drop k) ≠ hd0 (w.drop (a + k))) :
    Gd (fun r : Int32 × MS ⊕ Int32 × Int32 × MS => ∃ o, r = .inl o ∧ Az t o.2 ∧ (frkS z c (u.drop k) (w.drop (a + k)) = none → o.1 = 2) ∧ ∀ x zf, frkS z c (u.drop k) (w.drop (a + k)) = some (x, zf) → o.1 = 0 ∧ Mz zf (mZ o.2) ∧ mLn o.2 = nI x) (frkM ra (nI c) (nI k) t (nI a) (nI w.length) (nI u.length)) := by
  have hs := h.sml
  have hc := h.lt (c := c) (by omega)
  have hw12 := hw.1
  have hu12 := hu.1
  have l1 := hd0_lt hpt.1.2
  have l2 := hd0_lt hpt.2.1.2
  have hm1 : 2 ^ hd0 (u.drop k) < 512 := Nat.pow_lt_pow_right (n := 9) (by omega) l1
  have hm : 2 ^ hd0 (u.drop k) ||| 2 ^ hd0 (w.drop (a + k)) < 512 := or_lt hm1 l2
  have tu := tail_len hpt.1
  have tr := tail_len hpt.2.1
  -- behind the two letters
  have key : ∀ v1 v2 : Int32, v1 = nI (hd0 (u.drop k)) → v2 = nI (hd0 (w.drop (a + k))) →
      Gd (fun r : Int32 × MS ⊕ Int32 × Int32 × MS => ∃ o, r = .inl o ∧ Az t o.2 ∧ (frkS z c (u.drop k) (w.drop (a + k)) = none → o.1 = 2) ∧ ∀ x zf, frkS z c (u.drop k) (w.drop (a + k)) = some (x, zf) → o.1 = 0 ∧ Mz zf (mZ o.2) ∧ mLn o.2 = nI x)
      ((fM_open (nI c) (((1 : Int32) <<< (v1 &&& 31)) ||| ((1 : Int32) <<< (v2 &&& 31))) t).bind fun q30 =>
     if q30.1 = 0 then
      some (.inl ((2 : Int32), q30.2))
     else
      (fM_putChild (nI c) v1 (2 : Int32) q30.2).bind fun q32 =>
      (fM_putChild (nI c) v2 (2 : Int32) q32.2).bind fun q33 =>
      gw_let (sMLn q33.2 q33.1) fun t34 =>
      gw_let (α := Int32 → Option (Int32 × MS ⊕ Int32 × Int32 × MS)) (fun v35 =>
       (fM_giveEnd mOl q32.1 v35 (nI u.length) t34).bind fun q37 =>
       if q37.1 = 0 then
        some (.inl ((2 : Int32), q37.2))
       else
        gw_let (α := Int32 → Option (Int32 × MS ⊕ Int32 × Int32 × MS)) (fun v39 =>
         (fM_giveEnd ra (mLn q37.2) v39 (nI w.length) q37.2).bind fun q41 =>
         if q41.1 = 0 then
          some (.inl ((2 : Int32), q41.2))
         else
          some (.inl ((0 : Int32), q41.2))
        ) fun j39 =>
        if (nI w.length) ≤ (nI a + nI k) then
         j39 (nI w.length)
        else
         j39 ((nI a + nI k) + (1 : Int32))
      ) fun j35 =>
      if (nI u.length) ≤ (nI k) then
       j35 (nI u.length)
      else
       j35 (nI k + (1 : Int32))) := by
    rintro v1 v2 rfl rfl
    rw [shl_e _ l1, shl_e _ l2, or_e _ hm1 _ l2]
    obtain ⟨o1, o2⟩ := z_open hs hz hc hm
    by_cases e : lst z (2 ^ hd0 (u.drop k) ||| 2 ^ hd0 (w.drop (a + k))) = 0
    · have hS : frkS z c (u.drop k) (w.drop (a + k)) = none := by rw [frkS, if_pos e]
      rw [o1 e]
      simp only [Option.bind_some]
      first | rw [if_pos rfl] | rw [if_pos trivial]
      exact gd_some ⟨_, rfl, Az.refl t, fun _ => rfl, fun x zf q => by rw [hS] at q; cases q⟩
    · obtain ⟨p1, p2, p3, p4⟩ := frk_ok1 hcK hO hpt e
      have hS : frkS z c (u.drop k) (w.drop (a + k)) = match hangS z c (lst z (2 ^ hd0 (u.drop k) ||| 2 ^ hd0 (w.drop (a + k)))) (hd0 (u.drop k)) (u.drop k).tail with
        | none => none
        | some (_, z1) => hangS z1 c (lst z (2 ^ hd0 (u.drop k) ||| 2 ^ hd0 (w.drop (a + k)))) (hd0 (w.drop (a + k))) (w.drop (a + k)).tail := by
        rw [frkS, if_neg e]
        rfl
      obtain ⟨f0, e0, m0⟩ := o2 e
      rw [e0]
      simp only [Option.bind_some]
      rw [if_neg (by decide)]
      generalize lst z (2 ^ hd0 (u.drop k) ||| 2 ^ hd0 (w.drop (a + k))) = o at e p1 p2 p3 hS m0 o1 o2 e0
      have hx2c : o + hd0 (w.drop (a + k)) ≠ c := by intro q; rw [q] at p2; omega
      have hx1c : o + hd0 (u.drop k) ≠ c := by intro q; have := p1.2.2.2.2.2.1; rw [q] at this; omega
      obtain ⟨f1, e1, m1⟩ := z_putChild (t := sMZ t f0) (l := hd0 (u.drop k)) m0 hc (fu_eq _ _ _) p1.2.2.2.2.1 (by show fu z.O c o _ = 0; rw [fu_ne _ _ hx1c]; exact (h.free p1.2.2.2.2.2.1).2.2.1) (k := 2) (kk := 2) rfl
      rw [e1]
      simp only [Option.bind_some]
      have m1' : Mz (zp1 z c o (hd0 (u.drop k))) f1 := m1
      obtain ⟨f2, e2, m2⟩ := z_putChild (t := sMZ (sMZ t f0) f1) (l := hd0 (w.drop (a + k))) m1' hc (fu_eq _ _ _) p3 (by show fu z.O c o _ = 0; rw [fu_ne _ _ hx2c]; exact (h.free p2).2.2.1) (k := 2) (kk := 2) rfl
      rw [e2]
      simp only [Option.bind_some]
      rw [gw_let]
      try dsimp only
      rw [gw_let]
      try dsimp only
      have m2' : Mz (zp2 (zp1 z c o (hd0 (u.drop k))) c o (hd0 (w.drop (a + k)))) f2 := m2
      have hsp1 : Sm (zp1 z c o (hd0 (u.drop k))) := Sm_E (Sm_B (Sm_P (Sm_K (Sm_O hs (fu_bd hs.o p1.2.2.2.1)) (fu_bd hs.k (by omega))) (fu_bd hs.p (by omega))) (fu_bd hs.b (by omega))) (fu_bd hs.e (by omega))
      have hsp2 : Sm (zp2 (zp1 z c o (hd0 (u.drop k))) c o (hd0 (w.drop (a + k)))) := Sm_E (Sm_B (Sm_P (Sm_K hsp1 (fu_bd hsp1.k (by omega))) (fu_bd hsp1.p (by omega))) (fu_bd hsp1.b (by omega))) (fu_bd hsp1.e (by omega))
      have hdu : u.drop (min (k + 1) u.length) = (u.drop k).tail := by
        rw [List.tail_drop]
        by_cases e : k + 1 ≤ u.length
        · rw [Nat.min_eq_left e]
        · rw [Nat.min_eq_right (by omega), List.drop_eq_nil_of_le (Nat.le_refl _), List.drop_eq_nil_of_le (by omega)]
      have hdw : w.drop (min (a + k + 1) w.length) = (w.drop (a + k)).tail := by
        rw [List.tail_drop]
        by_cases e : a + k + 1 ≤ w.length
        · rw [Nat.min_eq_left e]
        · rw [Nat.min_eq_right (by omega), List.drop_eq_nil_of_le (Nat.le_refl _), List.drop_eq_nil_of_le (by omega)]
      have haz : Az t (sMLn (sMZ (sMZ (sMZ t f0) f1) f2) (nI (o + hd0 (w.drop (a + k))))) := ((Az.refl t).z f2).ln _
      have hg1 : ∀ v : Int32, v = nI (min (k + 1) u.length) → Gd (fun r : Int32 × MS ⊕ Int32 × Int32 × MS => ∃ o, r = .inl o ∧ Az t o.2 ∧ (frkS z c (u.drop k) (w.drop (a + k)) = none → o.1 = 2) ∧ ∀ x zf, frkS z c (u.drop k) (w.drop (a + k)) = some (x, zf) → o.1 = 0 ∧ Mz zf (mZ o.2) ∧ mLn o.2 = nI x)
         ((fM_giveEnd mOl (nI (o + hd0 (u.drop k))) v (nI u.length) (sMLn (sMZ (sMZ (sMZ t f0) f1) f2) (nI (o + hd0 (w.drop (a + k)))))).bind fun q37 =>
       if q37.1 = 0 then
        some (.inl ((2 : Int32), q37.2))
       else
        gw_let (α := Int32 → Option (Int32 × MS ⊕ Int32 × Int32 × MS)) (fun v39 =>
         (fM_giveEnd ra (mLn q37.2) v39 (nI w.length) q37.2).bind fun q41 =>
         if q41.1 = 0 then
          some (.inl ((2 : Int32), q41.2))
         else
          some (.inl ((0 : Int32), q41.2))
        ) fun j39 =>
        if (nI w.length) ≤ (nI a + nI k) then
         j39 (nI w.length)
        else
         j39 ((nI a + nI k) + (1 : Int32))) := by
        rintro v rfl
        refine gd_bind (z_giveEnd hsp2 h.e (t := sMLn (sMZ (sMZ (sMZ t f0) f1) f2) (nI (o + hd0 (w.drop (a + k))))) m2' (ra := mOl) (fun _ _ => rfl) hu ho (a := min (k + 1) u.length) (Nat.min_le_right _ _) (c := o + hd0 (u.drop k)) p1.2.2.2.2.1) ?_
        rintro q ⟨q1, q2⟩
        rw [hdu] at q1 q2
        have q1' : plc z.U z.X (u.drop k).tail = 0 → q = (0, sMLn (sMZ (sMZ (sMZ t f0) f1) f2) (nI (o + hd0 (w.drop (a + k))))) := q1
        have q2' : ∀ p, plc z.U z.X (u.drop k).tail = p + 1 → ∃ f, q = (1, sMZ (sMLn (sMZ (sMZ (sMZ t f0) f1) f2) (nI (o + hd0 (w.drop (a + k))))) f) ∧ Mz (sE (sX (zp2 (zp1 z c o (hd0 (u.drop k))) c o (hd0 (w.drop (a + k)))) (gU z.U p) (gX z.X p (u.drop k).tail)) (fu (zp2 (zp1 z c o (hd0 (u.drop k))) c o (hd0 (w.drop (a + k)))).E (o + hd0 (u.drop k)) (p + 1))) f := q2
        by_cases ep : plc z.U z.X (u.drop k).tail = 0
        · have hS1 : frkS z c (u.drop k) (w.drop (a + k)) = none := by rw [hS, hangS, if_pos ep]
          rw [q1' ep]
          try dsimp only
          first | rw [if_pos rfl] | rw [if_pos trivial]
          exact gd_some ⟨_, rfl, haz, fun _ => rfl, fun x zf q => by rw [hS1] at q; cases q⟩
        · obtain ⟨p, hpp⟩ : ∃ p, plc z.U z.X (u.drop k).tail = p + 1 := ⟨plc z.U z.X (u.drop k).tail - 1, by omega⟩
          have hE := putE_leaf h (c := c) (l := hd0 (u.drop k)) (okw_tl hpt.1) hpp (fun q => ⟨tu.1 q, hpt.2.2.2.2⟩) (fun q => by have := tu.2 q; have := hpt.2.2.1; omega)
          have hw1 := put_wf h p1 hE
          have hS1 : frkS z c (u.drop k) (w.drop (a + k)) = hangS (putC z c o (hd0 (u.drop k)) 2 (p + 1) (gU z.U p) (gX z.X p (u.drop k).tail)) c o (hd0 (w.drop (a + k))) (w.drop (a + k)).tail := by
            rw [hS, hangS, if_neg ep, hpp, Nat.add_sub_cancel]
          obtain ⟨f3, e3, m3⟩ := q2' p hpp
          rw [e3]
          try dsimp only
          rw [if_neg (by decide), gw_let]
          try dsimp only
          have hs3 : Sm (sE (sX (zp2 (zp1 z c o (hd0 (u.drop k))) c o (hd0 (w.drop (a + k)))) (gU z.U p) (gX z.X p (u.drop k).tail)) (fu (zp2 (zp1 z c o (hd0 (u.drop k))) c o (hd0 (w.drop (a + k)))).E (o + hd0 (u.drop k)) (p + 1))) := by
            have h40 := plc_le z.U z.X (u.drop k).tail
            exact ⟨hsp2.k, hsp2.p, hsp2.b, hsp2.o, fu_bd hsp2.e (by omega), hw1.sml.u, hw1.sml.x⟩
          have hg2 : ∀ v : Int32, v = nI (min (a + k + 1) w.length) → Gd (fun r : Int32 × MS ⊕ Int32 × Int32 × MS => ∃ o, r = .inl o ∧ Az t o.2 ∧ (frkS z c (u.drop k) (w.drop (a + k)) = none → o.1 = 2) ∧ ∀ x zf, frkS z c (u.drop k) (w.drop (a + k)) = some (x, zf) → o.1 = 0 ∧ Mz zf (mZ o.2) ∧ mLn o.2 = nI x)
              ((fM_giveEnd ra (nI (o + hd0 (w.drop (a + k)))) v (nI w.length) (sMZ (sMLn (sMZ (sMZ (sMZ t f0) f1) f2) (nI (o + hd0 (w.drop (a + k))))) f3)).bind fun q41 =>
         if q41.1 = 0 then
          some (.inl ((2 : Int32), q41.2))
         else
          some (.inl ((0 : Int32), q41.2))) := by
            rintro v rfl
            have hr' : Rw (ra (sMZ (sMLn (sMZ (sMZ (sMZ t f0) f1) f2) (nI (o + hd0 (w.drop (a + k))))) f3)) w := by
              rw [hA.r (haz.z f3)]; exact hr
            refine gd_bind (z_giveEnd hs3 hw1.e (t := sMZ (sMLn (sMZ (sMZ (sMZ t f0) f1) f2) (nI (o + hd0 (w.drop (a + k))))) f3) m3 hA.a hw hr' (a := min (a + k + 1) w.length) (Nat.min_le_right _ _) (c := o + hd0 (w.drop (a + k))) p3) ?_
            rintro q' ⟨q3, q4⟩
            rw [hdw] at q3 q4
            have q3' : plc (gU z.U p) (gX z.X p (u.drop k).tail) (w.drop (a + k)).tail = 0 → q' = (0, _) := q3
            by_cases ep2 : plc (gU z.U p) (gX z.X p (u.drop k).tail) (w.drop (a + k)).tail = 0
            · have hS2 : frkS z c (u.drop k) (w.drop (a + k)) = none := by rw [hS1, hangS, put_U, put_X, if_pos ep2]
              rw [q3' ep2]
              try dsimp only
              first | rw [if_pos rfl] | rw [if_pos trivial]
              exact gd_some ⟨_, rfl, haz.z f3, fun _ => rfl, fun x zf q => by rw [hS2] at q; cases q⟩
            · obtain ⟨p', hpp'⟩ : ∃ p', plc (gU z.U p) (gX z.X p (u.drop k).tail) (w.drop (a + k)).tail = p' + 1 := ⟨plc (gU z.U p) (gX z.X p (u.drop k).tail) (w.drop (a + k)).tail - 1, by omega⟩
              have hS2 : frkS z c (u.drop k) (w.drop (a + k)) = some (o + hd0 (w.drop (a + k)), putC (putC z c o (hd0 (u.drop k)) 2 (p + 1) (gU z.U p) (gX z.X p (u.drop k).tail)) c o (hd0 (w.drop (a + k))) 2 (p' + 1) (gU (gU z.U p) p') (gX (gX z.X p (u.drop k).tail) p' (w.drop (a + k)).tail)) := by
                rw [hS1, hangS, put_U, put_X, hpp', if_neg (by omega), Nat.add_sub_cancel]
              obtain ⟨f4, e4, m4⟩ := q4 p' hpp'
              rw [e4]
              try dsimp only
              rw [if_neg (by decide)]
              refine gd_some ⟨_, rfl, (haz.z f3).z f4, fun q => (by rw [hS2] at q; cases q), fun x zf q => ?_⟩
              rw [hS2] at q
              obtain ⟨v1, v2⟩ := Prod.mk.inj (Option.some.inj q)
              rw [← v1, ← v2, ← frk_z (by omega)]
              exact ⟨rfl, m4, rfl⟩
          rw [nI_add]
          by_cases e5 : w.length ≤ a + k
          · rw [if_pos (nI_le e5 (by omega))]
            exact hg2 _ (by rw [Nat.min_eq_right (by omega)])
          · rw [if_neg (nI_ge (by omega) (by omega)), nI_1]
            exact hg2 _ (by rw [Nat.min_eq_left (by omega)])
      by_cases e5 : u.length ≤ k
      · rw [if_pos (nI_le e5 (by omega))]
        exact hg1 _ (by rw [Nat.min_eq_right (by omega)])
      · rw [if_neg (nI_ge (by omega) (by omega)), nI_1]
        exact hg1 _ (by rw [Nat.min_eq_left (by omega)])
  unfold frkM
  rw [gw_let]
  try dsimp only
  have hsecond : ∀ v1 : Int32, v1 = nI (hd0 (u.drop k)) → Gd (fun r : Int32 × MS ⊕ Int32 × Int32 × MS => ∃ o, r = .inl o ∧ Az t o.2 ∧ (frkS z c (u.drop k) (w.drop (a + k)) = none → o.1 = 2) ∧ ∀ x zf, frkS z c (u.drop k) (w.drop (a + k)) = some (x, zf) → o.1 = 0 ∧ Mz zf (mZ o.2) ∧ mLn o.2 = nI x)
    (gw_let (α := Int32 → Option (Int32 × MS ⊕ Int32 × Int32 × MS)) (fun v27 =>
     (fM_open (nI c) (((1 : Int32) <<< (v1 &&& 31)) ||| ((1 : Int32) <<< (v27 &&& 31))) t).bind fun q30 =>
     if q30.1 = 0 then
      some (.inl ((2 : Int32), q30.2))
     else
      (fM_putChild (nI c) v1 (2 : Int32) q30.2).bind fun q32 =>
      (fM_putChild (nI c) v27 (2 : Int32) q32.2).bind fun q33 =>
      gw_let (sMLn q33.2 q33.1) fun t34 =>
      gw_let (α := Int32 → Option (Int32 × MS ⊕ Int32 × Int32 × MS)) (fun v35 =>
       (fM_giveEnd mOl q32.1 v35 (nI u.length) t34).bind fun q37 =>
       if q37.1 = 0 then
        some (.inl ((2 : Int32), q37.2))
       else
        gw_let (α := Int32 → Option (Int32 × MS ⊕ Int32 × Int32 × MS)) (fun v39 =>
         (fM_giveEnd ra (mLn q37.2) v39 (nI w.length) q37.2).bind fun q41 =>
         if q41.1 = 0 then
          some (.inl ((2 : Int32), q41.2))
         else
          some (.inl ((0 : Int32), q41.2))
        ) fun j39 =>
        if (nI w.length) ≤ (nI a + nI k) then
         j39 (nI w.length)
        else
         j39 ((nI a + nI k) + (1 : Int32))
      ) fun j35 =>
      if (nI u.length) ≤ (nI k) then
       j35 (nI u.length)
      else
       j35 (nI k + (1 : Int32))
    ) fun j27 =>
    if (nI w.length) ≤ (nI a + nI k) then
     j27 (0 : Int32)
    else
     if inb (nI a + nI k) 12 then
     j27 (ra t (nI a + nI k).toNatClampNeg)
     else none) := by
    intro v1 hv1
    rw [gw_let]
    try dsimp only
    by_cases e5 : w.length ≤ a + k
    · rw [if_pos (show nI w.length ≤ nI a + nI k by rw [nI_add]; exact nI_le e5 (by omega))]
      exact key _ _ hv1 (by rw [List.drop_eq_nil_of_le e5]; rfl)
    · rw [if_neg (show ¬ nI w.length ≤ nI a + nI k by rw [nI_add]; exact nI_ge (by omega) (by omega)), if_pos (show inb (nI a + nI k) 12 by rw [nI_add]; exact inb_nI (by omega) (by omega))]
      exact key _ _ hv1 (by rw [nI_add, rw_at hr (by omega) (by omega)])
  by_cases e5 : u.length ≤ k
  · rw [if_pos (nI_le e5 (by omega))]
    exact hsecond _ (by rw [List.drop_eq_nil_of_le e5]; rfl)
  · rw [if_neg (nI_ge (by omega) (by omega)), if_pos (inb_nI (by omega) (by omega))]
    exact hsecond _ (by rw [rw_at ho (by omega) (by omega)])
