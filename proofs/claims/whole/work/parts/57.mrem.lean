/-! the model removes a leaf -/
theorem stale_ch {z : Sz} {D : Nat → Nat} (h : WF z D) {c o : Nat} (hO : z.O c = 0) (b : Nat) : ch (sO z (fu z.O c o)) c b = 0 := by
  by_cases hc : ch (sO z (fu z.O c o)) c b = 0
  · exact hc
  · exfalso
    obtain ⟨h1, h2, h3, h4, h5⟩ := ch_0 (z := sO z (fu z.O c o)) (c := c) (l := b) (by omega)
    have hk : z.K ((sO z (fu z.O c o)).O c + b) ≠ 0 := by
      have : 0 < z.K ((sO z (fu z.O c o)).O c + b) := h4
      omega
    have hp : z.P ((sO z (fu z.O c o)).O c + b) = c + 1 := h5
    obtain ⟨p, l, w1, w2, w3, w4, w5, w6, w7, w8⟩ := h.par (by omega) hk
    have : p = c := by omega
    rw [this] at w5; omega
theorem stale_msk {z : Sz} {D : Nat → Nat} (h : WF z D) {c o : Nat} (hco : z.O c = o ∨ z.O c = 0) : msk (sO z (fu z.O c o)) c 9 = msk z c 9 := by
  rcases hco with q | q
  · rw [fu_same q, sO_same]
  · have h1 : ∀ n, msk (sO z (fu z.O c o)) c n = 0 := by
      intro n
      induction n with
      | zero => rfl
      | succ n ih => rw [msk, ih, if_pos (stale_ch h q n)]
    rw [h1]
    exact ((msk_ch h).mpr (fun b => if_neg (fun a => by omega))).symm
theorem z_removeLeaf {z : Sz} {D : Nat → Nat} {t : MS} (h : WF z D) (hz : Mz z (mZ t)) {x : Nat} (hk : z.K x = 2) :
    Gd (fun o => o.1 = nI (remS z x).1 ∧ ∃ f, o.2 = sMZ t f ∧ Mz (remS z x).2 f) (fM_removeLeaf (nI x) t) := by
  have hs := h.sml
  have hx : z.K x ≠ 0 := by omega
  have hxc := h.lt hx
  have hx0 : x ≠ 0 := by intro q; rw [q, h.root.1] at hk; omega
  have hno : ∀ b, ch z x b = 0 := fun b => h.ch0 (by omega)
  obtain ⟨hO, e, he, h40, hu⟩ := h.leaf hk
  obtain ⟨p, l, w1, w2, w3, w4, w5, w6, w7, w8⟩ := h.par hx0 hx
  have hpc := h.lt (c := p) (by omega)
  have hDx := h.dp hx
  obtain ⟨d1, d2, d3⟩ := drop_ok h hk he
  have hpx : p ≠ x := by intro q; rw [q] at w4; omega
  have e0 : rmL z x = rmC z x (dU z.U e) (dX z.U z.X e) := by rw [rmL, he, Nat.add_sub_cancel]
  have hwf : WF (rmL z x) D := by
    rw [e0]
    exact rm_wf h hx0 hx hno d3
  unfold fM_removeLeaf
  refine gd_bind (z_dropEnd hs hz hxc h40 he hu) ?_
  rintro t1 ⟨f1, rfl, m1⟩
  have hs1 : Sm (sX (sE z (fu z.E x 0)) (dU z.U e) (dX z.U z.X e)) := by
    refine ⟨hs.k, hs.p, hs.b, hs.o, fu_bd hs.e (by omega), ?_, (WFe_drop h.e hu).2.2.1⟩
    intro q
    show dU z.U e q < 161
    have := hs.u q
    have := hs.u e
    rw [dU]
    by_cases eq : q = e
    · rw [eq, fu_eq]; omega
    · rw [fu_ne _ _ eq]; omega
  have hmx : msk (sX (sE z (fu z.E x 0)) (dU z.U e) (dX z.U z.X e)) x 9 = 0 := by
    have : ∀ n, msk (sX (sE z (fu z.E x 0)) (dU z.U e) (dX z.U z.X e)) x n = 0 := by
      intro n
      induction n with
      | zero => rfl
      | succ n ih =>
        rw [msk, ih, if_pos]
        exact hno n
    exact this 9
  refine gd_bind (P := fun o => ∃ zi ci o' f, o = (nI (remS z x).1, nI ci, sMZ t f) ∧ WF zi D ∧ zi.K ci = 1 ∧ (zi.O ci = o' ∨ zi.O ci = 0) ∧ o' < 160 ∧ Mz (sO zi (fu zi.O ci o')) f ∧ (ci = 0 ∨ msk zi ci 9 ≠ 0) ∧ (remS z x).2 = zi) ?_ ?_
  · refine gd_lp (fun k y => (k = 0 ∧ y = (0, nI x, sMZ t f1)) ∨ (1 ≤ k ∧ ∃ zi ci o' f, y = (nI k, nI ci, sMZ t f) ∧ WF zi D ∧ zi.K ci = 1 ∧ D ci + k = D x ∧ (zi.O ci = o' ∨ zi.O ci = 0) ∧ o' < 160 ∧ Mz (sO zi (fu zi.O ci o')) f ∧ (remS z x).1 = (rmF (14 - k) zi ci).1 + k ∧ (remS z x).2 = (rmF (14 - k) zi ci).2)) 14 (Or.inl ⟨rfl, rfl⟩) ?_ (by omega)
    rintro k y hk13 (⟨rfl, rfl⟩ | ⟨hk1, zi, ci, o', f, rfl, g1, g2, g3, g4, g4', g4'', g5, g6⟩)
    · try dsimp only
      rw [if_neg (nI_ne0 (by omega) (by omega)), z_lettersOf hs1 (t := sMZ t f1) m1 hxc, hmx]
      simp only [Option.bind_some]
      rw [if_pos (show nI 0 = 0 from rfl), i160, if_pos (inb_nI (by omega) (by omega)), gw_let]
      have hP : mZ (sMZ t f1) (nI (160 + x)).toNatClampNeg = nI p := by
        rw [nI_clamp' (by omega)]
        show f1 (160 + x) = _
        rw [m1.p x hxc]
        show eI (z.P x) = _
        rw [w1, eI_s]
      rw [hP]
      refine gd_bind (z_free (t := sMZ t f1) m1 hxc) ?_
      rintro t2 ⟨f2, rfl, m2⟩
      have hpO : (rmL z x).O p = z.O p ∨ (rmL z x).O p = 0 := by
        rw [e0]
        show fu (fu z.O (z.P x - 1) (if msk z (z.P x - 1) 9 = 2 ^ (z.B x - 1) then 0 else z.O (z.P x - 1))) x 0 p = _ ∨ fu (fu z.O (z.P x - 1) (if msk z (z.P x - 1) 9 = 2 ^ (z.B x - 1) then 0 else z.O (z.P x - 1))) x 0 p = _
        rw [fu_ne _ _ hpx, w1, Nat.add_sub_cancel, fu_eq]
        split
        · exact Or.inr rfl
        · exact Or.inl rfl
      refine gd_inr (by omega) (Or.inr ⟨by omega, rmL z x, p, z.O p, f2, rfl, hwf, ?_, by omega, hpO, hs.o p, ?_, ?_, ?_⟩)
      · rw [e0]
        show fu z.K x 0 p = 1
        rw [fu_ne _ _ hpx]; exact w4
      · have hOO : fu (rmL z x).O p (z.O p) = fu z.O x 0 := by
          rw [e0]
          funext y
          show fu (fu (fu z.O (z.P x - 1) (if msk z (z.P x - 1) 9 = 2 ^ (z.B x - 1) then 0 else z.O (z.P x - 1))) x 0) p (z.O p) y = fu z.O x 0 y
          rw [w1, Nat.add_sub_cancel]
          by_cases ep : y = p
          · rw [ep, fu_eq, fu_ne _ _ hpx]
          · rw [fu_ne _ _ ep]
            by_cases ex : y = x
            · rw [ex, fu_eq, fu_eq]
            · rw [fu_ne _ _ ex, fu_ne _ _ ex, fu_ne _ _ ep]
        have hEE : fu (fu z.E x 0) x 0 = fu z.E x 0 := fu_fu _ _ _ _
        have hfin : sO (rmL z x) (fu z.O x 0) = (fu z.K x 0, fu z.P x 0, fu z.B x 0, fu z.O x 0, fu z.E x 0, dU z.U e, dX z.U z.X e, z.M) := by
          rw [e0]; rfl
        rw [hOO, hfin, ← hEE]
        exact m2
      · rw [remS, w1]; rfl
      · rw [remS, w1]; rfl
    · have hci := g1.lt (c := ci) (by omega)
      have hDc := g1.dp (c := ci) (by omega)
      have hsi := g1.sml
      have hsm := Sm_O hsi (fu_bd (x := ci) hsi.o g4')
      try dsimp only
      have hrf : rmF (14 - k) zi ci = if ci = 0 ∨ msk zi ci 9 ≠ 0 then (0, zi) else ((rmF (13 - k) (rmC zi ci zi.U zi.X) (zi.P ci - 1)).1 + 1, (rmF (13 - k) (rmC zi ci zi.U zi.X) (zi.P ci - 1)).2) := by
        by_cases e14 : k = 14
        · omega
        · rw [show 14 - k = (13 - k) + 1 by omega, rmF]
      have hstop : ci = 0 ∨ msk zi ci 9 ≠ 0 → ∃ zi' ci' o'' f', (nI k, nI ci, sMZ t f) = (nI (remS z x).1, nI ci', sMZ t f') ∧ WF zi' D ∧ zi'.K ci' = 1 ∧ (zi'.O ci' = o'' ∨ zi'.O ci' = 0) ∧ o'' < 160 ∧ Mz (sO zi' (fu zi'.O ci' o'')) f' ∧ (ci' = 0 ∨ msk zi' ci' 9 ≠ 0) ∧ (remS z x).2 = zi' := by
        intro hq
        rw [hrf, if_pos hq] at g5 g6
        refine ⟨zi, ci, o', f, ?_, g1, g2, g4, g4', g4'', hq, g6⟩
        rw [g5, Nat.zero_add]
      by_cases e0' : ci = 0
      · rw [if_pos (show nI ci = 0 by rw [e0']; rfl)]
        exact gd_inl (hstop (Or.inl e0'))
      · rw [if_neg (nI_ne0 (by omega) (by omega)), z_lettersOf hsm (t := sMZ t f) g4'' hci, stale_msk g1 g4]
        simp only [Option.bind_some]
        have hm := msk_lt zi ci 9
        by_cases em : msk zi ci 9 = 0
        · have hno2 := (msk_ch g1).mp em
          obtain ⟨p', l', v1, v2, v3, v4, v5, v6, v7, v8⟩ := g1.par e0' (by omega)
          have hp'c := g1.lt (c := p') (by omega)
          have hp'x : p' ≠ ci := by intro q; rw [q] at v7; omega
          have hwf2 := rm_wf g1 e0' (by omega) hno2 (drop_no g1 g2)
          rw [em, if_pos (show nI 0 = 0 from rfl), i160, if_pos (inb_nI (by omega) (by omega)), gw_let]
          have hP : mZ (sMZ t f) (nI (160 + ci)).toNatClampNeg = nI p' := by
            rw [nI_clamp' (by omega)]
            show f (160 + ci) = _
            rw [g4''.p ci hci]
            show eI (zi.P ci) = _
            rw [v1, eI_s]
          rw [hP]
          refine gd_bind (z_free (t := sMZ t f) g4'' hci) ?_
          rintro t2 ⟨f2, rfl, m2⟩
          rw [hrf, if_neg (fun q => q.elim e0' (fun b => b em)), v1, Nat.add_sub_cancel] at g5 g6
          rw [nI_1]
          have hpO : (rmC zi ci zi.U zi.X).O p' = zi.O p' ∨ (rmC zi ci zi.U zi.X).O p' = 0 := by
            show fu (fu zi.O (zi.P ci - 1) (if msk zi (zi.P ci - 1) 9 = 2 ^ (zi.B ci - 1) then 0 else zi.O (zi.P ci - 1))) ci 0 p' = _ ∨ fu (fu zi.O (zi.P ci - 1) (if msk zi (zi.P ci - 1) 9 = 2 ^ (zi.B ci - 1) then 0 else zi.O (zi.P ci - 1))) ci 0 p' = _
            rw [fu_ne _ _ hp'x, v1, Nat.add_sub_cancel, fu_eq]
            split
            · exact Or.inr rfl
            · exact Or.inl rfl
          refine gd_inr (by omega) (Or.inr ⟨by omega, rmC zi ci zi.U zi.X, p', zi.O p', f2, rfl, hwf2, ?_, by omega, hpO, hsi.o p', ?_, ?_, ?_⟩)
          · show fu zi.K ci 0 p' = 1
            rw [fu_ne _ _ hp'x]; exact v4
          · have hOO : fu (rmC zi ci zi.U zi.X).O p' (zi.O p') = fu (fu zi.O ci o') ci 0 := by
              funext y
              show fu (fu (fu zi.O (zi.P ci - 1) (if msk zi (zi.P ci - 1) 9 = 2 ^ (zi.B ci - 1) then 0 else zi.O (zi.P ci - 1))) ci 0) p' (zi.O p') y = fu (fu zi.O ci o') ci 0 y
              rw [v1, Nat.add_sub_cancel, fu_fu zi.O ci]
              by_cases ep : y = p'
              · rw [ep, fu_eq, fu_ne _ _ hp'x]
              · rw [fu_ne _ _ ep]
                by_cases ex : y = ci
                · rw [ex, fu_eq, fu_eq]
                · rw [fu_ne _ _ ex, fu_ne _ _ ex, fu_ne _ _ ep]
            rw [hOO]
            exact m2
          · rw [g5, show 14 - (k + 1) = 13 - k by omega]
            omega
          · rw [g6, show 14 - (k + 1) = 13 - k by omega]
        · rw [if_neg (nI_ne0 (by omega) (by omega))]
          exact gd_inl (hstop (Or.inr em))
  · rintro o ⟨zi, ci, o', f, rfl, g1, g2, g3, g4, g5, g6, g7⟩
    have hci := g1.lt (c := ci) (by omega)
    have hsi := g1.sml
    have hsm := Sm_O hsi (fu_bd (x := ci) hsi.o g4)
    have hm := msk_lt zi ci 9
    try dsimp only
    rw [z_lettersOf hsm (t := sMZ t f) g5 hci, stale_msk g1 g3]
    simp only [Option.bind_some]
    by_cases em : msk zi ci 9 = 0
    · have hO0 := (msk_0 g1 g2).mp em
      rw [em, if_pos (show nI 0 = 0 from rfl), i480, if_pos (inb_nI (by omega) (by omega)), gw_let, upd_nI _ (by omega)]
      refine gd_some ⟨rfl, _, rfl, ?_⟩
      have m3 := Mz_O g5 hci 0
      have e9 : fu (sO zi (fu zi.O ci o')).O ci 0 = zi.O := by
        show fu (fu zi.O ci o') ci 0 = zi.O
        rw [fu_fu]
        exact fu_same hO0
      rw [e9] at m3
      rw [g7]
      exact m3
    · rw [if_neg (nI_ne0 (by omega) (by omega))]
      refine gd_some ⟨rfl, f, rfl, ?_⟩
      rw [g7]
      have hO1 : zi.O ci = o' := by
        rcases g3 with q | q
        · exact q
        · exact absurd ((msk_0 g1 g2).mpr q) em
      rw [fu_same hO1, sO_same] at g5
      exact g5
