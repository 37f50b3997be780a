/-! a leaf is split; a word comes -/
def chS : List Nat → List Nat → Sz → Nat → Option (Nat × Sz)
  | a :: u, b :: r, z, c => if a = b then (if lst z (2 ^ a) = 0 then none else chS u r (putC z c (lst z (2 ^ a)) a 1 0 z.U z.X) (lst z (2 ^ a) + a)) else frkS z c (a :: u) (b :: r)
  | [], r, z, c => frkS z c [] r
  | a :: u, [], z, c => frkS z c (a :: u) []
def splS (z : Sz) (c : Nat) (r : List Nat) : Option (Nat × Sz) := chS (z.X (z.E c - 1)) r (unL z c (dU z.U (z.E c - 1)) (dX z.U z.X (z.E c - 1))) c
def insF (z : Sz) : Nat → Nat → List Nat → Option (Nat × Sz)
  | 0, _, _ => none
  | f + 1, c, w => if ch z c (hd0 w) = 0 then (match roomS z c (hd0 w) with
      | none => none
      | some (c', z2, off) => hangS z2 c' off (hd0 w) w.tail)
    else if z.K (ch z c (hd0 w)) = 2 then splS z (ch z c (hd0 w)) w.tail else insF z f (ch z c (hd0 w)) w.tail
def insS (z : Sz) (w : List Nat) : Option (Nat × Sz) := insF z 13 0 w
theorem chS_frk {u r : List Nat} {z : Sz} {c : Nat} (h : hd0 u ≠ hd0 r) : chS u r z c = frkS z c u r := by
  cases u with
  | nil => rw [chS]
  | cons a u =>
    cases r with
    | nil => rw [chS]
    | cons b r =>
      have : a ≠ b := h
      rw [chS, if_neg this]
/-- an inner cell as the only child -/
theorem chain_put {z : Sz} {D : Nat → Nat} (h : WF z D) {c a : Nat} (hcK : z.K c = 1) (hO : z.O c = 0) (ha : 1 ≤ a) (ha9 : a < 9) (hd : D c + 1 ≤ 11) (e : lst z (2 ^ a) ≠ 0) :
    PutOk z c (lst z (2 ^ a)) a ∧ PutE z D c a 1 0 z.U z.X ∧ WF (putC z c (lst z (2 ^ a)) a 1 0 z.U z.X) (fu D (lst z (2 ^ a) + a) (D c + 1)) := by
  have hx := lst_fit e a ha9 (by rw [Nat.testBit_two_pow]; simp)
  have p1 : PutOk z c (lst z (2 ^ a)) a := ⟨hcK, ha9, by omega, lst_lt _ _, hx.1, hx.2, Or.inr hO⟩
  have p2 : PutE z D c a 1 0 z.U z.X := ⟨h.e, fun q => by rw [if_neg (fun b => by omega), Nat.add_zero], fun _ _ => rfl, Or.inl ⟨rfl, rfl, ha, hd⟩⟩
  exact ⟨p1, p2, put_wf h p1 p2⟩
theorem t_splitLeaf {z : Sz} {D : Nat → Nat} {t : TS} (h : WF z D) (ht : Ht z (Wz z D) t) {c : Nat} {r : List Nat} (hk : z.K c = 2) (hb : z.B c ≠ 1) (hr : okw r) (hl : D c + r.length ≤ 12) (hne : z.X (z.E c - 1) ≠ r) :
    Gd (fun w => (splS z c r = none → w.1 = -1) ∧ ∀ x zf, splS z c r = some (x, zf) → w.1 = nI x ∧ ∀ Df, WF zf Df → Ht zf (Wz zf Df) w.2) (fT_splitLeaf (nI c) (lN (enc r)) t) := by
  have hs := h.sml
  have hc := h.lt (c := c) (by omega)
  have hc0 : c ≠ 0 := by intro q; rw [q, h.root.1] at hk; omega
  obtain ⟨hO, e, he, h40, hu⟩ := h.leaf hk
  have hx := h.e.2.2.1 e
  have hlen := h.len hk hb
  rw [he, Nat.add_sub_cancel] at hlen hne
  obtain ⟨d1, d2, d3⟩ := drop_ok h hk he
  have hw := un_wf h hk hb d3 (dp_part11 hlen hl hne)
  unfold fT_splitLeaf
  rw [J_at_n _ hc (by omega), ht.e hc, he, eI_s]
  have htext : fE_textAt (nI e) (tN t) = some (lN (enc (z.X e))) := by
    simp only [fE_textAt, gw_let]
    rw [if_neg (nI_lt0 (by omega)), if_neg (show ¬ (40 : Int32) ≤ nI e from nI_ge (b := 40) (by omega) (by omega)), if_pos (inb_nI h40 (by omega)), nI_clamp' (by omega), ht.x h40]
  rw [htext]
  simp only [Option.bind_some]
  refine gd_bind (e_release hs.u ht.hr.n h40 hu) ?_
  intro n1 hn1
  rw [gw_let, gw_let, gw_let]
  have k1 := Hr_E (Hr_K (Hr_N ht.hr hn1) hc (v := 1) (i := nI c) (w := 1) rfl rfl) hc (v := 0) (i := nI c) (w := -1) rfl rfl
  have hsp : splS z c r = chS (z.X e) r (unL z c (dU z.U e) (dX z.U z.X e)) c := by rw [splS, he, Nat.add_sub_cancel]
  have hmsk : (fun x => msk z x 9) = fun x => msk (unL z c (dU z.U e) (dX z.U z.X e)) x 9 := by
    have hch := un_ch z (c := c) (dU z.U e) (dX z.U z.X e) hk
    have : ∀ x n, msk z x n = msk (unL z c (dU z.U e) (dX z.U z.X e)) x n := by
      intro x n
      induction n with
      | zero => rfl
      | succ n ih => rw [msk, msk, ih, hch]
    funext x
    exact this x 9
  have hWW : Wz z D = fun a => Wz (unL z c (dU z.U e) (dX z.U z.X e)) D a + if a ∈ chain (unL z c (dU z.U e) (dX z.U z.X e)) D c then 1 else 0 := by
    funext a
    rw [un_chain, un_W h hk]
  have k2 : Hr (unL z c (dU z.U e) (dX z.U z.X e)) (fun x => msk (unL z c (dU z.U e) (dX z.U z.X e)) x 9) (fun a => Wz (unL z c (dU z.U e) (dX z.U z.X e)) D a + if a ∈ chain (unL z c (dU z.U e) (dX z.U z.X e)) D c then 1 else 0) (sTE (sTK (sTN t n1) (J_put 160 (tK (sTN t n1)) (nI c) 1)) (J_put 160 (tE (sTK (sTN t n1) (J_put 160 (tK (sTN t n1)) (nI c) 1))) (nI c) (-1))) := by
    rw [← hWW, ← hmsk]
    exact k1
  rw [hsp]
  refine gd_lp (fun k y => ∃ zi Di ci u s t', y = (lN (enc u), lN (enc s), nI ci, nI k, t') ∧ WF zi Di ∧ zi.K ci = 1 ∧ zi.O ci = 0 ∧ Part Di ci u s ∧ u ≠ s ∧ Hr zi (fun x => msk zi x 9) (fun a => Wz zi Di a + if a ∈ chain zi Di ci then 1 else 0) t' ∧ chS u s zi ci = chS (z.X e) r (unL z c (dU z.U e) (dX z.U z.X e)) c ∧ k + u.length ≤ 12) 12 ⟨_, D, c, z.X e, r, _, rfl, hw, fu_eq _ _ _, hO, ⟨hx, hr, hlen, hl, hc0⟩, hne, k2, rfl, by have := hx.1; omega⟩ ?_ (by omega)
  rintro k y hk12 ⟨zi, Di, ci, u, s, t', rfl, g1, g2, g3, g4, g5, g6, g7, g8⟩
  rw [gw_let]
  try dsimp only
  have hfork : hd0 u ≠ hd0 s → Gd (Sx (fun k y => ∃ zi Di ci u s t', y = (lN (enc u), lN (enc s), nI ci, nI k, t') ∧ WF zi Di ∧ zi.K ci = 1 ∧ zi.O ci = 0 ∧ Part Di ci u s ∧ u ≠ s ∧ Hr zi (fun x => msk zi x 9) (fun a => Wz zi Di a + if a ∈ chain zi Di ci then 1 else 0) t' ∧ chS u s zi ci = chS (z.X e) r (unL z c (dU z.U e) (dX z.U z.X e)) c ∧ k + u.length ≤ 12) (fun w => (chS (z.X e) r (unL z c (dU z.U e) (dX z.U z.X e)) c = none → w.1 = -1) ∧ ∀ x zf, chS (z.X e) r (unL z c (dU z.U e) (dX z.U z.X e)) c = some (x, zf) → w.1 = nI x ∧ ∀ Df, WF zf Df → Ht zf (Wz zf Df) w.2) 12 k) ((fT_fork (nI ci) (lN (enc u)) (lN (enc s)) t').bind fun q16 => some (Sum.inl (q16.1, q16.2))) := by
    intro hh
    refine gd_bind (t_fork g1 g2 g3 g4 hh g6) ?_
    rintro w hw2
    refine gd_inl ?_
    rw [← g7, chS_frk hh]
    exact hw2
  by_cases e12 : k = 12
  · have hu0 : u = [] := by
      have : u.length = 0 := by omega
      exact List.eq_nil_of_length_eq_zero this
    rw [if_pos (show (12 : Int32) ≤ nI k by rw [e12]; decide)]
    refine hfork (fun q => ?_)
    rw [hu0] at q g5
    exact g5 ((hd0_0 g4.2.1.2).mp q.symm).symm
  · rw [if_neg (show ¬ (12 : Int32) ≤ nI k from nI_ge (b := 12) (by omega) (by omega)), firstOf_e g4.1, firstOf_e g4.2.1]
    have d1 := hd0_lt g4.1.2
    have d2 := hd0_lt g4.2.1.2
    by_cases eh : hd0 u = hd0 s
    · cases u with
      | nil => exact absurd ((hd0_0 g4.2.1.2).mp eh.symm).symm g5
      | cons a u' =>
        cases s with
        | nil =>
          have := okw_head g4.1
          have : a = 0 := eh
          omega
        | cons b s' =>
          have eab : a = b := eh
          subst eab
          have ha := okw_head g4.1
          have hci := g1.lt (c := ci) (by omega)
          have hm : 2 ^ a < 512 := Nat.pow_lt_pow_right (n := 9) (by omega) (by omega)
          rw [if_pos (by rw [eh]), gw_let]
          show Gd _ ((fT_placeFirst (nI ci) ((1 : Int32) <<< (nI a &&& 31)) t').bind _)
          rw [shl_e a (by omega), t_placeFirst g1.sml g6 hci hm]
          simp only [Option.bind_some]
          rw [chS, if_pos rfl] at g7
          have hDu : Di ci + 1 ≤ 11 := dp_part11 (u := u') (s := s') (by have := g4.2.2.1; rw [List.length_cons] at this; omega) (by have := g4.2.2.2.1; rw [List.length_cons] at this; omega) (fun q => g5 (by rw [q]))
          by_cases el : lst zi (2 ^ a) = 0
          · rw [if_pos el] at g7
            rw [if_pos el, if_pos rfl]
            refine gd_inl ?_
            rw [← g7]
            exact ⟨fun _ => rfl, fun x zf q => (by cases q)⟩
          · rw [if_neg el] at g7
            rw [if_neg el, if_neg (by decide)]
            obtain ⟨p1, p2, p3⟩ := chain_put g1 g2 g3 ha.1 (by omega) hDu el
            have k3 := Hr_O g6 hci (v := lst zi (2 ^ a)) (i := nI ci) (w := nI (lst zi (2 ^ a))) rfl rfl
            generalize lst zi (2 ^ a) = o at el g7 p1 p2 p3 k3
            obtain ⟨t3, e3, k4⟩ := t_putChild k3 (c := ci) (o := o) (l := a) (k := 1) (e := 0) hci (fu_eq _ _ _) p1.2.2.2.2.1 p1.2.1 (msk_lt zi ci 9) (kk := 1) (ee := -1) rfl rfl
            have hh1 : hd0 (a :: u') = a := rfl
            rw [gw_let, hh1, e3]
            try dsimp only
            rw [gw_let, gw_let]
            try dsimp only
            rw [withoutFirst_e g4.1, withoutFirst_e g4.2.1, nI_1]
            refine gd_inr (by omega) ⟨putC zi ci o a 1 0 zi.U zi.X, fu Di (o + a) (Di ci + 1), o + a, u', s', t3, rfl, p3, fu_eq _ _ _, ?_, ?_, ?_, ?_, g7, ?_⟩
            · show fu zi.O ci o (o + a) = 0
              have hcx : o + a ≠ ci := by intro q; have := p1.2.2.2.2.2.1; rw [q] at this; omega
              rw [fu_ne _ _ hcx]
              exact (g1.free p1.2.2.2.2.2.1).2.2.1
            · have h1 := g4.2.2.1
              have h2 := g4.2.2.2.1
              rw [List.length_cons] at h1 h2
              refine ⟨okw_tail g4.1, okw_tail g4.2.1, ?_, ?_, by have := p1.2.2.1; omega⟩
              · rw [fu_eq]; omega
              · rw [fu_eq]; omega
            · intro q; exact g5 (by rw [q])
            · have hch := put_chain g1 p1 p3 (by omega)
              have kk1 : fu (fun a_1 => Wz zi Di a_1 + if a_1 ∈ chain zi Di ci then 1 else 0) (o + a) 1 = fun a_1 => Wz (putC zi ci o a 1 0 zi.U zi.X) (fu Di (o + a) (Di ci + 1)) a_1 + if a_1 ∈ chain (putC zi ci o a 1 0 zi.U zi.X) (fu Di (o + a) (Di ci + 1)) (o + a) then 1 else 0 := by
                funext b
                rw [put_W g1 p1 p3 (by omega), hch.2, if_neg (show ¬ (1 = 2 ∧ _) from fun q => by omega), Nat.add_zero]
                by_cases eb : b = o + a
                · rw [eb, fu_eq, Wz_free g1 p1.2.2.2.2.2.1, if_pos List.mem_cons_self]
                · rw [fu_ne _ _ eb]
                  by_cases ec : b ∈ chain zi Di ci
                  · rw [if_pos ec, if_pos (List.mem_cons_of_mem _ ec)]
                  · rw [if_neg ec, if_neg (fun q => (List.mem_cons.mp q).elim eb ec)]
              have kk2 : fu (fun x => msk zi x 9) ci (msk zi ci 9 ||| 2 ^ a) = fun x => msk (putC zi ci o a 1 0 zi.U zi.X) x 9 := by
                funext x
                exact put_msk g1 p1 (by omega) x
              rw [← kk1, ← kk2]
              exact k4
            · rw [List.length_cons] at g8; omega
    · rw [if_neg (fun q => eh (nI_inj (by omega) (by omega) q))]
      exact hfork eh
theorem t_insert {z : Sz} {D : Nat → Nat} {t : TS} (h : WF z D) (ht : Ht z (Wz z D) t) {w : List Nat} (hw : okw w) (hw0 : w ≠ []) (hno : Fz z D 0 w = 0) :
    Gd (fun q => (insS z w = none → q.1 = -1) ∧ ∀ x zf, insS z w = some (x, zf) → q.1 = nI x ∧ ∀ Df, WF zf Df → Ht zf (Wz zf Df) q.2) (fT_insert (lN (enc w)) t) := by
  have h0 : z.K 0 ≠ 0 := by rw [h.root.1]; omega
  unfold fT_insert
  refine gd_lp (fun k y => ∃ c u, y = (nI c, lN (enc u), nI k) ∧ z.K c ≠ 0 ∧ D c = k ∧ okw u ∧ Fz z D c u = 0 ∧ (z.B c = 1 → u = []) ∧ (z.B c ≠ 1 → D c + u.length ≤ 12) ∧ (c = 0 → u ≠ []) ∧ (z.K c = 1 → insF z (13 - k) c u = insS z w) ∧ (z.K c = 2 → splS z c u = insS z w)) 13 ⟨0, w, rfl, h0, h.root.2.2.2, hw, hno, fun q => by rw [h.root.2.2.1] at q; omega, fun _ => by rw [h.root.2.2.2]; have := hw.1; omega, fun _ => hw0, fun _ => rfl, fun q => by rw [h.root.1] at q; omega⟩ ?_ (by omega)
  rintro k y hk ⟨c, u, rfl, g1, g2, g3, g4, g5, g6, g7, g8, g9⟩
  have hc := h.lt g1
  have hdk := h.dp g1
  try dsimp only
  rw [if_neg (show ¬ (12 : Int32) < nI k from nI_nlt (b := k) (a := 12) (by omega) (by omega)), t_K ht hc]
  simp only [nI_K h]
  by_cases e : z.K c = 2
  · rw [if_pos e]
    have hb : z.B c ≠ 1 := by
      intro hb
      have hu := g5 hb
      have hc0 : c ≠ 0 := by intro q; rw [q, h.root.1] at e; omega
      obtain ⟨p, l, w1, w2, w3, w4, w5, w6, w7, w8⟩ := h.par hc0 g1
      rw [F_leaf h e, hu, (w8 (by omega)).2.2, if_pos rfl] at g4
      exact hc0 g4
    have hne : z.X (z.E c - 1) ≠ u := by
      intro q
      rw [F_leaf h e, if_pos q] at g4
      rw [g4, h.root.1] at e; omega
    refine gd_bind (t_splitLeaf h ht e hb g3 (g6 hb) hne) ?_
    rintro q hq
    refine gd_inl ?_
    rw [← g9 e]
    exact hq
  · rw [if_neg e]
    have e1 : z.K c = 1 := by have := h.k12 g1; omega
    have hD := (h.inn e1).2.2.1
    have hb1 : z.B c ≠ 1 := by
      intro hb
      by_cases hc0 : c = 0
      · rw [hc0, h.root.2.2.1] at hb; omega
      · obtain ⟨p, l, w1, w2, w3, w4, w5, w6, w7, w8⟩ := h.par hc0 g1
        have := (w8 (by omega)).1
        omega
    have d1 := hd0_lt g3.2
    have tl := tail_len g3
    have g6' := g6 hb1
    simp only [gw_let]
    rw [firstOf_e g3, withoutFirst_e g3, t_child ht hc d1]
    have g8' := g8 e1
    rw [show 13 - k = (12 - k) + 1 by omega, insF] at g8'
    rw [F_inner h e1] at g4
    have hclt := ch_lt z c (hd0 u)
    by_cases ec : ch z c (hd0 u) = 0
    · rw [if_pos ec] at g8'
      rw [ec, nz_0, if_pos rfl]
      refine gd_bind (t_makeRoom h ht e1 d1 ec) ?_
      rintro ⟨q1, q2⟩ ⟨r1, r2⟩
      dsimp only at r1 r2 ⊢
      cases hR : roomS z c (hd0 u) with
      | none =>
        rw [hR] at g8'
        rw [r1 hR]
        have : fT_hangLeaf (-1) (nI (hd0 u)) (lN (enc u.tail)) q2 = some (-1, q2) := by
          unfold fT_hangLeaf
          rw [if_pos rfl]
        rw [this]
        simp only [Option.bind_some]
        refine gd_inl ?_
        rw [← g8']
        exact ⟨fun _ => rfl, fun x zf q => (by cases q)⟩
      | some v =>
        obtain ⟨c', z2, off⟩ := v
        rw [hR] at g8'
        obtain ⟨s1, D2, s2, ⟨φ, ψ, s3, s4, s5⟩, s6, s7⟩ := r2 c' z2 off hR
        rw [s1]
        have hDc : D2 c' = D c := by
          rw [s5, s4]
          show D (ψ (φ c)) = D c
          rw [(s3.2.1 c g1).1]
        refine gd_bind (t_hangLeaf s2 s6 s7 (okw_tl g3) (fun q => ⟨tl.1 q, fun q2 => ?_⟩) (fun q => by rw [hDc]; have := tl.2 q; omega)) ?_
        · rw [s4] at q2
          have := (iso_0 h s3 g1).mp q2
          exact g7 this ((hd0_0 g3.2).mp q)
        · intro q hq
          refine gd_inl ?_
          rw [← g8']
          exact hq
    · rw [if_neg ec] at g8' g4
      rw [nz_1 ec, if_neg (nI_m1 (by omega)), nI_1]
      have e3 := h.chp ec
      refine gd_inr (by omega) ⟨ch z c (hd0 u), u.tail, rfl, e3.1, by rw [e3.2.2.2.2.2.2.1, g2], okw_tl g3, g4, fun q => ?_, fun q => ?_, fun q => absurd q ec, fun q => ?_, fun q => ?_⟩
      · exact tl.1 (by omega)
      · have := tl.2 (by omega); omega
      · rw [if_neg (by omega)] at g8'
        rw [show 13 - (k + 1) = 12 - k by omega]; exact g8'
      · rw [if_pos q] at g8'; exact g8'
