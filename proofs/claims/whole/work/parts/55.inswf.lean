/-! what a table is when a word has come -/
theorem iso_Pl {φ ψ : Nat → Nat} {z z' : Sz} {D : Nat → Nat} (h : WF z D) (hi : Iso φ ψ z z') : ∀ c, z.K c ≠ 0 → Pl z' (fun x => D (ψ x)) (φ c) = Pl z D c := by
  have h' := iso_wf h hi
  refine wf_up h _ ?_ ?_
  · rw [hi.1, Pl_0 h, Pl_0 h']
  · intro c h0 hk ih
    obtain ⟨p, l, w1, w2, w3, w4, w5, w6, w7, w8⟩ := h.par h0 hk
    have hc := hi.2.1 c hk
    rw [Pl_s h h0 hk w1 w2, Pl_s h' (fun q => h0 ((iso_0 h hi hk).mp q)) (by rw [hc.2.1]; exact hk) (hc.2.2.2.2.1 p w1) (by rw [hc.2.2.1]; exact w2), ih p w1 w4 w7]
theorem iso_Hw {φ ψ : Nat → Nat} {z z' : Sz} {D : Nat → Nat} (h : WF z D) (hi : Iso φ ψ z z') {y : Nat} {v : List Nat} (hw : Hw z' (fun x => D (ψ x)) y v) : ∃ y', Hw z D y' v := by
  obtain ⟨h1, h2⟩ := hw
  obtain ⟨y', hy, e⟩ := hi.2.2.1 y (by omega)
  subst e
  have hc := hi.2.1 y' hy
  refine ⟨y', by rw [← hc.2.1]; exact h1, ?_⟩
  rw [h2, iso_Pl h hi y' hy, hc.2.2.2.1, hi.2.2.2.2.2.2.2.2.2]
theorem put_keep {z : Sz} {D : Nat → Nat} (h : WF z D) {c o l k e : Nat} {U : Nat → Nat} {X : Nat → List Nat} (hp : PutOk z c o l) (hE : PutE z D c l k e U X) {y : Nat} {v : List Nat} (hyx : y ≠ o + l) (hw : Hw (putC z c o l k e U X) (fu D (o + l) (D c + 1)) y v) : Hw z D y v := by
  have hk : k ≠ 0 := by
    rcases hE.2.2.2 with q | q <;> omega
  have h' := put_wf h hp hE
  obtain ⟨h1, h2⟩ := hw
  have hK : (putC z c o l k e U X).K y = z.K y := fu_ne _ _ hyx
  have hEE : (putC z c o l k e U X).E y = z.E y := fu_ne _ _ hyx
  rw [hK] at h1
  refine ⟨h1, ?_⟩
  obtain ⟨-, e', he', h40, hu⟩ := h.leaf h1
  rw [h2, (put_Pl h hp h' hk).1 y (by omega), hEE, he', Nat.add_sub_cancel]
  congr 1
  exact hE.2.2.1 e' hu
/-- a leaf is hung: the table is good, one word is new -/
theorem hang_ok {z : Sz} {D : Nat → Nat} (h : WF z D) {c o l x : Nat} {r : List Nat} {zf : Sz} (hp : PutOk z c o l) (hr : okw r) (h0 : l = 0 → r = [] ∧ c ≠ 0) (h1 : 1 ≤ l → D c + 1 + r.length ≤ 12) (hS : hangS z c o l r = some (x, zf)) :
    x = o + l ∧ ∃ p, plc z.U z.X r = p + 1 ∧ zf = putC z c o l 2 (p + 1) (gU z.U p) (gX z.X p r) ∧ WF zf (fu D (o + l) (D c + 1)) ∧ Hw zf (fu D (o + l) (D c + 1)) x (Pl z D c ++ pre l r) ∧ (∀ y v, Hw zf (fu D (o + l) (D c + 1)) y v → v = Pl z D c ++ pre l r ∨ Hw z D y v) ∧ ∀ y, z.K y ≠ 0 → Pl zf (fu D (o + l) (D c + 1)) y = Pl z D y := by
  rw [hangS] at hS
  by_cases e : plc z.U z.X r = 0
  · rw [if_pos e] at hS; cases hS
  · obtain ⟨p, hpp⟩ : ∃ p, plc z.U z.X r = p + 1 := ⟨plc z.U z.X r - 1, by omega⟩
    rw [if_neg e, hpp, Nat.add_sub_cancel] at hS
    obtain ⟨v1, v2⟩ := Prod.mk.inj (Option.some.inj hS)
    have hE := putE_leaf h hr hpp h0 h1
    have hw := put_wf h hp hE
    obtain ⟨l1, l2⟩ := put_Pl h hp hw (by omega)
    have hx : Hw (putC z c o l 2 (p + 1) (gU z.U p) (gX z.X p r)) (fu D (o + l) (D c + 1)) (o + l) (Pl z D c ++ pre l r) := by
      have hK : (putC z c o l 2 (p + 1) (gU z.U p) (gX z.X p r)).K (o + l) = 2 := fu_eq _ _ _
      have hEx : (putC z c o l 2 (p + 1) (gU z.U p) (gX z.X p r)).E (o + l) = p + 1 := fu_eq _ _ _
      refine ⟨hK, ?_⟩
      rw [l2, hEx, Nat.add_sub_cancel]
      have hX : (putC z c o l 2 (p + 1) (gU z.U p) (gX z.X p r)).X p = r := fu_eq _ _ _
      rw [hX, List.append_assoc]
      congr 1
      cases l with
      | zero => rw [if_pos rfl]; rfl
      | succ l => rw [if_neg (by omega)]; rfl
    refine ⟨v1.symm, p, hpp, v2.symm, ?_⟩
    rw [← v2, ← v1]
    refine ⟨hw, hx, fun y v hv => ?_, l1⟩
    by_cases hyx : y = o + l
    · left
      rw [hyx] at hv
      rw [hv.2, hx.2]
    · exact Or.inr (put_keep h hp hE hyx hv)
theorem frk_ok {z : Sz} {D : Nat → Nat} (h : WF z D) {c x : Nat} {u r : List Nat} {zf : Sz} (hcK : z.K c = 1) (hO : z.O c = 0) (hpt : Part D c u r) (hne : hd0 u ≠ hd0 r) (hS : frkS z c u r = some (x, zf)) :
    ∃ Df, WF zf Df ∧ Hw zf Df x (Pl z D c ++ r) ∧ ∀ y v, Hw zf Df y v → v = Pl z D c ++ u ∨ v = Pl z D c ++ r ∨ Hw z D y v := by
  have hpre : ∀ v, okw v → pre (hd0 v) v.tail = v := by
    intro v hv
    cases v with
    | nil => rfl
    | cons a b => exact pre_s (okw_head hv).1 b
  have tu := tail_len hpt.1
  have tr := tail_len hpt.2.1
  rw [frkS] at hS
  by_cases e : lst z (2 ^ hd0 u ||| 2 ^ hd0 r) = 0
  · rw [if_pos e] at hS; cases hS
  · obtain ⟨p1, p2, p3, p4⟩ := frk_ok1 hcK hO hpt e
    rw [if_neg e] at hS
    generalize lst z (2 ^ hd0 u ||| 2 ^ hd0 r) = o at e p1 p2 p3 hS
    cases hS1 : hangS z c o (hd0 u) u.tail with
    | none => rw [hS1] at hS; cases hS
    | some q =>
      obtain ⟨x1, z1⟩ := q
      rw [hS1] at hS
      have hS2 : hangS z1 c o (hd0 r) r.tail = some (x, zf) := hS
      obtain ⟨e1, p, e2, e3, w1, w2, w3, w4⟩ := hang_ok h p1 (okw_tl hpt.1) (fun q => ⟨tu.1 q, hpt.2.2.2.2⟩) (fun q => by have := tu.2 q; have := hpt.2.2.1; omega) hS1
      have hp2 : PutOk z1 c o (hd0 r) := by
        rw [e3]
        exact frk_ok2 h p1 p2 p3 p4 hne
      have hcx : c ≠ o + hd0 u := by intro q; have := p1.2.2.2.2.2.1; rw [← q] at this; omega
      have hDc : fu D (o + hd0 u) (D c + 1) c = D c := fu_ne _ _ hcx
      obtain ⟨f1, p', f2, f3, v1, v2, v3, v4⟩ := hang_ok w1 hp2 (okw_tl hpt.2.1) (fun q => ⟨tr.1 q, hpt.2.2.2.2⟩) (fun q => by rw [hDc]; have := tr.2 q; have := hpt.2.2.2.1; omega) hS2
      rw [w4 c (by omega), hpre r hpt.2.1] at v2 v3
      rw [hpre u hpt.1] at w3
      refine ⟨_, v1, v2, fun y v hv => ?_⟩
      rcases v3 y v hv with q | q
      · exact Or.inr (Or.inl q)
      · rcases w3 y v q with q | q
        · exact Or.inl q
        · exact Or.inr (Or.inr q)
theorem chS_ok : ∀ (u r : List Nat) (z : Sz) (c : Nat) (D : Nat → Nat) (x : Nat) (zf : Sz), WF z D → z.K c = 1 → z.O c = 0 → Part D c u r → u ≠ r → chS u r z c = some (x, zf) →
    ∃ Df, WF zf Df ∧ Hw zf Df x (Pl z D c ++ r) ∧ ∀ y v, Hw zf Df y v → v = Pl z D c ++ u ∨ v = Pl z D c ++ r ∨ Hw z D y v := by
  intro u
  induction u with
  | nil =>
    intro r z c D x zf h hcK hO hpt hne hS
    have hh : hd0 [] ≠ hd0 r := fun q => hne ((hd0_0 hpt.2.1.2).mp q.symm).symm
    rw [chS_frk hh] at hS
    exact frk_ok h hcK hO hpt hh hS
  | cons a u ih =>
    intro r z c D x zf h hcK hO hpt hne hS
    by_cases hh : hd0 (a :: u) = hd0 r
    · cases r with
      | nil =>
        have := okw_head hpt.1
        have : a = 0 := hh
        omega
      | cons b r =>
        have eab : a = b := hh
        subst eab
        have ha := okw_head hpt.1
        have hDu : D c + 1 ≤ 11 := dp_part11 (u := u) (s := r) (by have := hpt.2.2.1; rw [List.length_cons] at this; omega) (by have := hpt.2.2.2.1; rw [List.length_cons] at this; omega) (fun q => hne (by rw [q]))
        rw [chS, if_pos rfl] at hS
        by_cases el : lst z (2 ^ a) = 0
        · rw [if_pos el] at hS; cases hS
        · rw [if_neg el] at hS
          obtain ⟨p1, p2, p3⟩ := chain_put h hcK hO ha.1 (by omega) hDu el
          generalize lst z (2 ^ a) = o at el p1 p2 p3 hS
          have hcx : o + a ≠ c := by intro q; have := p1.2.2.2.2.2.1; rw [q] at this; omega
          have l2 := (put_Pl h p1 p3 (by omega)).2
          rw [if_neg (by omega)] at l2
          have q1 := hpt.2.2.1
          have q2 := hpt.2.2.2.1
          rw [List.length_cons] at q1 q2
          obtain ⟨Df, v1, v2, v3⟩ := ih r _ _ _ x zf p3 (fu_eq _ _ _) (by show fu z.O c o (o + a) = 0; rw [fu_ne _ _ hcx]; exact (h.free p1.2.2.2.2.2.1).2.2.1) ⟨okw_tail hpt.1, okw_tail hpt.2.1, by rw [fu_eq]; omega, by rw [fu_eq]; omega, by have := p1.2.2.1; omega⟩ (fun q => hne (by rw [q])) hS
          have ha2 : ∀ v : List Nat, Pl z D c ++ [a] ++ v = Pl z D c ++ a :: v := fun v => by rw [List.append_assoc]; rfl
          rw [l2] at v2 v3
          simp only [ha2] at v2 v3
          refine ⟨Df, v1, v2, fun y v hv => ?_⟩
          rcases v3 y v hv with q | q | q
          · exact Or.inl q
          · exact Or.inr (Or.inl q)
          · right; right
            refine put_keep h p1 p2 (fun q3 => ?_) q
            have hK : (putC z c o a 1 0 z.U z.X).K y = 1 := by rw [q3]; exact fu_eq _ _ _
            have := q.1
            omega
    · rw [chS_frk hh] at hS
      exact frk_ok h hcK hO hpt hh hS
theorem spl_ok {z : Sz} {D : Nat → Nat} (h : WF z D) {c x : Nat} {r : List Nat} {zf : Sz} (hk : z.K c = 2) (hb : z.B c ≠ 1) (hr : okw r) (hl : D c + r.length ≤ 12) (hne : z.X (z.E c - 1) ≠ r) (hS : splS z c r = some (x, zf)) :
    ∃ Df, WF zf Df ∧ Hw zf Df x (Pl z D c ++ r) ∧ ∀ y v, Hw zf Df y v → v = Pl z D c ++ r ∨ ∃ y', Hw z D y' v := by
  have hc0 : c ≠ 0 := by intro q; rw [q, h.root.1] at hk; omega
  obtain ⟨hO, e, he, h40, hu⟩ := h.leaf hk
  have hlen := h.len hk hb
  rw [splS, he, Nat.add_sub_cancel] at hS
  rw [he, Nat.add_sub_cancel] at hlen hne
  obtain ⟨d1, d2, d3⟩ := drop_ok h hk he
  have hwf := un_wf h hk hb d3 (dp_part11 hlen hl hne)
  obtain ⟨Df, v1, v2, v3⟩ := chS_ok _ r _ c D x zf hwf (fu_eq _ _ _) hO ⟨h.e.2.2.1 e, hr, hlen, hl, hc0⟩ hne hS
  rw [un_Pl] at v2 v3
  refine ⟨Df, v1, v2, fun y v hv => ?_⟩
  rcases v3 y v hv with q | q | q
  · right
    refine ⟨c, hk, ?_⟩
    rw [q, he, Nat.add_sub_cancel]
  · exact Or.inl q
  · right
    obtain ⟨q1, q2⟩ := q
    have hyc : y ≠ c := by
      intro q3
      have hK : (unL z c (dU z.U e) (dX z.U z.X e)).K y = 1 := by rw [q3]; exact fu_eq _ _ _
      omega
    have hK : (unL z c (dU z.U e) (dX z.U z.X e)).K y = z.K y := fu_ne _ _ hyc
    have hEE : (unL z c (dU z.U e) (dX z.U z.X e)).E y = z.E y := fu_ne _ _ hyc
    rw [hK] at q1
    refine ⟨y, q1, ?_⟩
    rw [q2, un_Pl, hEE]
    congr 1
    exact (drop_keep h d3 q1 hyc).2
theorem ins_ok {z : Sz} {D : Nat → Nat} (h : WF z D) {w : List Nat} (hw : okw w) (hw0 : w ≠ []) (hno : Fz z D 0 w = 0) {x : Nat} {zf : Sz} (hS : insS z w = some (x, zf)) :
    ∃ Df, WF zf Df ∧ Hw zf Df x w ∧ ∀ y v, Hw zf Df y v → v = w ∨ ∃ y', Hw z D y' v := by
  have key : ∀ f c u, z.K c = 1 → 13 - D c = f → okw u → D c + u.length ≤ 12 → (c = 0 → u ≠ []) → Fz z D c u = 0 → insF z f c u = some (x, zf) → ∃ Df, WF zf Df ∧ Hw zf Df x (Pl z D c ++ u) ∧ ∀ y v, Hw zf Df y v → v = Pl z D c ++ u ∨ ∃ y', Hw z D y' v := by
    intro f
    induction f with
    | zero =>
      intro c u hcK hf hu hl h0 hF hS
      cases hS
    | succ f ih =>
      intro c u hcK hf hu hl h0 hF hS
      have l1 := hd0_lt hu.2
      have tl := tail_len hu
      have hpre : pre (hd0 u) u.tail = u := by
        cases u with
        | nil => rfl
        | cons a b => exact pre_s (okw_head hu).1 b
      rw [F_inner h hcK] at hF
      rw [insF] at hS
      by_cases ec : ch z c (hd0 u) = 0
      · rw [if_pos ec] at hS
        cases hR : roomS z c (hd0 u) with
        | none => rw [hR] at hS; cases hS
        | some q =>
          obtain ⟨c', z2, off⟩ := q
          rw [hR] at hS
          have hS2 : hangS z2 c' off (hd0 u) u.tail = some (x, zf) := hS
          obtain ⟨φ, ψ, i1, i2, i3, i4⟩ := room_ok h hcK l1 ec hR
          have h2 := iso_wf h i1
          have hk : z.K c ≠ 0 := by omega
          have hDc : D (ψ c') = D c := by rw [i2, (i1.2.1 c hk).1]
          obtain ⟨e1, p, e2, e3, w1, w2, w3, w4⟩ := hang_ok h2 i3 (okw_tl hu) (fun q => ⟨tl.1 q, fun q2 => h0 ((iso_0 h i1 hk).mp (by rw [← i2]; exact q2)) ((hd0_0 hu.2).mp q)⟩) (fun q => by rw [hDc]; have := tl.2 q; omega) hS2
          have hPl : Pl z2 (fun x => D (ψ x)) c' = Pl z D c := by rw [i2]; exact iso_Pl h i1 c hk
          rw [hPl, hpre] at w2 w3
          refine ⟨_, w1, w2, fun y v hv => ?_⟩
          rcases w3 y v hv with q | q
          · exact Or.inl q
          · exact Or.inr (iso_Hw h i1 q)
      · rw [if_neg ec] at hS hF
        have e3 := h.chp ec
        have hPl := Pl_ch h ec u.tail
        rw [hpre] at hPl
        by_cases el : z.K (ch z c (hd0 u)) = 2
        · rw [if_pos el] at hS
          rw [F_leaf h el] at hF
          have hne : z.X (z.E (ch z c (hd0 u)) - 1) ≠ u.tail := by
            intro q
            rw [if_pos q] at hF
            exact ec hF
          have hlne : hd0 u ≠ 0 := by
            intro q
            have q1 := (e3.2.2.2.2.2.2.2.1 q).2.2
            exact hne (by rw [q1, tl.1 q])
          have := spl_ok h el (by rw [e3.2.2.1]; omega) (okw_tl hu) (by rw [e3.2.2.2.2.2.2.1]; have := tl.2 (by omega); omega) hne hS
          rw [hPl] at this
          exact this
        · rw [if_neg el] at hS
          have hk1 : z.K (ch z c (hd0 u)) = 1 := by have := h.k12 e3.1; omega
          have hlne : hd0 u ≠ 0 := by
            intro q
            have := (e3.2.2.2.2.2.2.2.1 q).1
            omega
          have := ih (ch z c (hd0 u)) u.tail hk1 (by rw [e3.2.2.2.2.2.2.1]; omega) (okw_tl hu) (by rw [e3.2.2.2.2.2.2.1]; have := tl.2 (by omega); omega) (fun q => absurd q ec) hF hS
          rw [hPl] at this
          exact this
  have := key 13 0 w h.root.1 (by rw [h.root.2.2.2]) hw (by rw [h.root.2.2.2]; have := hw.1; omega) (fun _ => hw0) hno hS
  rw [Pl_0 h] at this
  exact this
