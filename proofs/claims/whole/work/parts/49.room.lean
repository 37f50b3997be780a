/-! room for a child -/
theorem i160 (a : Nat) : (160 : Int32) + nI a = nI (160 + a) := by rw [show (160 : Int32) = nI 160 by rfl, nI_add]
theorem i320 (a : Nat) : (320 : Int32) + nI a = nI (320 + a) := by rw [show (320 : Int32) = nI 320 by rfl, nI_add]
theorem sO_same (z : Sz) : sO z z.O = z := rfl
theorem iso_refl {z : Sz} {D : Nat → Nat} (h : WF z D) : Iso id id z z :=
  ⟨rfl, fun _ _ => ⟨rfl, rfl, rfl, rfl, fun _ hp => hp, id⟩, fun x hx => ⟨x, hx, rfl⟩, fun _ _ hc => ⟨(h.chp hc).2.2.2.2.2.2.2.2, (h.chp hc).2.2.2.2.2.1.symm⟩, fun _ hx => h.free hx, h.2.1, fun _ hy => (h.leaf hy).1, fun _ hy => ⟨(h.inn hy).2.1, id⟩, rfl, rfl⟩
def rvl (z : Sz) (c l : Nat) : Nat := z.P (z.O c + l) - 1
def roomS (z : Sz) (c l : Nat) : Option (Nat × Sz × Nat) :=
  if z.O c = 0 then (if lst z (2 ^ l) = 0 then none else some (c, z, lst z (2 ^ l)))
  else if z.O c + l < 160 ∧ z.K (z.O c + l) = 0 then some (c, z, z.O c)
  else if z.O c + l < 160 ∧ fJ_bitCount (nI (msk z (rvl z c l) 9)) < fJ_bitCount (nI (msk z c 9)) + 1 then
    (if lst z (msk z (rvl z c l) 9) = 0 then none else some (if z.P c = rvl z c l + 1 then lst z (msk z (rvl z c l) 9) + (z.B c - 1) else c, mvT z (rvl z c l) (lst z (msk z (rvl z c l) 9)), z.O c))
  else (if lst z (msk z c 9 ||| 2 ^ l) = 0 then none else some (c, mvT z c (lst z (msk z c 9 ||| 2 ^ l)), lst z (msk z c 9 ||| 2 ^ l)))
theorem fit_msk {z : Sz} {c m : Nat} (h : lst z (msk z c 9 ||| m) ≠ 0) : Fit z c (lst z (msk z c 9 ||| m)) := by
  refine ⟨by omega, fun l hl hc => lst_fit h l hl ?_⟩
  rw [Nat.testBit_or, msk_bit z c 9 l hl, decide_eq_true hc]; rfl
theorem fit_msk0 {z : Sz} {c : Nat} (h : lst z (msk z c 9) ≠ 0) : Fit z c (lst z (msk z c 9)) := by
  refine ⟨by omega, fun l hl hc => lst_fit h l hl ?_⟩
  rw [msk_bit z c 9 l hl, decide_eq_true hc]
/-- the cell in the way is a child of another inner cell -/
theorem rvl_ok {z : Sz} {D : Nat → Nat} (h : WF z D) {c l : Nat} (hO : 0 < z.O c) (hch : ch z c l = 0) (hk : z.K (z.O c + l) ≠ 0) : z.P (z.O c + l) = rvl z c l + 1 ∧ z.K (rvl z c l) = 1 ∧ rvl z c l ≠ c ∧ 0 < z.O (rvl z c l) ∧ frB z (rvl z c l) 9 (z.O c + l) := by
  obtain ⟨p, b, w1, w2, w3, w4, w5, w6, w7, w8⟩ := h.par (c := z.O c + l) (by omega) hk
  have e : rvl z c l = p := by rw [rvl, w1, Nat.add_sub_cancel]
  rw [e]
  refine ⟨w1, w4, fun q => ?_, w5, frB_9 h (by omega) hk w1⟩
  subst q
  rw [ch_eq hO (h.lt hk) (by omega) w1] at hch
  omega
theorem room_ok {z : Sz} {D : Nat → Nat} (h : WF z D) {c l c' off : Nat} {z2 : Sz} (hcK : z.K c = 1) (hl : l < 9) (hch : ch z c l = 0) (hr : roomS z c l = some (c', z2, off)) :
    ∃ φ ψ, Iso φ ψ z z2 ∧ c' = φ c ∧ PutOk z2 c' off l ∧ (z.O c ≠ 0 → z2.O c' = off) := by
  rw [roomS] at hr
  have hb1 : ∀ m, m.testBit l = true → lst z m ≠ 0 → lst z m + l < 160 ∧ z.K (lst z m + l) = 0 := fun m hm hne => lst_fit hne l hl hm
  by_cases e0 : z.O c = 0
  · rw [if_pos e0] at hr
    by_cases e1 : lst z (2 ^ l) = 0
    · rw [if_pos e1] at hr; cases hr
    · rw [if_neg e1] at hr
      obtain ⟨q1, hr⟩ := Prod.mk.inj (Option.some.inj hr)
      obtain ⟨q2, q3⟩ := Prod.mk.inj hr
      subst q1 q2 q3
      have := hb1 (2 ^ l) (by rw [Nat.testBit_two_pow]; simp) e1
      exact ⟨id, id, iso_refl h, rfl, ⟨hcK, hl, by omega, lst_lt _ _, this.1, this.2, Or.inr e0⟩, fun q => absurd e0 q⟩
  · rw [if_neg e0] at hr
    have hOc := (h.inn hcK).2.1
    by_cases e1 : z.O c + l < 160 ∧ z.K (z.O c + l) = 0
    · rw [if_pos e1] at hr
      obtain ⟨q1, hr⟩ := Prod.mk.inj (Option.some.inj hr)
      obtain ⟨q2, q3⟩ := Prod.mk.inj hr
      subst q1 q2 q3
      exact ⟨id, id, iso_refl h, rfl, ⟨hcK, hl, by omega, hOc, e1.1, e1.2, Or.inl rfl⟩, fun _ => rfl⟩
    · rw [if_neg e1] at hr
      by_cases e2 : z.O c + l < 160 ∧ fJ_bitCount (nI (msk z (rvl z c l) 9)) < fJ_bitCount (nI (msk z c 9)) + 1
      · rw [if_pos e2] at hr
        have hk : z.K (z.O c + l) ≠ 0 := fun q => e1 ⟨e2.1, q⟩
        obtain ⟨r1, r2, r3, r4, r5⟩ := rvl_ok h (by omega) hch hk
        by_cases e3 : lst z (msk z (rvl z c l) 9) = 0
        · rw [if_pos e3] at hr; cases hr
        · rw [if_neg e3] at hr
          obtain ⟨q1, hr⟩ := Prod.mk.inj (Option.some.inj hr)
          obtain ⟨q2, q3⟩ := Prod.mk.inj hr
          subst q1 q2 q3
          have hf := fit_msk0 e3
          have ho := lst_lt z (msk z (rvl z c l) 9)
          generalize lst z (msk z (rvl z c l) 9) = o at hf ho e3
          have hi := mv_iso h r2 hf r4 ho
          have hc' : (if z.P c = rvl z c l + 1 then o + (z.B c - 1) else c) = mph z (rvl z c l) o c := by
            rw [mph]
            by_cases e4 : z.P c = rvl z c l + 1
            · have hc0 : c ≠ 0 := by intro q; rw [q, h.root.2.1] at e4; omega
              obtain ⟨p, b, w1, w2, w3, w4, w5, w6, w7, w8⟩ := h.par hc0 (by omega)
              have hp : p = rvl z c l := by omega
              rw [if_pos e4, if_pos (frB_9 h hc0 (by omega) e4), w2, ← hp]
              omega
            · rw [if_neg e4, if_neg]
              intro a
              have := (h.chp a.2.2)
              rw [this.2.2.2.2.2.1, show z.O (rvl z c l) + (c - z.O (rvl z c l)) = c by have := a.1; omega] at this
              exact e4 this.2.1
          have hKv : (mvT z (rvl z c l) o).K (mph z (rvl z c l) o c) = 1 := by
            rw [(hi.2.1 c (by omega)).2.1]; exact hcK
          have hOv : (mvT z (rvl z c l) o).O (mph z (rvl z c l) o c) = z.O c := by
            have hut : ∀ y, z.K y ≠ 0 → ¬ toB z (rvl z c l) o 9 y := fun y hy a => hy (hf.to (Nat.le_refl 9) a).1
            show fu (mvF z (rvl z c l) o 9 z.O) (rvl z c l) o _ = _
            have hne : mph z (rvl z c l) o c ≠ rvl z c l := by
              intro q
              have h1 : mph z (rvl z c l) o (rvl z c l) = rvl z c l := by
                rw [mph, if_neg]
                intro a
                obtain ⟨b, hb, e, hne⟩ := frB_ch h a
                have := (h.chp (c := rvl z c l) (l := b) (by rw [e]; exact hne)).2.2.2.2.2.2.1
                rw [e] at this; omega
              exact r3 (iso_inj hi (by omega) (by omega) (by rw [h1, q]))
            rw [fu_ne _ _ hne, mph]
            by_cases e4 : frB z (rvl z c l) 9 c
            · rw [if_pos e4, mvF_to ⟨by omega, by have := e4.1; have := e4.2.1; omega, by rw [Nat.add_sub_cancel_left]; exact e4.2.2⟩, Nat.add_sub_cancel_left]
              congr 1
              have := e4.1; omega
            · rw [if_neg e4, mvF_no (hut c (by omega)) e4]
          have hKx : (mvT z (rvl z c l) o).K (z.O c + l) = 0 := by
            show mvF z (rvl z c l) o 9 z.K _ = 0
            exact mvF_fr (fun a => hk (hf.to (Nat.le_refl 9) a).1) r5
          refine ⟨_, _, hi, hc', ?_, fun _ => by rw [hc']; exact hOv⟩
          rw [hc']
          exact ⟨hKv, hl, by omega, hOc, e2.1, hKx, Or.inl hOv⟩
      · rw [if_neg e2] at hr
        by_cases e3 : lst z (msk z c 9 ||| 2 ^ l) = 0
        · rw [if_pos e3] at hr; cases hr
        · rw [if_neg e3] at hr
          obtain ⟨q1, hr⟩ := Prod.mk.inj (Option.some.inj hr)
          obtain ⟨q2, q3⟩ := Prod.mk.inj hr
          subst q1 q2 q3
          have hf := fit_msk e3
          have ho := lst_lt z (msk z c 9 ||| 2 ^ l)
          have hx := hb1 (msk z c 9 ||| 2 ^ l) (by rw [Nat.testBit_or, Nat.testBit_two_pow]; simp) e3
          generalize lst z (msk z c 9 ||| 2 ^ l) = o at hf ho e3 hx
          have hi := mv_iso h hcK hf (by omega) ho
          have hcc : mph z c o c = c := by
            rw [mph, if_neg]
            intro a
            obtain ⟨b, hb, e, hne⟩ := frB_ch h a
            have := (h.chp (c := c) (l := b) (by rw [e]; exact hne)).2.2.2.2.2.2.1
            rw [e] at this; omega
          have hKc := (hi.2.1 c (by omega)).2.1
          rw [hcc] at hKc
          have hOv : (mvT z c o).O c = o := fu_eq _ _ _
          have hKx : (mvT z c o).K (o + l) = 0 := by
            show mvF z c o 9 z.K _ = 0
            have hnt : ¬ toB z c o 9 (o + l) := fun a => by
              have := a.2.2
              rw [Nat.add_sub_cancel_left] at this
              exact this hch
            by_cases e4 : frB z c 9 (o + l)
            · exact mvF_fr hnt e4
            · rw [mvF_no hnt e4]; exact hx.2
          exact ⟨_, _, hi, hcc.symm, ⟨by rw [hKc]; exact hcK, hl, hf.1, ho, hx.1, hKx, Or.inl hOv⟩, fun _ => hOv⟩
/-- no child, no mask, no offset -/
theorem msk_0 {z : Sz} {D : Nat → Nat} (h : WF z D) {c : Nat} (hcK : z.K c = 1) : msk z c 9 = 0 ↔ z.O c = 0 := by
  constructor
  · intro e
    by_cases h0 : z.O c = 0
    · exact h0
    · obtain ⟨l, hl, hc⟩ := (h.inn hcK).2.2.2 (by omega)
      have := msk_bit z c 9 l hl
      rw [e, decide_eq_true hc] at this
      simp at this
  · intro e
    have : ∀ n, msk z c n = 0 := by
      intro n
      induction n with
      | zero => rfl
      | succ n ih =>
        rw [msk, ih, if_pos]
        exact if_neg (fun q => by omega)
    exact this 9
theorem t_placeFirst {z : Sz} {C W : Nat → Nat} {t : TS} (hs : Sm z) (ht : Hr z C W t) {c m : Nat} (hc : c < 160) (hm : m < 512) : fT_placeFirst (nI c) (nI m) t = some (if lst z m = 0 then 0 else 1, sTO t (J_put 160 (tO t) (nI c) (nI (lst z m)))) := by
  have hol := lst_lt z m
  unfold fT_placeFirst
  rw [t_leastOffset hs ht.k hm]
  simp only [Option.bind_some, gw_let]
  by_cases e : lst z m = 0
  · rw [if_pos (show nI (lst z m) ≤ 0 by rw [e]; decide), if_pos e]
  · rw [if_neg (nI_nle (by omega) (by omega)), if_neg e]
theorem lt_iff_not_le {a b : Int32} : a < b ↔ ¬ b ≤ a := by
  rw [Int32.lt_iff_toInt_lt, Int32.le_iff_toInt_le]; omega
theorem t_makeRoom {z : Sz} {D : Nat → Nat} {t : TS} (h : WF z D) (ht : Ht z (Wz z D) t) {c l : Nat} (hcK : z.K c = 1) (hl : l < 9) (hch : ch z c l = 0) :
    Gd (fun o => (roomS z c l = none → o.1 = -1) ∧ ∀ c' z2 off, roomS z c l = some (c', z2, off) → o.1 = nI c' ∧ ∃ D2, WF z2 D2 ∧ (∃ φ ψ, Iso φ ψ z z2 ∧ c' = φ c ∧ D2 = fun x => D (ψ x)) ∧ PutOk z2 c' off l ∧ Hr (sO z2 (fu z2.O c' off)) (fun x => msk z2 x 9) (Wz z2 D2) o.2) (fT_makeRoom (nI c) (nI l) t) := by
  have hs := h.sml
  have hc := h.lt (c := c) (by omega)
  have hm : msk z c 9 < 512 := msk_lt z c 9
  have hl2 : 2 ^ l < 512 := Nat.pow_lt_pow_right (n := 9) (by omega) hl
  have hOc := (h.inn hcK).2.1
  unfold fT_makeRoom
  rw [J_at_n _ hc (by omega), ht.c hc, shl_e l hl]
  by_cases e0 : z.O c = 0
  · rw [if_pos (by rw [(msk_0 h hcK).mpr e0]; rfl), t_placeFirst hs ht.hr hc hl2]
    simp only [Option.bind_some]
    by_cases e1 : lst z (2 ^ l) = 0
    · have hr : roomS z c l = none := by rw [roomS, if_pos e0, if_pos e1]
      rw [if_pos e1, if_pos rfl]
      exact gd_some ⟨fun _ => rfl, fun c' z2 off q => by rw [hr] at q; cases q⟩
    · have hr : roomS z c l = some (c, z, lst z (2 ^ l)) := by rw [roomS, if_pos e0, if_neg e1]
      rw [if_neg e1, if_neg (by decide)]
      refine gd_some ⟨fun q => (by rw [hr] at q; cases q), fun c' z2 off q => ?_⟩
      rw [hr] at q
      obtain ⟨q1, q⟩ := Prod.mk.inj (Option.some.inj q)
      obtain ⟨q2, q3⟩ := Prod.mk.inj q
      subst q1 q2 q3
      have hx := lst_fit e1 l hl (by rw [Nat.testBit_two_pow]; simp)
      exact ⟨rfl, D, h, ⟨id, id, iso_refl h, rfl, rfl⟩, ⟨hcK, hl, by omega, lst_lt _ _, hx.1, hx.2, Or.inr e0⟩, Hr_O ht.hr hc rfl rfl⟩
  · rw [if_neg (show ¬ nI (msk z c 9) = 0 from fun q => e0 ((msk_0 h hcK).mp (nI_inj (b := 0) (by omega) (by omega) q)))]
    simp only [gw_let]
    rw [J_at_n _ hc (by omega), ht.o hc, nI_add]
    -- the cell itself moves
    have hself : ∀ hno : ¬ (z.O c + l < 160 ∧ z.K (z.O c + l) = 0), ¬ (z.O c + l < 160 ∧ fJ_bitCount (nI (msk z (rvl z c l) 9)) < fJ_bitCount (nI (msk z c 9)) + 1) →
        Gd (fun o => (roomS z c l = none → o.1 = -1) ∧ ∀ c' z2 off, roomS z c l = some (c', z2, off) → o.1 = nI c' ∧ ∃ D2, WF z2 D2 ∧ (∃ φ ψ, Iso φ ψ z z2 ∧ c' = φ c ∧ D2 = fun x => D (ψ x)) ∧ PutOk z2 c' off l ∧ Hr (sO z2 (fu z2.O c' off)) (fun x => msk z2 x 9) (Wz z2 D2) o.2) ((fT_moveChildren (nI c) (nI (2 ^ l)) t).bind fun q16 => if q16.1 = 0 then some ((-1 : Int32), q16.2) else some (nI c, q16.2)) := by
      intro hno hno2
      refine gd_bind (t_moveChildren h ht hcK hl2) ?_
      rintro ⟨o1, o2⟩ ⟨g1, g2⟩
      by_cases e3 : lst z (msk z c 9 ||| 2 ^ l) = 0
      · have hr : roomS z c l = none := by rw [roomS, if_neg e0, if_neg hno, if_neg hno2, if_pos e3]
        obtain ⟨q1, q2⟩ := Prod.mk.inj (g1 e3)
        try dsimp only
        rw [q1, if_pos rfl]
        exact gd_some ⟨fun _ => rfl, fun c' z2 off q => by rw [hr] at q; cases q⟩
      · have hr : roomS z c l = some (c, mvT z c (lst z (msk z c 9 ||| 2 ^ l)), lst z (msk z c 9 ||| 2 ^ l)) := by rw [roomS, if_neg e0, if_neg hno, if_neg hno2, if_neg e3]
        obtain ⟨k1, k2⟩ := g2 e3
        dsimp only at k1 k2 ⊢
        rw [k1, if_neg (by decide)]
        refine gd_some ⟨fun q => (by rw [hr] at q; cases q), fun c' z2 off q => ?_⟩
        obtain ⟨φ, ψ, i1, i2, i3, i4⟩ := room_ok h hcK hl hch q
        rw [hr] at q
        obtain ⟨q1, q⟩ := Prod.mk.inj (Option.some.inj q)
        obtain ⟨q2, q3⟩ := Prod.mk.inj q
        have hf := fit_msk e3
        have ho := lst_lt z (msk z c 9 ||| 2 ^ l)
        rw [← q1, ← q2, ← q3] at i3
        rw [← q1, ← q2, ← q3]
        have hi := mv_iso h hcK hf (by omega) ho
        have hcc : mph z c (lst z (msk z c 9 ||| 2 ^ l)) c = c := by
          rw [mph, if_neg]
          intro a
          obtain ⟨b, hb, e, hne⟩ := frB_ch h a
          have := (h.chp (c := c) (l := b) (by rw [e]; exact hne)).2.2.2.2.2.2.1
          rw [e] at this; omega
        refine ⟨rfl, _, iso_wf h hi, ⟨_, _, hi, hcc.symm, rfl⟩, i3, ?_⟩
        have hO : (mvT z c (lst z (msk z c 9 ||| 2 ^ l))).O c = lst z (msk z c 9 ||| 2 ^ l) := fu_eq _ _ _
        rw [fu_same hO, sO_same]
        refine ⟨k2.k, k2.p, k2.b, k2.o, k2.e, fun x hx => ?_, fun x hx => ?_, k2.n, k2.m⟩
        · rw [k2.c x hx, mv_msk h hcK hf (by omega) ho x hx]
        · rw [k2.w x hx, mv_W h hcK hf (by omega) ho x]
    by_cases e1 : z.O c + l < 160
    · rw [t_K ht e1]
      have hb := hs.k (z.O c + l)
      by_cases e2 : z.K (z.O c + l) = 0
      · have hr : roomS z c l = some (c, z, z.O c) := by rw [roomS, if_neg e0, if_pos ⟨e1, e2⟩]
        rw [if_pos (by rw [e2]; rfl)]
        refine gd_some ⟨fun q => (by rw [hr] at q; cases q), fun c' z2 off q => ?_⟩
        rw [hr] at q
        obtain ⟨q1, q⟩ := Prod.mk.inj (Option.some.inj q)
        obtain ⟨q2, q3⟩ := Prod.mk.inj q
        subst q1 q2 q3
        refine ⟨rfl, D, h, ⟨id, id, iso_refl h, rfl, rfl⟩, ⟨hcK, hl, by omega, hOc, e1, e2, Or.inl rfl⟩, ?_⟩
        rw [fu_same rfl]
        exact ht.hr
      · obtain ⟨r1, r2, r3, r4, r5⟩ := rvl_ok h (by omega) hch e2
        have hrv := h.lt (c := rvl z c l) (by omega)
        have hmr : msk z (rvl z c l) 9 < 512 := msk_lt z _ 9
        rw [if_neg (nI_ne0 (by omega) (by omega)), J_at_n _ e1 (by omega), ht.p e1, r1, eI_s, if_neg (nI_m1 (by omega))]
        unfold fT_childrenOf
        rw [J_at_n _ hrv (by omega), J_at_n _ hc (by omega), ht.c hrv, ht.c hc]
        by_cases e3 : fJ_bitCount (nI (msk z (rvl z c l) 9)) < fJ_bitCount (nI (msk z c 9)) + 1
        · rw [if_pos e3, J_at_n _ hc (by omega), J_at_n _ hc (by omega), ht.p hc, ht.b hc]
          have hin : Gd (fun o => (lst z (msk z (rvl z c l) 9) = 0 → o = (0, t)) ∧ (lst z (msk z (rvl z c l) 9) ≠ 0 → o.1 = 1 ∧ Hr (mvT z (rvl z c l) (lst z (msk z (rvl z c l) 9))) (mvF z (rvl z c l) (lst z (msk z (rvl z c l) 9)) 9 (fun x => msk z x 9)) (mvF z (rvl z c l) (lst z (msk z (rvl z c l) 9)) 9 (Wz z D)) o.2)) (fT_moveChildren (nI (rvl z c l)) 0 t) := by
            have := t_moveChildren h ht r2 (n := 0) (by omega)
            rw [Nat.or_zero] at this
            exact this
          have hboth : ∀ v : Int32, (v = 0 ∧ z.P c ≠ rvl z c l + 1 ∨ v = 1 ∧ z.P c = rvl z c l + 1) →
              Gd (fun o => (roomS z c l = none → o.1 = -1) ∧ ∀ c' z2 off, roomS z c l = some (c', z2, off) → o.1 = nI c' ∧ ∃ D2, WF z2 D2 ∧ (∃ φ ψ, Iso φ ψ z z2 ∧ c' = φ c ∧ D2 = fun x => D (ψ x)) ∧ PutOk z2 c' off l ∧ Hr (sO z2 (fu z2.O c' off)) (fun x => msk z2 x 9) (Wz z2 D2) o.2) ((fT_moveChildren (nI (rvl z c l)) 0 t).bind fun q13 => if q13.1 = 0 then some ((-1 : Int32), q13.2) else if v = 0 then some (nI c, q13.2) else some (J_at 160 (tO q13.2) (nI (rvl z c l)) + eI (z.B c), q13.2)) := by
            intro v hv
            refine gd_bind hin ?_
            rintro ⟨o1, o2⟩ ⟨g1, g2⟩
            by_cases e4 : lst z (msk z (rvl z c l) 9) = 0
            · have hr : roomS z c l = none := by rw [roomS, if_neg e0, if_neg (fun q => e2 q.2), if_pos ⟨e1, e3⟩, if_pos e4]
              obtain ⟨q1, q2⟩ := Prod.mk.inj (g1 e4)
              try dsimp only
              rw [q1, if_pos rfl]
              exact gd_some ⟨fun _ => rfl, fun c' z2 off q => by rw [hr] at q; cases q⟩
            · have hr : roomS z c l = some (if z.P c = rvl z c l + 1 then lst z (msk z (rvl z c l) 9) + (z.B c - 1) else c, mvT z (rvl z c l) (lst z (msk z (rvl z c l) 9)), z.O c) := by rw [roomS, if_neg e0, if_neg (fun q => e2 q.2), if_pos ⟨e1, e3⟩, if_neg e4]
              obtain ⟨k1, k2⟩ := g2 e4
              dsimp only at k1 k2 ⊢
              rw [k1, if_neg (by decide)]
              have hf := fit_msk0 e4
              have ho := lst_lt z (msk z (rvl z c l) 9)
              obtain ⟨φ, ψ, i1, i2, i3, i4⟩ := room_ok h hcK hl hch hr
              have i5 := i4 e0
              have hi := mv_iso h r2 hf r4 ho
              have hc' : (if z.P c = rvl z c l + 1 then lst z (msk z (rvl z c l) 9) + (z.B c - 1) else c) = mph z (rvl z c l) (lst z (msk z (rvl z c l) 9)) c := by
                rw [mph]
                by_cases e5 : z.P c = rvl z c l + 1
                · have hc0 : c ≠ 0 := by intro q; rw [q, h.root.2.1] at e5; omega
                  obtain ⟨p, b, w1, w2, w3, w4, w5, w6, w7, w8⟩ := h.par hc0 (by omega)
                  have hp : p = rvl z c l := by omega
                  rw [if_pos e5, if_pos (frB_9 h hc0 (by omega) e5), w2, ← hp]
                  omega
                · rw [if_neg e5, if_neg]
                  intro a
                  have := (h.chp a.2.2)
                  rw [this.2.2.2.2.2.1, show z.O (rvl z c l) + (c - z.O (rvl z c l)) = c by have := a.1; omega] at this
                  exact e5 this.2.1
              have hval : (if v = 0 then some (nI c, o2) else some (J_at 160 (tO o2) (nI (rvl z c l)) + eI (z.B c), o2)) = some (nI (if z.P c = rvl z c l + 1 then lst z (msk z (rvl z c l) 9) + (z.B c - 1) else c), o2) := by
                rcases hv with ⟨v1, v2⟩ | ⟨v1, v2⟩
                · rw [if_pos v1, if_neg v2]
                · rw [if_neg (by rw [v1]; decide), if_pos v2, J_at_n _ hrv (by omega), k2.o _ hrv]
                  have hO : (mvT z (rvl z c l) (lst z (msk z (rvl z c l) 9))).O (rvl z c l) = lst z (msk z (rvl z c l) 9) := fu_eq _ _ _
                  have hc0 : c ≠ 0 := by intro q; rw [q, h.root.2.1] at v2; omega
                  obtain ⟨p, b, w1, w2, w3, w4, w5, w6, w7, w8⟩ := h.par hc0 (by omega)
                  rw [hO, w2, eI_s, nI_add, Nat.add_sub_cancel]
              rw [hval]
              refine gd_some ⟨fun q => (by rw [hr] at q; cases q), fun c' z2 off q => ?_⟩
              rw [hr] at q
              obtain ⟨q1, q⟩ := Prod.mk.inj (Option.some.inj q)
              obtain ⟨q2, q3⟩ := Prod.mk.inj q
              rw [← q1, ← q2, ← q3]
              refine ⟨rfl, _, iso_wf h hi, ⟨_, _, hi, hc', rfl⟩, i3, ?_⟩
              rw [fu_same i5, sO_same]
              refine ⟨k2.k, k2.p, k2.b, k2.o, k2.e, fun x hx => ?_, fun x hx => ?_, k2.n, k2.m⟩
              · rw [k2.c x hx, mv_msk h r2 hf r4 ho x hx]
              · rw [k2.w x hx, mv_W h r2 hf r4 ho x]
          by_cases e5 : z.P c = rvl z c l + 1
          · rw [if_pos (by rw [e5, eI_s])]
            exact hboth 1 (Or.inr ⟨rfl, e5⟩)
          · have hpc := hs.p c
            rw [if_neg (fun q => e5 ((eI_nI (by omega) (by omega)).mp q))]
            exact hboth 0 (Or.inl ⟨rfl, e5⟩)
        · rw [if_neg e3]
          exact hself (fun q => e2 q.2) (fun q => e3 q.2)
    · rw [J_at_out _ e1 (by omega) (by omega), if_neg (by decide), J_at_out _ e1 (by omega) (by omega), if_pos rfl]
      exact hself (fun q => e1 q.1) (fun q => e1 q.1)
theorem z_makeRoom {z : Sz} {D : Nat → Nat} {t : MS} (h : WF z D) (hz : Mz z (mZ t)) {c l : Nat} (hcK : z.K c = 1) (hl : l < 9) (hch : ch z c l = 0) (e0 : z.O c ≠ 0) :
    Gd (fun o => (roomS z c l = none → o = (-1, t)) ∧ ∀ c' z2 off, roomS z c l = some (c', z2, off) → ∃ f, o = (nI c', sMZ t f) ∧ Mz z2 f) (fM_makeRoom (nI c) (nI l) t) := by
  have hs := h.sml
  have hc := h.lt (c := c) (by omega)
  have hm : msk z c 9 < 512 := msk_lt z c 9
  have hOc := (h.inn hcK).2.1
  have hb9 : ∀ m, m < 512 → fM_bits (nI m) = some (fJ_bitCount (nI m)) := bits_e
  have hself : ∀ hno : ¬ (z.O c + l < 160 ∧ z.K (z.O c + l) = 0), ¬ (z.O c + l < 160 ∧ fJ_bitCount (nI (msk z (rvl z c l) 9)) < fJ_bitCount (nI (msk z c 9)) + 1) →
      ∀ Y : Option (Int32 × MS), (lst z (msk z c 9 ||| 2 ^ l) = 0 → Y = some (-1, t)) → (lst z (msk z c 9 ||| 2 ^ l) ≠ 0 → Y = (fM_moveChildren (nI c) (nI (lst z (msk z c 9 ||| 2 ^ l))) t).bind fun q34 => some (nI c, q34)) →
      Gd (fun o => (roomS z c l = none → o = (-1, t)) ∧ ∀ c' z2 off, roomS z c l = some (c', z2, off) → ∃ f, o = (nI c', sMZ t f) ∧ Mz z2 f) Y := by
    intro hno hno2 Y y1 y2
    have ho := lst_lt z (msk z c 9 ||| 2 ^ l)
    by_cases e3 : lst z (msk z c 9 ||| 2 ^ l) = 0
    · have hr : roomS z c l = none := by rw [roomS, if_neg e0, if_neg hno, if_neg hno2, if_pos e3]
      rw [y1 e3]
      exact gd_some ⟨fun _ => rfl, fun c' z2 off q => by rw [hr] at q; cases q⟩
    · have hr : roomS z c l = some (c, mvT z c (lst z (msk z c 9 ||| 2 ^ l)), lst z (msk z c 9 ||| 2 ^ l)) := by rw [roomS, if_neg e0, if_neg hno, if_neg hno2, if_neg e3]
      rw [y2 e3]
      refine gd_bind (z_moveChildren h hz hcK (fit_msk e3) ho) ?_
      rintro t1 ⟨f, rfl, hf⟩
      refine gd_some ⟨fun q => (by rw [hr] at q; cases q), fun c' z2 off q => ?_⟩
      rw [hr] at q
      obtain ⟨q1, q⟩ := Prod.mk.inj (Option.some.inj q)
      obtain ⟨q2, q3⟩ := Prod.mk.inj q
      rw [← q1, ← q2]
      exact ⟨f, rfl, hf⟩
  have hol := lst_lt z (msk z c 9 ||| 2 ^ l)
  unfold fM_makeRoom
  rw [z_offset hz hc]
  simp only [Option.bind_some]
  rw [gw_let, nI_add, shl_e l hl, gw_let]
  try dsimp only
  by_cases e1 : z.O c + l < 160
  · rw [if_neg (show ¬ (160 : Int32) ≤ nI (z.O c + l) from nI_ge (b := 160) (by omega) (by omega)), z_isUsed hs hz e1]
    simp only [Option.bind_some]
    by_cases e2 : z.K (z.O c + l) = 0
    · have hr : roomS z c l = some (c, z, z.O c) := by rw [roomS, if_neg e0, if_pos ⟨e1, e2⟩]
      rw [if_pos e2, if_pos rfl]
      refine gd_some ⟨fun q => (by rw [hr] at q; cases q), fun c' z2 off q => ?_⟩
      rw [hr] at q
      obtain ⟨q1, q⟩ := Prod.mk.inj (Option.some.inj q)
      obtain ⟨q2, q3⟩ := Prod.mk.inj q
      rw [← q1, ← q2]
      exact ⟨mZ t, rfl, hz⟩
    · obtain ⟨r1, r2, r3, r4, r5⟩ := rvl_ok h (by omega) hch e2
      have hrv := h.lt (c := rvl z c l) (by omega)
      have hmr : msk z (rvl z c l) 9 < 512 := msk_lt z _ 9
      rw [if_neg e2, if_neg (by decide), z_lettersOf hs hz hc]
      simp only [Option.bind_some]
      rw [gw_let]
      try dsimp only
      rw [if_neg (show ¬ (160 : Int32) ≤ nI (z.O c + l) from nI_ge (b := 160) (by omega) (by omega)), i160, if_pos (inb_nI (by omega) (by omega))]
      simp only [nI_clamp' (show 160 + (z.O c + l) < 2147483648 by omega), hz.p _ e1, r1, eI_s]
      rw [gw_let]
      try dsimp only
      rw [gw_let]
      try dsimp only
      rw [if_neg (fun q => r3 (nI_inj (by omega) (by omega) q)), z_lettersOf hs hz hrv]
      simp only [Option.bind_some]
      rw [hb9 _ hmr, hb9 _ hm]
      simp only [Option.bind_some]
      by_cases e3 : fJ_bitCount (nI (msk z (rvl z c l) 9)) < fJ_bitCount (nI (msk z c 9)) + 1
      · rw [if_neg (lt_iff_not_le.mp e3), gw_let]
        try dsimp only
        rw [if_neg (by decide), gw_let]
        try dsimp only
        rw [if_neg (by decide)]
        try simp only [Option.bind_some]
        rw [z_leastOffset hs hz hmr]
        simp only [Option.bind_some]
        have ho := lst_lt z (msk z (rvl z c l) 9)
        by_cases e4 : lst z (msk z (rvl z c l) 9) = 0
        · have hr : roomS z c l = none := by rw [roomS, if_neg e0, if_neg (fun q => e2 q.2), if_pos ⟨e1, e3⟩, if_pos e4]
          rw [e4, nz_0, if_pos rfl]
          exact gd_some ⟨fun _ => rfl, fun c' z2 off q => by rw [hr] at q; cases q⟩
        · have hr : roomS z c l = some (if z.P c = rvl z c l + 1 then lst z (msk z (rvl z c l) 9) + (z.B c - 1) else c, mvT z (rvl z c l) (lst z (msk z (rvl z c l) 9)), z.O c) := by rw [roomS, if_neg e0, if_neg (fun q => e2 q.2), if_pos ⟨e1, e3⟩, if_neg e4]
          have hout : ∀ v : Int32, v = nI (if z.P c = rvl z c l + 1 then lst z (msk z (rvl z c l) 9) + (z.B c - 1) else c) → Gd (fun o => (roomS z c l = none → o = (-1, t)) ∧ ∀ c' z2 off, roomS z c l = some (c', z2, off) → ∃ f, o = (nI c', sMZ t f) ∧ Mz z2 f) ((fM_moveChildren (nI (rvl z c l)) (nI (lst z (msk z (rvl z c l) 9))) t).bind fun q34 => some (v, q34)) := by
            intro v hv
            refine gd_bind (z_moveChildren h hz r2 (fit_msk0 e4) ho) ?_
            rintro t1 ⟨f, rfl, hf⟩
            refine gd_some ⟨fun q => (by rw [hr] at q; cases q), fun c' z2 off q => ?_⟩
            rw [hr] at q
            obtain ⟨q1, q⟩ := Prod.mk.inj (Option.some.inj q)
            obtain ⟨q2, q3⟩ := Prod.mk.inj q
            rw [← q1, ← q2, hv]
            exact ⟨f, rfl, hf⟩
          rw [nz_1 e4, if_neg (nI_m1 (by omega)), gw_let]
          try dsimp only
          rw [gw_let]
          try dsimp only
          rw [if_neg (by decide)]
          by_cases e5 : c = 0
          · have e6 : ¬ z.P c = rvl z c l + 1 := by rw [e5, h.root.2.1]; omega
            rw [if_pos (show nI c = 0 by rw [e5]; rfl), gw_let]
            try dsimp only
            rw [if_pos rfl]
            exact hout _ (by rw [if_neg e6])
          · rw [if_neg (nI_ne0 (by omega) (by omega)), i160, if_pos (inb_nI (by omega) (by omega))]
            simp only [nI_clamp' (show 160 + c < 2147483648 by omega), hz.p _ hc]
            have hpc := hs.p c
            by_cases e6 : z.P c = rvl z c l + 1
            · obtain ⟨p, b, w1, w2, w3, w4, w5, w6, w7, w8⟩ := h.par e5 (by omega)
              rw [if_pos (by rw [e6, eI_s]), gw_let]
              try dsimp only
              rw [if_neg (by decide), i320, if_pos (inb_nI (by omega) (by omega))]
              simp only [nI_clamp' (show 320 + c < 2147483648 by omega), hz.b _ hc]
              exact hout _ (by rw [if_pos e6, w2, eI_s, nI_add, Nat.add_sub_cancel])
            · rw [if_neg (fun q => e6 ((eI_nI (by omega) (by omega)).mp q)), gw_let]
              try dsimp only
              rw [if_pos trivial]
              exact hout _ (by rw [if_neg e6])
      · rw [if_pos (Classical.byContradiction (fun q => e3 (lt_iff_not_le.mpr q)))]
        refine hself (fun q => e2 q.2) (fun q => e3 q.2) _ (fun e4 => ?_) (fun e4 => ?_)
        · rw [gw_let]
          try dsimp only
          first | rw [if_pos rfl] | rw [if_pos trivial]
          rw [gw_let]
          try dsimp only
          first | rw [if_pos rfl] | rw [if_pos trivial]
          rw [or_e _ hm l hl, z_leastOffset hs hz (or_lt hm hl)]
          simp only [Option.bind_some]
          rw [e4, nz_0, if_pos rfl]
        · rw [gw_let]
          try dsimp only
          first | rw [if_pos rfl] | rw [if_pos trivial]
          rw [gw_let]
          try dsimp only
          first | rw [if_pos rfl] | rw [if_pos trivial]
          rw [or_e _ hm l hl, z_leastOffset hs hz (or_lt hm hl)]
          simp only [Option.bind_some]
          rw [nz_1 e4, if_neg (nI_m1 (by omega)), gw_let]
          try dsimp only
          rw [gw_let]
          try dsimp only
          first | rw [if_pos rfl] | rw [if_pos trivial]
          rw [gw_let]
          try dsimp only
          first | rw [if_pos rfl] | rw [if_pos trivial]
  · rw [if_pos (show (160 : Int32) ≤ nI (z.O c + l) from nI_le (a := 160) (by omega) (by omega)), z_lettersOf hs hz hc]
    simp only [Option.bind_some]
    rw [gw_let]
    try dsimp only
    rw [if_pos (show (160 : Int32) ≤ nI (z.O c + l) from nI_le (a := 160) (by omega) (by omega)), gw_let]
    try dsimp only
    rw [gw_let]
    try dsimp only
    first | rw [if_pos rfl] | rw [if_pos trivial]
    refine hself (fun q => e1 q.1) (fun q => e1 q.1) _ (fun e4 => ?_) (fun e4 => ?_)
    · rw [gw_let]
      try dsimp only
      first | rw [if_pos rfl] | rw [if_pos trivial]
      rw [gw_let]
      try dsimp only
      first | rw [if_pos rfl] | rw [if_pos trivial]
      rw [or_e _ hm l hl, z_leastOffset hs hz (or_lt hm hl)]
      simp only [Option.bind_some]
      rw [e4, nz_0, if_pos rfl]
    · rw [gw_let]
      try dsimp only
      first | rw [if_pos rfl] | rw [if_pos trivial]
      rw [gw_let]
      try dsimp only
      first | rw [if_pos rfl] | rw [if_pos trivial]
      rw [or_e _ hm l hl, z_leastOffset hs hz (or_lt hm hl)]
      simp only [Option.bind_some]
      rw [nz_1 e4, if_neg (nI_m1 (by omega)), gw_let]
      try dsimp only
      rw [gw_let]
      try dsimp only
      first | rw [if_pos rfl] | rw [if_pos trivial]
      rw [gw_let]
      try dsimp only
      first | rw [if_pos rfl] | rw [if_pos trivial]
