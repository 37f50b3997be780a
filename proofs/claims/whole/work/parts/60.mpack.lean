/-! the model packs -/
theorem z_clearTable {z : Sz} {t : MS} (hz : Mz z (mZ t)) : Gd (fun t' => ∃ f, t' = sMZ t f ∧ Mz (clrS z.M) f) (fM_clearTable t) := by
  unfold fM_clearTable
  refine gd_bind (P := fun t' => ∃ f, t' = sMZ t f ∧ (∀ c, c < 160 → f c = 0 ∧ f (160 + c) = -1 ∧ f (320 + c) = -1 ∧ f (480 + c) = 0 ∧ f (640 + c) = -1) ∧ f 1360 = mZ t 1360) ?_ ?_
  · refine gd_lp (fun k y => ∃ f, y = (nI k, sMZ t f) ∧ (∀ c, c < k → f c = 0 ∧ f (160 + c) = -1 ∧ f (320 + c) = -1 ∧ f (480 + c) = 0 ∧ f (640 + c) = -1) ∧ f 1360 = mZ t 1360) 160 ⟨mZ t, rfl, fun c hc => absurd hc (Nat.not_lt_zero c), rfl⟩ ?_ (by omega)
    rintro k y hk ⟨f, rfl, h1, h2⟩
    try dsimp only
    by_cases e : k = 160
    · subst e
      rw [if_pos (show (160 : Int32) ≤ nI 160 by decide)]
      exact gd_inl ⟨f, rfl, h1, h2⟩
    · rw [if_neg (show ¬ (160 : Int32) ≤ nI k from nI_ge (b := 160) (by omega) (by omega))]
      have hfree : fM_free (nI k) (sMZ t f) = some (sMZ t (upd (upd (upd (upd (upd f k 0) (160 + k) (-1)) (320 + k) (-1)) (480 + k) 0) (640 + k) (-1))) := by
        unfold fM_free
        rw [i0, i160, i320, i480, i640]
        rw [if_pos (inb_nI (by omega) (by omega)), gw_let, if_pos (inb_nI (by omega) (by omega)), gw_let, if_pos (inb_nI (by omega) (by omega)), gw_let, if_pos (inb_nI (by omega) (by omega)), gw_let, if_pos (inb_nI (by omega) (by omega)), gw_let, upd_nI _ (by omega), upd_nI _ (by omega), upd_nI _ (by omega), upd_nI _ (by omega), upd_nI _ (by omega)]
      rw [hfree]
      simp only [Option.bind_some]
      rw [nI_1]
      refine gd_inr (by omega) ⟨_, rfl, fun c hc => ?_, ?_⟩
      · by_cases ec : c = k
        · subst ec
          refine ⟨?_, ?_, ?_, ?_, ?_⟩
          · rw [upd_ne _ _ (by omega), upd_ne _ _ (by omega), upd_ne _ _ (by omega), upd_ne _ _ (by omega), upd_eq]
          · rw [upd_ne _ _ (by omega), upd_ne _ _ (by omega), upd_ne _ _ (by omega), upd_eq]
          · rw [upd_ne _ _ (by omega), upd_ne _ _ (by omega), upd_eq]
          · rw [upd_ne _ _ (by omega), upd_eq]
          · rw [upd_eq]
        · obtain ⟨a1, a2, a3, a4, a5⟩ := h1 c (by omega)
          have hne : ∀ j, j ≠ k → j ≠ 160 + k → j ≠ 320 + k → j ≠ 480 + k → j ≠ 640 + k → upd (upd (upd (upd (upd f k 0) (160 + k) (-1)) (320 + k) (-1)) (480 + k) 0) (640 + k) (-1) j = f j := by
            intro j j1 j2 j3 j4 j5
            rw [upd_ne _ _ j5, upd_ne _ _ j4, upd_ne _ _ j3, upd_ne _ _ j2, upd_ne _ _ j1]
          rw [hne c (by omega) (by omega) (by omega) (by omega) (by omega), hne (160 + c) (by omega) (by omega) (by omega) (by omega) (by omega), hne (320 + c) (by omega) (by omega) (by omega) (by omega) (by omega), hne (480 + c) (by omega) (by omega) (by omega) (by omega) (by omega), hne (640 + c) (by omega) (by omega) (by omega) (by omega) (by omega)]
          exact ⟨a1, a2, a3, a4, a5⟩
      · rw [upd_ne _ _ (by omega), upd_ne _ _ (by omega), upd_ne _ _ (by omega), upd_ne _ _ (by omega), upd_ne _ _ (by omega)]
        exact h2
  · rintro t1 ⟨f, rfl, h1, h2⟩
    rw [if_pos (show inb (0 : Int32) 1361 from inb_nI (n := 0) (by omega) (by omega)), gw_let]
    have h00 : (0 : Int32).toNatClampNeg = 0 := nI_clamp' (n := 0) (by omega)
    rw [h00]
    refine gd_bind (P := fun t' => ∃ g, t' = sMZ t g ∧ (∀ j, j < 800 ∨ j = 1360 → g j = upd f 0 1 j) ∧ ∀ j, 800 ≤ j → j < 1360 → g j = 0) ?_ ?_
    · refine gd_lp (fun k y => ∃ g, y = (nI (800 + k), sMZ t g) ∧ (∀ j, j < 800 ∨ j = 1360 → g j = upd f 0 1 j) ∧ ∀ j, 800 ≤ j → j < 800 + k → g j = 0) 560 ⟨upd f 0 1, rfl, fun j _ => rfl, fun j j1 j2 => absurd j2 (by omega)⟩ ?_ (by omega)
      rintro k y hk ⟨g, rfl, h3, h4⟩
      try dsimp only
      by_cases e : k = 560
      · subst e
        rw [if_pos (show (1360 : Int32) ≤ nI (800 + 560) by decide)]
        exact gd_inl ⟨g, rfl, h3, h4⟩
      · rw [if_neg (show ¬ (1360 : Int32) ≤ nI (800 + k) from nI_ge (b := 1360) (by omega) (by omega)), if_pos (inb_nI (by omega) (by omega)), gw_let, upd_nI _ (by omega), nI_1]
        refine gd_inr (by omega) ⟨upd g (800 + k) 0, rfl, fun j hj => ?_, fun j j1 j2 => ?_⟩
        · rw [upd_ne _ _ (by omega)]; exact h3 j hj
        · by_cases ej : j = 800 + k
          · rw [ej, upd_eq]
          · rw [upd_ne _ _ ej]; exact h4 j j1 (by omega)
    · rintro t2 ⟨g, rfl, h3, h4⟩
      refine gd_some ⟨g, rfl, fun c hc => ?_, fun c hc => ?_, fun c hc => ?_, fun c hc => ?_, fun c hc => ?_, fun p hp => ?_, fun p hp => ?_, fun p i hp hi => ?_, ?_⟩
      · rw [h3 c (Or.inl (by omega))]
        show _ = nI (if c = 0 then 1 else 0)
        by_cases e : c = 0
        · rw [if_pos e, e, upd_eq]; rfl
        · rw [if_neg e, upd_ne _ _ e, (h1 c hc).1]; rfl
      · rw [h3 _ (Or.inl (by omega)), upd_ne _ _ (by omega), (h1 c hc).2.1]; rfl
      · rw [h3 _ (Or.inl (by omega)), upd_ne _ _ (by omega), (h1 c hc).2.2.1]; rfl
      · rw [h3 _ (Or.inl (by omega)), upd_ne _ _ (by omega), (h1 c hc).2.2.2.1]; rfl
      · rw [h3 _ (Or.inl (by omega)), upd_ne _ _ (by omega), (h1 c hc).2.2.2.2]; rfl
      · rw [h4 _ (by omega) (by omega)]; rfl
      · rw [h4 _ (by omega) (by omega)]; rfl
      · rw [h4 _ (by omega) (by omega)]
        show (0 : Int32) = nI (hd0 (([] : List Nat).drop i))
        rw [List.drop_nil]; rfl
      · rw [h3 _ (Or.inr rfl), upd_ne _ _ (by omega), h2, hz.m]; rfl
/-- what packing leaves as it was -/
def Pz (t t' : MS) : Prop := mT t' = mT t ∧ mSv t' = mSv t ∧ mSm t' = mSm t ∧ mSp t' = mSp t ∧ mBu t' = mBu t ∧ mTy t' = mTy t ∧ mH t' = mH t
theorem Pz.refl (t : MS) : Pz t t := ⟨rfl, rfl, rfl, rfl, rfl, rfl, rfl⟩
theorem Pz.trans {t t' t'' : MS} (h : Pz t t') (h' : Pz t' t'') : Pz t t'' :=
  ⟨h'.1.trans h.1, h'.2.1.trans h.2.1, h'.2.2.1.trans h.2.2.1, h'.2.2.2.1.trans h.2.2.2.1, h'.2.2.2.2.1.trans h.2.2.2.2.1, h'.2.2.2.2.2.1.trans h.2.2.2.2.2.1, h'.2.2.2.2.2.2.trans h.2.2.2.2.2.2⟩
theorem Lz.pz {t t' : MS} (h : Lz t t') : Pz t t' := by
  obtain ⟨f, g, a, b, rfl⟩ := h
  exact Pz.refl t
theorem Az.pz {t t' : MS} (h : Az t t') : Pz t t' := by
  obtain ⟨f, g, n, rfl⟩ := h
  exact Pz.refl t
theorem Lz.ws {t t' : MS} (h : Lz t t') : mWs t' = mWs t := by obtain ⟨f, g, a, b, rfl⟩ := h; rfl
theorem Az.ws {t t' : MS} (h : Az t t') : mWs t' = mWs t := by obtain ⟨f, g, n, rfl⟩ := h; rfl
theorem i13 (k : Nat) : (13 : Int32) * nI k = nI (13 * k) := by rw [show (13 : Int32) = nI 13 by rfl, nI_mul]
/-- a word in the row of all words -/
def Wd (ws : Nat → Int32) (j : Nat) (u : List Nat) : Prop := ws (13 * j) = nI u.length ∧ ∀ i, i < u.length → ws (13 * j + 1 + i) = nI (hd0 (u.drop i))
theorem Ly.setWs {z : Sz} {D : Nat → Nat} {t t' : MS} {ws ws' : Nat → Int32} (h : Ly z D (sMWs t ws) t') : Ly z D (sMWs t ws') (sMWs t' ws') := by
  obtain ⟨⟨f, g, a, b, rfl⟩, h2⟩ := h
  exact ⟨⟨f, g, a, b, rfl⟩, h2⟩
theorem z_packIt {z : Sz} {D : Nat → Nat} {t : MS} (h : WF z D) (hz : Mz z (mZ t)) :
    Gd (fun o => Pz t o.2 ∧ (pkF (Tz z D 0) (clrS z.M) = none → o.1 = 0) ∧ ∀ zf, pkF (Tz z D 0) (clrS z.M) = some zf → o.1 = 1 ∧ Mz zf (mZ o.2)) (fM_packIt t) := by
  have hlen := T0_len h
  unfold fM_packIt
  refine gd_bind (z_lay h hz) (fun t1 hL => ?_)
  rw [if_pos inb0, gw_let, hL.b0 h]
  refine gd_bind (P := fun t2 => ∃ ws, Ly z D (sMWs t ws) t2 ∧ ∀ j p, j < (Tz z D 0).length → (Tz z D 0)[j]? = some p → Wd ws j p.2) ?_ ?_
  · refine gd_lp (fun k y => ∃ ws t2, y = (nI k, t2) ∧ Ly z D (sMWs t ws) t2 ∧ ∀ j p, j < k → (Tz z D 0)[j]? = some p → Wd ws j p.2) (Tz z D 0).length ⟨mWs t, t1, rfl, hL, fun j p hj => absurd hj (Nat.not_lt_zero j)⟩ ?_ (by omega)
    rintro k y hk ⟨ws, t2, rfl, gL, g1⟩
    try dsimp only
    by_cases e : k = (Tz z D 0).length
    · rw [if_pos (nI_le (by omega) (by omega))]
      exact gd_inl ⟨ws, gL, fun j p hj hp => g1 j p (by omega) hp⟩
    · rw [if_neg (nI_ge (by omega) (by omega))]
      obtain ⟨p, hp⟩ := T_get (z := z) (D := D) (k := k) (by omega)
      have hpo := T0_ok h (y := p.1) (u := p.2) (List.mem_of_getElem? hp)
      have hl12 := hpo.1.1
      refine gd_bind (z_word h (t := sMWs t ws) hz gL hp) (fun t3 hw => ?_)
      have hws : mWs t3 = ws := hw.1.1.ws
      rw [i13, if_pos (inb_nI (by omega) (by omega)), gw_let, upd_nI _ (by omega), hw.2.2.1, hws]
      refine gd_bind (P := fun t4 => ∃ ws', t4 = sMWs t3 ws' ∧ (∀ j, j < 13 * k → ws' j = ws j) ∧ Wd ws' k p.2) ?_ ?_
      · refine gd_lp (fun i y => i ≤ p.2.length ∧ ∃ ws', y = (nI i, sMWs t3 ws') ∧ (∀ j, j < 13 * k → ws' j = ws j) ∧ ws' (13 * k) = nI p.2.length ∧ ∀ i', i' < i → ws' (13 * k + 1 + i') = nI (hd0 (p.2.drop i'))) p.2.length ⟨by omega, _, rfl, fun j hj => upd_ne _ _ (by omega), upd_eq _ _ _, fun i' hi => absurd hi (Nat.not_lt_zero i')⟩ ?_ (by omega)
        rintro i y hi ⟨-, ws', rfl, g2, g3, g4⟩
        try dsimp only
        have hwl : mWl (sMWs t3 ws') = nI p.2.length := hw.2.2.1
        rw [hwl]
        by_cases ei : i = p.2.length
        · rw [if_pos (nI_le (by omega) (by omega))]
          exact gd_inl ⟨ws', rfl, g2, g3, fun i' hi' => g4 i' (by omega)⟩
        · have hwd : mWd (sMWs t3 ws') (nI i).toNatClampNeg = nI (hd0 (p.2.drop i)) := rw_at hw.2.1 (by omega) (by omega)
          rw [if_neg (nI_ge (by omega) (by omega)), if_pos (inb_nI (by omega) (by omega)), nI_1, nI_add, if_pos (inb_nI (by omega) (by omega)), gw_let, upd_nI _ (by omega), hwd, nI_1]
          refine gd_inr (by omega) ⟨by omega, upd ws' (13 * k + 1 + i) (nI (hd0 (p.2.drop i))), rfl, fun j hj => ?_, ?_, fun i' hi' => ?_⟩
          · rw [upd_ne _ _ (by omega)]; exact g2 j hj
          · rw [upd_ne _ _ (by omega)]; exact g3
          · by_cases ee : i' = i
            · rw [ee, upd_eq]
            · rw [upd_ne _ _ (by omega)]; exact g4 i' (by omega)
      · rintro t4 ⟨ws', rfl, g2, g3⟩
        rw [nI_1]
        refine gd_inr (by omega) ⟨ws', _, rfl, hw.1.setWs, fun j q hj hq => ?_⟩
        by_cases ej : j = k
        · subst ej
          rw [hp] at hq
          have := Option.some.inj hq
          subst this
          exact g3
        · have hq12 := (T0_ok h (y := q.1) (u := q.2) (List.mem_of_getElem? hq)).1.1
          obtain ⟨a1, a2⟩ := g1 j q (by omega) hq
          exact ⟨by rw [g2 _ (by omega)]; exact a1, fun i hi => by rw [g2 _ (by omega)]; exact a2 i hi⟩
  · rintro t2 ⟨ws, gL, gw⟩
    have hz2 : Mz z (mZ t2) := by rw [gL.1.z]; exact hz
    have hws2 : mWs t2 = ws := gL.1.ws
    have hpz2 : Pz t t2 := gL.1.pz
    refine gd_bind (z_clearTable hz2) ?_
    rintro t3 ⟨f, rfl, hf⟩
    refine gd_bind (P := fun o : Int32 × MS => Pz t o.2 ∧ (pkF (Tz z D 0) (clrS z.M) = none → o.1 = 0) ∧ (∀ zf, pkF (Tz z D 0) (clrS z.M) = some zf → o.1 = 1 ∧ Mz zf (mZ o.2)) ∧ (o.1 = 0 ∨ o.1 = 1)) ?_ ?_
    · refine gd_lp (fun k y => ∃ g t', y = (g, nI k, t') ∧ Pz t t' ∧ mWs t' = ws ∧ ((g = 0 ∧ pkF (Tz z D 0) (clrS z.M) = none) ∨ (g = 1 ∧ ∃ zk Dk, WF zk Dk ∧ Mz zk (mZ t') ∧ pkF ((Tz z D 0).drop k) zk = pkF (Tz z D 0) (clrS z.M) ∧ ∀ y v, Hw zk Dk y v → ∃ j q, j < k ∧ (Tz z D 0)[j]? = some q ∧ v = q.2))) (Tz z D 0).length ⟨1, _, rfl, hpz2, hws2, Or.inr ⟨rfl, clrS z.M, fun _ => 0, clr_wf _, hf, rfl, fun y v hv => (clr_Hw hv).elim⟩⟩ ?_ (by omega)
      rintro k y hk ⟨g, t', rfl, g1, g2, g3⟩
      try dsimp only
      by_cases e : k = (Tz z D 0).length
      · rw [if_pos (nI_le (by omega) (by omega))]
        refine gd_inl ?_
        rcases g3 with ⟨rfl, g4⟩ | ⟨rfl, zk, Dk, g4, g5, g6, g7⟩
        · exact ⟨g1, fun _ => rfl, fun zf q => (by rw [g4] at q; cases q), Or.inl rfl⟩
        · rw [e, List.drop_length] at g6
          have g6' : some zk = pkF (Tz z D 0) (clrS z.M) := g6
          refine ⟨g1, fun q => (by rw [← g6'] at q; cases q), fun zf q => ?_, Or.inr rfl⟩
          rw [← g6'] at q
          have := Option.some.inj q
          subst this
          exact ⟨rfl, g5⟩
      · rw [if_neg (nI_ge (by omega) (by omega))]
        rcases g3 with ⟨rfl, g4⟩ | ⟨rfl, zk, Dk, g4, g5, g6, g7⟩
        · rw [if_pos rfl]
          exact gd_inl ⟨g1, fun _ => rfl, fun zf q => (by rw [g4] at q; cases q), Or.inl rfl⟩
        · rw [if_neg (by decide)]
          obtain ⟨p, hp⟩ := T_get (z := z) (D := D) (k := k) (by omega)
          have hpo := T0_ok h (y := p.1) (u := p.2) (List.mem_of_getElem? hp)
          have hl12 := hpo.1.1
          have hno := pk_no h g4 hp g7
          obtain ⟨w1, w2⟩ := gw k p (by omega) hp
          refine gd_bind (P := fun t4 => ∃ ro, t4 = sMRo t' ro ∧ Rw ro p.2) ?_ ?_
          · refine gd_lp (fun i y => i ≤ p.2.length ∧ ∃ ro, y = (nI i, sMRo t' ro) ∧ ∀ i', i' < i → ro i' = nI (hd0 (p.2.drop i'))) p.2.length ⟨by omega, mRo t', rfl, fun i' hi => absurd hi (Nat.not_lt_zero i')⟩ ?_ (by omega)
            rintro i y hi ⟨-, ro, rfl, g8⟩
            try dsimp only
            have hwl : mWs (sMRo t' ro) (nI (13 * k)).toNatClampNeg = nI p.2.length := by
              rw [nI_clamp' (by omega)]
              show mWs t' (13 * k) = _
              rw [g2]; exact w1
            rw [i13, if_pos (inb_nI (by omega) (by omega)), hwl]
            by_cases ei : i = p.2.length
            · rw [if_pos (nI_le (by omega) (by omega))]
              exact gd_inl ⟨ro, rfl, fun i' hi' => g8 i' (by omega)⟩
            · have hwd : mWs (sMRo t' ro) (nI (13 * k + 1 + i)).toNatClampNeg = nI (hd0 (p.2.drop i)) := by
                rw [nI_clamp' (by omega)]
                show mWs t' (13 * k + 1 + i) = _
                rw [g2]; exact w2 i (by omega)
              rw [if_neg (nI_ge (by omega) (by omega)), nI_1, nI_add, if_pos (inb_nI (by omega) (by omega)), if_pos (inb_nI (by omega) (by omega)), gw_let, upd_nI _ (by omega), hwd, nI_1]
              refine gd_inr (by omega) ⟨by omega, upd ro i (nI (hd0 (p.2.drop i))), rfl, fun i' hi' => ?_⟩
              by_cases ee : i' = i
              · rw [ee, upd_eq]
              · rw [upd_ne _ _ ee]; exact g8 i' (by omega)
          · rintro t4 ⟨ro, rfl, hro⟩
            have hwl : mWs (sMRo t' ro) (nI (13 * k)).toNatClampNeg = nI p.2.length := by
              rw [nI_clamp' (by omega)]
              show mWs t' (13 * k) = _
              rw [g2]; exact w1
            rw [i13, if_pos (inb_nI (by omega) (by omega)), hwl]
            refine gd_bind (z_addWord g4 (t := sMRo t' ro) g5 (ra := mRo) (fun _ _ _ _ => rfl) hpo.1 hro hpo.2) ?_
            rintro q ⟨q1, -, q3⟩
            obtain ⟨r1, r2⟩ := q3 hno
            have hpz : Pz t q.2 := (g1.trans ⟨rfl, rfl, rfl, rfl, rfl, rfl, rfl⟩ : Pz t (sMRo t' ro)).trans q1.pz
            have hwsq : mWs q.2 = ws := q1.ws.trans g2
            rw [gw_let]
            try dsimp only
            rw [drop_get hp, pkF] at g6
            cases hS : insS zk p.2 with
            | none =>
              rw [hS] at g6
              rw [if_neg (show ¬ q.1 = 0 by rw [r1 hS]; decide), nI_1]
              exact gd_inr (by omega) ⟨0, q.2, rfl, hpz, hwsq, Or.inl ⟨rfl, g6.symm⟩⟩
            | some v =>
              obtain ⟨x, zf⟩ := v
              rw [hS] at g6
              obtain ⟨Df, f1, f2, f3⟩ := ins_ok g4 hpo.1 hpo.2 hno hS
              obtain ⟨s1, s2, s3⟩ := r2 x zf hS
              rw [if_pos (show q.1 = 0 from s1), nI_1]
              refine gd_inr (by omega) ⟨1, q.2, rfl, hpz, hwsq, Or.inr ⟨rfl, zf, Df, f1, s2, g6, fun y v hv => ?_⟩⟩
              rcases f3 y v hv with e1 | ⟨y', e1⟩
              · exact ⟨k, p, by omega, hp, e1⟩
              · obtain ⟨j, q', hj, hq', e2⟩ := g7 y' v e1
                exact ⟨j, q', by omega, hq', e2⟩
    · rintro o ⟨o1, o2, o3, o4⟩
      rw [if_pos o4]
      exact gd_some ⟨o1, o2, o3⟩
