/-! the model's ends change -/
theorem z_placeFor {z : Sz} {t : MS} (hs : Sm z) (he : WFe z.U z.X) (h : Mz z (mZ t)) {ra : MS → Nat → Int32} {w : List Nat} (hw : okw w) (hr : Rw (ra t) w) {a : Nat} (ha : a ≤ w.length) :
    fM_placeFor ra (nI a) (nI w.length) t = some (eI (plc z.U z.X (w.drop a))) := by
  have hf40 := fpl_le z.U 40
  unfold fM_placeFor
  have h1 : ∀ L : Option Int32, L = some (eI (fpl z.U 40)) → ∀ F : Int32 → Option Int32, L.bind F = F (eI (fpl z.U 40)) := by
    intro L hL F; rw [hL]; rfl
  rw [h1 _ ?_]
  · have hmid : ∀ k, k ≤ 40 → (if mtp z.U z.X (w.drop a) k ≠ 0 then mtp z.U z.X (w.drop a) k else fpl z.U 40) ≤ 40 := by
      intro k hk
      have := mtp_le z.U z.X (w.drop a) k
      split <;> omega
    rw [lp_eq (S := fun k => (eI (if mtp z.U z.X (w.drop a) k ≠ 0 then mtp z.U z.X (w.drop a) k else fpl z.U 40), nI k)) (N := 40) (o := eI (plc z.U z.X (w.drop a)))]
    · rfl
    · rw [show mtp z.U z.X (w.drop a) 0 = 0 by rfl, if_neg (fun a => a rfl)]; rfl
    · intro k hk
      try dsimp only
      rw [if_neg (show ¬ (40 : Int32) ≤ nI k from nI_ge (b := 40) (by omega) (by omega)), z_isEnd hs h hw hr hk ha]
      simp only [Option.bind_some, gw_let]
      have hms : mtp z.U z.X (w.drop a) (k + 1) = if z.U k ≠ 0 ∧ z.X k = w.drop a then k + 1 else mtp z.U z.X (w.drop a) k := rfl
      rw [hms, nI_1]
      by_cases e : z.U k ≠ 0 ∧ z.X k = w.drop a
      · rw [if_pos e, if_pos e, if_neg (by decide), if_pos (by omega), eI_s]
      · rw [if_neg e, if_neg e, if_pos rfl]
    · dsimp only
      rw [if_pos (show (40 : Int32) ≤ nI 40 by decide)]
      rfl
    · omega
  · refine lp_walk (fun k y => ∃ v, y = (eI v, eI (40 - k)) ∧ v ≤ 40 ∧ ((v = 0 ∧ ∀ p, 40 - k ≤ p → p < 40 → z.U p ≠ 0) ∨ (∃ p, v = p + 1 ∧ 40 - k ≤ p ∧ z.U p = 0 ∧ ∀ q, 40 - k ≤ q → q < p → z.U q ≠ 0))) 40 _ ⟨0, rfl, by omega, Or.inl ⟨rfl, fun p h1 h2 => by omega⟩⟩ ?_ (by omega)
    rintro k y hk ⟨v, rfl, hv40, hv⟩
    try dsimp only
    by_cases e : k = 40
    · left
      subst e
      have hvf : v = fpl z.U 40 := by
        rcases hv with ⟨hv0, h2⟩ | ⟨p, hv0, -, h3, h4⟩
        · by_cases e2 : fpl z.U 40 = 0
          · rw [hv0, e2]
          · have := fpl_ok e2
            exact absurd this.1 (h2 _ (by omega) (by omega))
        · by_cases e2 : fpl z.U 40 = 0
          · exact absurd h3 (fpl_no e2 p (by omega))
          · have := fpl_ok e2
            rcases Nat.lt_trichotomy p (fpl z.U 40 - 1) with e3 | e3 | e3
            · exact absurd h3 (this.2 p e3)
            · omega
            · exact absurd this.1 (h4 _ (by omega) e3)
      rw [if_pos ((eI_lt0 (by omega)).mpr (by omega)), hvf]
    · right
      obtain ⟨n, hn⟩ : ∃ n, 40 - k = n + 1 := ⟨39 - k, by omega⟩
      have hb := hs.u n
      rw [hn, if_neg (fun b => by have := (eI_lt0 (by omega)).mp b; omega), eI_s, z_users h (by omega)]
      simp only [Option.bind_some, gw_let]
      have hd : nI n + (-1 : Int32) = eI (40 - (k + 1)) := by
        rw [show 40 - (k + 1) = n by omega, eI, Int32.sub_eq_add_neg]
      rw [hd]
      refine ⟨by omega, ?_⟩
      by_cases e2 : z.U n = 0
      · rw [if_pos (by rw [e2]; rfl)]
        refine ⟨_, rfl, n + 1, by rw [eI_s], by omega, Or.inr ⟨n, rfl, by omega, e2, fun q h1 h2 => by omega⟩⟩
      · rw [if_neg (nI_ne0 (by omega) (by omega))]
        refine ⟨_, rfl, v, rfl, hv40, ?_⟩
        rcases hv with ⟨h2, h3⟩ | ⟨p, h2, h3, h4, h5⟩
        · refine Or.inl ⟨h2, fun p q1 q2 => ?_⟩
          by_cases e3 : p = n
          · rw [e3]; exact e2
          · exact h3 p (by omega) q2
        · refine Or.inr ⟨p, h2, by omega, h4, fun q q1 q2 => ?_⟩
          by_cases e3 : q = n
          · rw [e3]; exact e2
          · exact h5 q (by omega) q2
/-- rows that are read apart from the table -/
def Ap (ra : MS → Nat → Int32) : Prop := ∀ t f, ra (sMZ t f) = ra t
theorem z_giveEnd {z : Sz} {t : MS} (hs : Sm z) (he : WFe z.U z.X) (h : Mz z (mZ t)) {ra : MS → Nat → Int32} (hA : Ap ra) {w : List Nat} (hw : okw w) (hr : Rw (ra t) w) {a : Nat} (ha : a ≤ w.length) {c : Nat} (hc : c < 160) :
    Gd (fun o => (plc z.U z.X (w.drop a) = 0 → o = (0, t)) ∧ ∀ p, plc z.U z.X (w.drop a) = p + 1 → ∃ f, o = (1, sMZ t f) ∧ Mz (sE (sX z (gU z.U p) (gX z.X p (w.drop a))) (fu z.E c (p + 1))) f) (fM_giveEnd ra (nI c) (nI a) (nI w.length) t) := by
  have h40 := plc_le z.U z.X (w.drop a)
  have hw12 := hw.1
  unfold fM_giveEnd
  rw [z_placeFor hs he h hw hr ha]
  simp only [Option.bind_some, gw_let]
  by_cases e : plc z.U z.X (w.drop a) = 0
  · rw [e, if_pos (by decide)]
    exact gd_some ⟨fun _ => rfl, fun p hp => by omega⟩
  · obtain ⟨p, hp⟩ : ∃ p, plc z.U z.X (w.drop a) = p + 1 := ⟨plc z.U z.X (w.drop a) - 1, by omega⟩
    rw [hp, eI_s, if_neg (nI_m1 (by omega)), i14, if_pos (inb_nI (by omega) (by omega)), if_pos (inb_nI (by omega) (by omega)), nI_1, if_pos (inb_nI (by omega) (by omega)), upd_nI _ (by omega), upd_nI _ (by omega), nI_clamp' (by omega), h.u p (by omega), nI_1, nI_sub ha]
    refine gd_bind (P := fun t' => ∃ f, t' = sMZ t f ∧ (∀ j, j < 800 + 14 * p ∨ 814 + 14 * p ≤ j → f j = mZ t j) ∧ f (800 + 14 * p) = nI (z.U p + 1) ∧ f (800 + 14 * p + 1) = nI (w.length - a) ∧ ∀ i, i < 12 → f (800 + 14 * p + 2 + i) = nI (hd0 ((w.drop a).drop i))) ?_ ?_
    · refine gd_lp (fun k y => ∃ f, y = (nI k, sMZ t f) ∧ (∀ j, j < 800 + 14 * p ∨ 814 + 14 * p ≤ j → f j = mZ t j) ∧ f (800 + 14 * p) = nI (z.U p + 1) ∧ f (800 + 14 * p + 1) = nI (w.length - a) ∧ ∀ i, i < k → f (800 + 14 * p + 2 + i) = nI (hd0 ((w.drop a).drop i))) 12 ⟨_, rfl, ?_, ?_, ?_, fun i hi => by omega⟩ ?_ (by omega)
      · intro j hj
        rw [upd_ne _ _ (by omega)]
        show upd (mZ t) _ _ j = _
        rw [upd_ne _ _ (by omega)]
      · rw [upd_ne _ _ (by omega)]
        show upd (mZ t) _ _ _ = _
        rw [upd_eq]
      · rw [upd_eq]
      · rintro k y hk ⟨f, rfl, g1, g2, g3, g4⟩
        try dsimp only
        by_cases e1 : k = 12
        · subst e1
          rw [if_pos (show (12 : Int32) ≤ nI 12 by decide)]
          exact gd_inl ⟨f, rfl, g1, g2, g3, g4⟩
        · rw [if_neg (show ¬ (12 : Int32) ≤ nI k from nI_ge (b := 12) (by omega) (by omega)), show (2 : Int32) = nI 2 by rfl, nI_add, nI_add, nI_add, hA]
          have key : Gd (Sx (fun k y => ∃ f, y = (nI k, sMZ t f) ∧ (∀ j, j < 800 + 14 * p ∨ 814 + 14 * p ≤ j → f j = mZ t j) ∧ f (800 + 14 * p) = nI (z.U p + 1) ∧ f (800 + 14 * p + 1) = nI (w.length - a) ∧ ∀ i, i < k → f (800 + 14 * p + 2 + i) = nI (hd0 ((w.drop a).drop i))) (fun t' => ∃ f, t' = sMZ t f ∧ (∀ j, j < 800 + 14 * p ∨ 814 + 14 * p ≤ j → f j = mZ t j) ∧ f (800 + 14 * p) = nI (z.U p + 1) ∧ f (800 + 14 * p + 1) = nI (w.length - a) ∧ ∀ i, i < 12 → f (800 + 14 * p + 2 + i) = nI (hd0 ((w.drop a).drop i))) 12 k) (if inb (nI (800 + 14 * p + 2 + k)) 1361 then some (Sum.inr (nI k + 1, sMZ (sMZ t f) (upd (mZ (sMZ t f)) (nI (800 + 14 * p + 2 + k)).toNatClampNeg (nI (hd0 ((w.drop a).drop k)))))) else none) := by
            rw [if_pos (inb_nI (by omega) (by omega)), upd_nI _ (by omega), nI_1]
            refine gd_inr (by omega) ⟨upd f (800 + 14 * p + 2 + k) (nI (hd0 ((w.drop a).drop k))), rfl, ?_, ?_, ?_, ?_⟩
            · intro j hj; rw [upd_ne _ _ (by omega)]; exact g1 j hj
            · rw [upd_ne _ _ (by omega)]; exact g2
            · rw [upd_ne _ _ (by omega)]; exact g3
            · intro i hi
              by_cases e3 : i = k
              · rw [e3, upd_eq]
              · rw [upd_ne _ _ (by omega)]; exact g4 i (by omega)
          by_cases e2 : w.length ≤ a + k
          · rw [if_pos (nI_le e2 (by omega))]
            have : hd0 ((w.drop a).drop k) = 0 := by rw [List.drop_drop, List.drop_eq_nil_of_le e2]; rfl
            rw [this] at key
            exact key
          · rw [if_neg (nI_ge (by omega) (by omega)), if_pos (inb_nI (by omega) (by omega)), rw_at hr (by omega) (by omega), ← List.drop_drop]
            exact key
    · rintro t1 ⟨f, rfl, g1, g2, g3, g4⟩
      rw [show (640 : Int32) = nI 640 by rfl, nI_add, if_pos (inb_nI (by omega) (by omega)), upd_nI _ (by omega)]
      refine gd_some ⟨fun a => by omega, fun p' hp' => ?_⟩
      have : p' = p := by omega
      subst this
      refine ⟨_, rfl, ?_⟩
      have m1 := Mz_X h (q := p') (r' := f) (by omega) (z.U p' + 1) (w.drop a) g1 g2 (by rw [g3, List.length_drop]) g4
      have m2 := Mz_E m1 hc (p' + 1)
      rw [eI_s] at m2
      exact m2
theorem z_dropEnd {z : Sz} {t : MS} (hs : Sm z) (h : Mz z (mZ t)) {c : Nat} (hc : c < 160) {p : Nat} (hp : p < 40) (hE : z.E c = p + 1) (hu : z.U p ≠ 0) :
    Gd (fun t' => ∃ f, t' = sMZ t f ∧ Mz (sX (sE z (fu z.E c 0)) (dU z.U p) (dX z.U z.X p)) f) (fM_dropEnd (nI c) t) := by
  have hb := hs.u p
  unfold fM_dropEnd
  simp only [gw_let]
  rw [show (640 : Int32) = nI 640 by rfl, nI_add, if_pos (inb_nI (by omega) (by omega)), if_pos (inb_nI (by omega) (by omega)), nI_clamp' (by omega), h.e c hc, hE, eI_s, i14, if_pos (inb_nI (by omega) (by omega)), if_pos (inb_nI (by omega) (by omega))]
  simp only [nI_clamp' (show 800 + 14 * p < 2147483648 by omega)]
  have m1 := Mz_E h hc 0
  have hz0 : upd (mZ t) (640 + c) (-1) (800 + 14 * p) = nI (z.U p) := by
    rw [upd_ne _ _ (by omega)]; exact h.u p hp
  have hz1 : (mZ (sMZ t (upd (mZ t) (640 + c) (-1))) (800 + 14 * p)) - 1 = nI (z.U p - 1) := by
    show upd (mZ t) (640 + c) (-1) (800 + 14 * p) - 1 = _
    rw [hz0, show (1 : Int32) = nI 1 by rfl, nI_sub (by omega)]
  rw [hz1]
  have m1' : Mz (sE z (fu z.E c 0)) (upd (mZ t) (640 + c) (-1)) := m1
  refine gd_bind (P := fun t' => ∃ f, t' = sMZ t f ∧ Mz (sX (sE z (fu z.E c 0)) (dU z.U p) (dX z.U z.X p)) f) ?_ (fun a ha => gd_some ha)
  by_cases e : z.U p = 1
  · refine gd_lp (fun k y => ∃ f, y = (nI (k + 1), sMZ t f) ∧ (∀ j, j < 800 + 14 * p ∨ 814 + 14 * p ≤ j → f j = upd (mZ t) (640 + c) (-1) j) ∧ f (800 + 14 * p) = nI 0 ∧ ∀ i, i < k → f (800 + 14 * p + 1 + i) = nI 0) 13 ⟨_, rfl, ?_, ?_, fun i hi => by omega⟩ ?_ (by omega)
    · intro j hj; exact upd_ne _ _ (by omega)
    · rw [upd_eq, e]
    · rintro k y hk ⟨f, rfl, g1, g2, g3⟩
      try dsimp only
      by_cases e1 : k = 13
      · subst e1
        rw [if_pos (show (14 : Int32) ≤ nI (13 + 1) by decide)]
        refine gd_inl ⟨f, rfl, ?_⟩
        have m2 := Mz_X m1' (q := p) (r' := f) hp (z.U p - 1) [] g1 (by rw [g2, e]) (g3 0 (by omega)) (fun i hi => by
          have := g3 (i + 1) (by omega)
          rw [show 800 + 14 * p + 1 + (i + 1) = 800 + 14 * p + 2 + i by omega] at this
          rw [this, List.drop_nil]; rfl)
        rw [dX, if_pos e]
        exact m2
      · rw [if_neg (show ¬ (14 : Int32) ≤ nI (k + 1) from nI_ge (b := 14) (by omega) (by omega)), if_pos (inb_nI (by omega) (by omega))]
        rw [if_pos (show f (800 + 14 * p) = 0 from g2), nI_add, if_pos (inb_nI (by omega) (by omega)), upd_nI _ (by omega), nI_1]
        refine gd_inr (by omega) ⟨upd f (800 + 14 * p + (k + 1)) 0, rfl, ?_, ?_, ?_⟩
        · intro j hj; rw [upd_ne _ _ (by omega)]; exact g1 j hj
        · rw [upd_ne _ _ (by omega)]; exact g2
        · intro i hi
          by_cases e3 : i = k
          · rw [e3, show 800 + 14 * p + 1 + k = 800 + 14 * p + (k + 1) by omega, upd_eq]; rfl
          · rw [upd_ne _ _ (by omega)]; exact g3 i (by omega)
  · refine gd_lp (fun k y => k = 0 ∧ y = (nI 1, sMZ t (upd (upd (mZ t) (640 + c) (-1)) (800 + 14 * p) (nI (z.U p - 1))))) 0 ⟨rfl, rfl⟩ ?_ (by omega)
    rintro k y hk ⟨-, rfl⟩
    try dsimp only
    rw [if_neg (show ¬ (14 : Int32) ≤ nI 1 by decide), if_pos (inb_nI (by omega) (by omega))]
    rw [if_neg (show ¬ upd (upd (mZ t) (640 + c) (-1)) (800 + 14 * p) (nI (z.U p - 1)) (800 + 14 * p) = 0 by rw [upd_eq]; exact nI_ne0 (by omega) (by omega))]
    refine gd_inl ⟨_, rfl, ?_⟩
    have m2 := Mz_X m1' (q := p) (r' := upd (upd (mZ t) (640 + c) (-1)) (800 + 14 * p) (nI (z.U p - 1))) hp (z.U p - 1) (z.X p) (fun j hj => by rw [upd_ne _ _ (by omega)]) (by rw [upd_eq]) (by rw [upd_ne _ _ (by omega)]; exact m1'.n p hp) (fun i hi => by rw [upd_ne _ _ (by omega)]; exact m1'.x p i hp hi)
    rw [dX, if_neg e]
    have e5 : fu z.X p (z.X p) = z.X := fu_same rfl
    show Mz (sX _ (fu z.U p (z.U p - 1)) z.X) _
    rw [← e5]
    exact m2
